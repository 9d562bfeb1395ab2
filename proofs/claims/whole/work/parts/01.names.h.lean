theorem dX12_up_33 : decode cX12_up 33 = .ok (.iconst (-1), 1) := by decide +kernel
theorem dX12_up_34 : decode cX12_up 34 = .ok (.if_icmp .ne 35, 3) := by decide +kernel
theorem dX12_up_37 : decode cX12_up 37 = .ok (.aload_n 0, 1) := by decide +kernel
theorem dX12_up_38 : decode cX12_up 38 = .ok (.iconst 1, 1) := by decide +kernel
theorem dX12_up_39 : decode cX12_up 39 = .ok (.invokevirtual 329, 3) := by decide +kernel
theorem dX12_up_42 : decode cX12_up 42 = .ok (.pop, 1) := by decide +kernel
theorem dX12_up_43 : decode cX12_up 43 = .ok (.aload_n 0, 1) := by decide +kernel
theorem dX12_up_44 : decode cX12_up 44 = .ok (.getfield 42, 3) := by decide +kernel
theorem dX12_up_47 : decode cX12_up 47 = .ok (.iload_n 1, 1) := by decide +kernel
theorem dX12_up_48 : decode cX12_up 48 = .ok (.iaload, 1) := by decide +kernel
theorem dX12_up_49 : decode cX12_up 49 = .ok (.iload_n 2, 1) := by decide +kernel
theorem dX12_up_50 : decode cX12_up 50 = .ok (.invokestatic 305, 3) := by decide +kernel
theorem dX12_up_53 : decode cX12_up 53 = .ok (.ifCond .eq 8, 3) := by decide +kernel
theorem dX12_up_56 : decode cX12_up 56 = .ok (.iload 4, 2) := by decide +kernel
theorem dX12_up_58 : decode cX12_up 58 = .ok (.goto 4, 3) := by decide +kernel
theorem dX12_up_61 : decode cX12_up 61 = .ok (.iconst (-1), 1) := by decide +kernel
theorem dX12_up_62 : decode cX12_up 62 = .ok (.istore_n 3, 1) := by decide +kernel
theorem dX12_up_63 : decode cX12_up 63 = .ok (.iinc 4 1, 3) := by decide +kernel
theorem dX12_up_66 : decode cX12_up 66 = .ok (.goto (-42), 3) := by decide +kernel
theorem dX12_up_69 : decode cX12_up 69 = .ok (.aload_n 0, 1) := by decide +kernel
theorem dX12_up_70 : decode cX12_up 70 = .ok (.invokevirtual 370, 3) := by decide +kernel
theorem dX12_up_73 : decode cX12_up 73 = .ok (.iload_n 3, 1) := by decide +kernel
theorem dX12_up_74 : decode cX12_up 74 = .ok (.ireturn, 1) := by decide +kernel
theorem dX12_placeBy_0 : decode cX12_placeBy 0 = .ok (.aload_n 0, 1) := by decide +kernel
theorem dX12_placeBy_1 : decode cX12_placeBy 1 = .ok (.iload_n 1, 1) := by decide +kernel
theorem dX12_placeBy_2 : decode cX12_placeBy 2 = .ok (.iconst 0, 1) := by decide +kernel
theorem dX12_placeBy_3 : decode cX12_placeBy 3 = .ok (.invokevirtual 88, 3) := by decide +kernel
theorem dX12_placeBy_6 : decode cX12_placeBy 6 = .ok (.iload_n 2, 1) := by decide +kernel
theorem dX12_placeBy_7 : decode cX12_placeBy 7 = .ok (.aload_n 0, 1) := by decide +kernel
theorem dX12_placeBy_8 : decode cX12_placeBy 8 = .ok (.iload_n 1, 1) := by decide +kernel
theorem dX12_placeBy_9 : decode cX12_placeBy 9 = .ok (.iconst 1, 1) := by decide +kernel
theorem dX12_placeBy_10 : decode cX12_placeBy 10 = .ok (.invokevirtual 88, 3) := by decide +kernel
theorem dX12_placeBy_13 : decode cX12_placeBy 13 = .ok (.imul, 1) := by decide +kernel
theorem dX12_placeBy_14 : decode cX12_placeBy 14 = .ok (.iadd, 1) := by decide +kernel
theorem dX12_placeBy_15 : decode cX12_placeBy 15 = .ok (.aload_n 0, 1) := by decide +kernel
theorem dX12_placeBy_16 : decode cX12_placeBy 16 = .ok (.invokevirtual 84, 3) := by decide +kernel
theorem dX12_placeBy_19 : decode cX12_placeBy 19 = .ok (.irem, 1) := by decide +kernel
theorem dX12_placeBy_20 : decode cX12_placeBy 20 = .ok (.ireturn, 1) := by decide +kernel
theorem dX12_alone_0 : decode cX12_alone 0 = .ok (.aload_n 0, 1) := by decide +kernel
theorem dX12_alone_1 : decode cX12_alone 1 = .ok (.iconst 0, 1) := by decide +kernel
theorem dX12_alone_2 : decode cX12_alone 2 = .ok (.putfield 3, 3) := by decide +kernel
theorem dX12_alone_5 : decode cX12_alone 5 = .ok (.aload_n 0, 1) := by decide +kernel
theorem dX12_alone_6 : decode cX12_alone 6 = .ok (.aload_n 0, 1) := by decide +kernel
theorem dX12_alone_7 : decode cX12_alone 7 = .ok (.iload_n 1, 1) := by decide +kernel
theorem dX12_alone_8 : decode cX12_alone 8 = .ok (.invokevirtual 342, 3) := by decide +kernel
theorem dX12_alone_11 : decode cX12_alone 11 = .ok (.ifCond .ne 11, 3) := by decide +kernel
theorem dX12_alone_14 : decode cX12_alone 14 = .ok (.aload_n 0, 1) := by decide +kernel
theorem dX12_alone_15 : decode cX12_alone 15 = .ok (.iload_n 2, 1) := by decide +kernel
theorem dX12_alone_16 : decode cX12_alone 16 = .ok (.invokevirtual 354, 3) := by decide +kernel
theorem dX12_alone_19 : decode cX12_alone 19 = .ok (.ifCond .eq 7, 3) := by decide +kernel
theorem dX12_alone_22 : decode cX12_alone 22 = .ok (.iconst 1, 1) := by decide +kernel
theorem dX12_alone_23 : decode cX12_alone 23 = .ok (.goto 4, 3) := by decide +kernel
theorem dX12_alone_26 : decode cX12_alone 26 = .ok (.iconst 0, 1) := by decide +kernel
theorem dX12_alone_27 : decode cX12_alone 27 = .ok (.iconst 1, 1) := by decide +kernel
theorem dX12_alone_28 : decode cX12_alone 28 = .ok (.invokevirtual 277, 3) := by decide +kernel
theorem dX12_alone_31 : decode cX12_alone 31 = .ok (.ifCond .eq 5, 3) := by decide +kernel
theorem dX12_alone_34 : decode cX12_alone 34 = .ok (.iconst 0, 1) := by decide +kernel
theorem dX12_alone_35 : decode cX12_alone 35 = .ok (.ireturn, 1) := by decide +kernel
theorem dX12_alone_36 : decode cX12_alone 36 = .ok (.iconst (-1), 1) := by decide +kernel
theorem dX12_alone_37 : decode cX12_alone 37 = .ok (.istore_n 3, 1) := by decide +kernel
theorem dX12_alone_38 : decode cX12_alone 38 = .ok (.sipush 200, 3) := by decide +kernel
theorem dX12_alone_41 : decode cX12_alone 41 = .ok (.istore 4, 2) := by decide +kernel
theorem dX12_alone_43 : decode cX12_alone 43 = .ok (.iload 4, 2) := by decide +kernel
theorem dX12_alone_45 : decode cX12_alone 45 = .ok (.ifCond .lt 27, 3) := by decide +kernel
theorem dX12_alone_48 : decode cX12_alone 48 = .ok (.aload_n 0, 1) := by decide +kernel
theorem dX12_alone_49 : decode cX12_alone 49 = .ok (.iload_n 1, 1) := by decide +kernel
theorem dX12_alone_50 : decode cX12_alone 50 = .ok (.iload 4, 2) := by decide +kernel
theorem dX12_alone_52 : decode cX12_alone 52 = .ok (.invokevirtual 403, 3) := by decide +kernel
theorem dX12_alone_55 : decode cX12_alone 55 = .ok (.iload_n 2, 1) := by decide +kernel
theorem dX12_alone_56 : decode cX12_alone 56 = .ok (.if_icmp .ne 8, 3) := by decide +kernel
theorem dX12_alone_59 : decode cX12_alone 59 = .ok (.iload 4, 2) := by decide +kernel
theorem dX12_alone_61 : decode cX12_alone 61 = .ok (.goto 4, 3) := by decide +kernel
theorem dX12_alone_64 : decode cX12_alone 64 = .ok (.iload_n 3, 1) := by decide +kernel
theorem dX12_alone_65 : decode cX12_alone 65 = .ok (.istore_n 3, 1) := by decide +kernel
theorem dX12_alone_66 : decode cX12_alone 66 = .ok (.iinc 4 (-1), 3) := by decide +kernel
theorem dX12_alone_69 : decode cX12_alone 69 = .ok (.goto (-26), 3) := by decide +kernel
theorem dX12_alone_72 : decode cX12_alone 72 = .ok (.iload_n 3, 1) := by decide +kernel
theorem dX12_alone_73 : decode cX12_alone 73 = .ok (.ireturn, 1) := by decide +kernel
theorem dX12_both_0 : decode cX12_both 0 = .ok (.aload_n 0, 1) := by decide +kernel
theorem dX12_both_1 : decode cX12_both 1 = .ok (.iload_n 1, 1) := by decide +kernel
theorem dX12_both_2 : decode cX12_both 2 = .ok (.iload_n 2, 1) := by decide +kernel
theorem dX12_both_3 : decode cX12_both 3 = .ok (.invokevirtual 348, 3) := by decide +kernel
theorem dX12_both_6 : decode cX12_both 6 = .ok (.ifCond .eq 5, 3) := by decide +kernel
theorem dX12_both_9 : decode cX12_both 9 = .ok (.iconst 0, 1) := by decide +kernel
theorem dX12_both_10 : decode cX12_both 10 = .ok (.ireturn, 1) := by decide +kernel
theorem dX12_both_11 : decode cX12_both 11 = .ok (.iconst (-1), 1) := by decide +kernel
theorem dX12_both_12 : decode cX12_both 12 = .ok (.istore_n 3, 1) := by decide +kernel
theorem dX12_both_13 : decode cX12_both 13 = .ok (.sipush 200, 3) := by decide +kernel
theorem dX12_both_16 : decode cX12_both 16 = .ok (.istore 4, 2) := by decide +kernel
theorem dX12_both_18 : decode cX12_both 18 = .ok (.iload 4, 2) := by decide +kernel
theorem dX12_both_20 : decode cX12_both 20 = .ok (.ifCond .lt 33, 3) := by decide +kernel
theorem dX12_both_23 : decode cX12_both 23 = .ok (.aload_n 0, 1) := by decide +kernel
theorem dX12_both_24 : decode cX12_both 24 = .ok (.iload_n 1, 1) := by decide +kernel
theorem dX12_both_25 : decode cX12_both 25 = .ok (.iload 4, 2) := by decide +kernel
theorem dX12_both_27 : decode cX12_both 27 = .ok (.invokevirtual 403, 3) := by decide +kernel
theorem dX12_both_30 : decode cX12_both 30 = .ok (.aload_n 0, 1) := by decide +kernel
theorem dX12_both_31 : decode cX12_both 31 = .ok (.iload_n 2, 1) := by decide +kernel
theorem dX12_both_32 : decode cX12_both 32 = .ok (.iload 4, 2) := by decide +kernel
theorem dX12_both_34 : decode cX12_both 34 = .ok (.invokevirtual 403, 3) := by decide +kernel
theorem dX12_both_37 : decode cX12_both 37 = .ok (.if_icmp .ne 8, 3) := by decide +kernel
theorem dX12_both_40 : decode cX12_both 40 = .ok (.iload 4, 2) := by decide +kernel
theorem dX12_both_42 : decode cX12_both 42 = .ok (.goto 4, 3) := by decide +kernel
theorem dX12_both_45 : decode cX12_both 45 = .ok (.iload_n 3, 1) := by decide +kernel
theorem dX12_both_46 : decode cX12_both 46 = .ok (.istore_n 3, 1) := by decide +kernel
theorem dX12_both_47 : decode cX12_both 47 = .ok (.iinc 4 (-1), 3) := by decide +kernel
theorem dX12_both_50 : decode cX12_both 50 = .ok (.goto (-32), 3) := by decide +kernel
theorem dX12_both_53 : decode cX12_both 53 = .ok (.iload_n 3, 1) := by decide +kernel
theorem dX12_both_54 : decode cX12_both 54 = .ok (.ireturn, 1) := by decide +kernel
theorem dX12_period_0 : decode cX12_period 0 = .ok (.aload_n 0, 1) := by decide +kernel
theorem dX12_period_1 : decode cX12_period 1 = .ok (.iconst 0, 1) := by decide +kernel
theorem dX12_period_2 : decode cX12_period 2 = .ok (.putfield 3, 3) := by decide +kernel
theorem dX12_period_5 : decode cX12_period 5 = .ok (.aload_n 0, 1) := by decide +kernel
theorem dX12_period_6 : decode cX12_period 6 = .ok (.aload_n 0, 1) := by decide +kernel
theorem dX12_period_7 : decode cX12_period 7 = .ok (.iload_n 1, 1) := by decide +kernel
theorem dX12_period_8 : decode cX12_period 8 = .ok (.invokevirtual 342, 3) := by decide +kernel
theorem dX12_period_11 : decode cX12_period 11 = .ok (.iconst 1, 1) := by decide +kernel
theorem dX12_period_12 : decode cX12_period 12 = .ok (.invokevirtual 277, 3) := by decide +kernel
theorem dX12_period_15 : decode cX12_period 15 = .ok (.ifCond .eq 5, 3) := by decide +kernel
theorem dX12_period_18 : decode cX12_period 18 = .ok (.iconst 0, 1) := by decide +kernel
theorem dX12_period_19 : decode cX12_period 19 = .ok (.ireturn, 1) := by decide +kernel
theorem dX12_period_20 : decode cX12_period 20 = .ok (.iconst 1, 1) := by decide +kernel
theorem dX12_period_21 : decode cX12_period 21 = .ok (.istore_n 2, 1) := by decide +kernel
theorem dX12_period_22 : decode cX12_period 22 = .ok (.aload_n 0, 1) := by decide +kernel
theorem dX12_period_23 : decode cX12_period 23 = .ok (.iload_n 1, 1) := by decide +kernel
theorem dX12_period_24 : decode cX12_period 24 = .ok (.iload_n 2, 1) := by decide +kernel
theorem dX12_period_25 : decode cX12_period 25 = .ok (.invokevirtual 403, 3) := by decide +kernel
theorem dX12_period_28 : decode cX12_period 28 = .ok (.aload_n 0, 1) := by decide +kernel
theorem dX12_period_29 : decode cX12_period 29 = .ok (.iload_n 1, 1) := by decide +kernel
theorem dX12_period_30 : decode cX12_period 30 = .ok (.iconst 0, 1) := by decide +kernel
theorem dX12_period_31 : decode cX12_period 31 = .ok (.invokevirtual 88, 3) := by decide +kernel
theorem dX12_period_34 : decode cX12_period 34 = .ok (.if_icmp .eq 9, 3) := by decide +kernel
theorem dX12_period_37 : decode cX12_period 37 = .ok (.iinc 2 1, 3) := by decide +kernel
theorem dX12_period_40 : decode cX12_period 40 = .ok (.goto (-18), 3) := by decide +kernel
theorem dX12_period_43 : decode cX12_period 43 = .ok (.iload_n 2, 1) := by decide +kernel
theorem dX12_period_44 : decode cX12_period 44 = .ok (.ireturn, 1) := by decide +kernel
theorem dX12_circleIf_0 : decode cX12_circleIf 0 = .ok (.aload_n 0, 1) := by decide +kernel
theorem dX12_circleIf_1 : decode cX12_circleIf 1 = .ok (.invokevirtual 367, 3) := by decide +kernel
theorem dX12_circleIf_4 : decode cX12_circleIf 4 = .ok (.aload_n 0, 1) := by decide +kernel
theorem dX12_circleIf_5 : decode cX12_circleIf 5 = .ok (.invokevirtual 326, 3) := by decide +kernel
theorem dX12_circleIf_8 : decode cX12_circleIf 8 = .ok (.iconst 0, 1) := by decide +kernel
theorem dX12_circleIf_9 : decode cX12_circleIf 9 = .ok (.istore 4, 2) := by decide +kernel
theorem dX12_circleIf_11 : decode cX12_circleIf 11 = .ok (.iload 4, 2) := by decide +kernel
theorem dX12_circleIf_13 : decode cX12_circleIf 13 = .ok (.iload_n 3, 1) := by decide +kernel
theorem dX12_circleIf_14 : decode cX12_circleIf 14 = .ok (.if_icmp .ge 33, 3) := by decide +kernel
theorem dX12_circleIf_17 : decode cX12_circleIf 17 = .ok (.aload_n 0, 1) := by decide +kernel
theorem dX12_circleIf_18 : decode cX12_circleIf 18 = .ok (.iload_n 2, 1) := by decide +kernel
theorem dX12_circleIf_19 : decode cX12_circleIf 19 = .ok (.iload 4, 2) := by decide +kernel
theorem dX12_circleIf_21 : decode cX12_circleIf 21 = .ok (.invokestatic 305, 3) := by decide +kernel
theorem dX12_circleIf_24 : decode cX12_circleIf 24 = .ok (.ifCond .eq 7, 3) := by decide +kernel
theorem dX12_circleIf_27 : decode cX12_circleIf 27 = .ok (.iload_n 1, 1) := by decide +kernel
theorem dX12_circleIf_28 : decode cX12_circleIf 28 = .ok (.goto 4, 3) := by decide +kernel
theorem dX12_circleIf_31 : decode cX12_circleIf 31 = .ok (.iconst (-1), 1) := by decide +kernel
theorem dX12_circleIf_32 : decode cX12_circleIf 32 = .ok (.putfield 45, 3) := by decide +kernel
theorem dX12_circleIf_35 : decode cX12_circleIf 35 = .ok (.aload_n 0, 1) := by decide +kernel
theorem dX12_circleIf_36 : decode cX12_circleIf 36 = .ok (.iconst 1, 1) := by decide +kernel
theorem dX12_circleIf_37 : decode cX12_circleIf 37 = .ok (.invokevirtual 329, 3) := by decide +kernel
theorem dX12_circleIf_40 : decode cX12_circleIf 40 = .ok (.pop, 1) := by decide +kernel
theorem dX12_circleIf_41 : decode cX12_circleIf 41 = .ok (.iinc 4 1, 3) := by decide +kernel
theorem dX12_circleIf_44 : decode cX12_circleIf 44 = .ok (.goto (-33), 3) := by decide +kernel
theorem dX12_circleIf_47 : decode cX12_circleIf 47 = .ok (.aload_n 0, 1) := by decide +kernel
theorem dX12_circleIf_48 : decode cX12_circleIf 48 = .ok (.iconst (-1), 1) := by decide +kernel
theorem dX12_circleIf_49 : decode cX12_circleIf 49 = .ok (.putfield 45, 3) := by decide +kernel
theorem dX12_circleIf_52 : decode cX12_circleIf 52 = .ok (.aload_n 0, 1) := by decide +kernel
theorem dX12_circleIf_53 : decode cX12_circleIf 53 = .ok (.invokevirtual 370, 3) := by decide +kernel
theorem dX12_circleIf_56 : decode cX12_circleIf 56 = .ok (.aload_n 0, 1) := by decide +kernel
theorem dX12_circleIf_57 : decode cX12_circleIf 57 = .ok (.getfield 42, 3) := by decide +kernel
theorem dX12_circleIf_60 : decode cX12_circleIf 60 = .ok (.iload_n 1, 1) := by decide +kernel
theorem dX12_circleIf_61 : decode cX12_circleIf 61 = .ok (.iaload, 1) := by decide +kernel
theorem dX12_circleIf_62 : decode cX12_circleIf 62 = .ok (.ireturn, 1) := by decide +kernel
theorem dX12_stands_0 : decode cX12_stands 0 = .ok (.aload_n 0, 1) := by decide +kernel
theorem dX12_stands_1 : decode cX12_stands 1 = .ok (.iconst 0, 1) := by decide +kernel
theorem dX12_stands_2 : decode cX12_stands 2 = .ok (.putfield 3, 3) := by decide +kernel
theorem dX12_stands_5 : decode cX12_stands 5 = .ok (.aload_n 0, 1) := by decide +kernel
theorem dX12_stands_6 : decode cX12_stands 6 = .ok (.aload_n 0, 1) := by decide +kernel
theorem dX12_stands_7 : decode cX12_stands 7 = .ok (.iload_n 1, 1) := by decide +kernel
theorem dX12_stands_8 : decode cX12_stands 8 = .ok (.invokevirtual 342, 3) := by decide +kernel
theorem dX12_stands_11 : decode cX12_stands 11 = .ok (.iconst 1, 1) := by decide +kernel
theorem dX12_stands_12 : decode cX12_stands 12 = .ok (.invokevirtual 277, 3) := by decide +kernel
theorem dX12_stands_15 : decode cX12_stands 15 = .ok (.ifCond .ne 26, 3) := by decide +kernel
theorem dX12_stands_18 : decode cX12_stands 18 = .ok (.aload_n 0, 1) := by decide +kernel
theorem dX12_stands_19 : decode cX12_stands 19 = .ok (.iload_n 3, 1) := by decide +kernel
theorem dX12_stands_20 : decode cX12_stands 20 = .ok (.iconst 1, 1) := by decide +kernel
theorem dX12_stands_21 : decode cX12_stands 21 = .ok (.bipush 6, 2) := by decide +kernel
theorem dX12_stands_23 : decode cX12_stands 23 = .ok (.invokestatic 97, 3) := by decide +kernel
theorem dX12_stands_26 : decode cX12_stands 26 = .ok (.ifCond .ne 7, 3) := by decide +kernel
theorem dX12_stands_29 : decode cX12_stands 29 = .ok (.iconst 1, 1) := by decide +kernel
theorem dX12_stands_30 : decode cX12_stands 30 = .ok (.goto 4, 3) := by decide +kernel
theorem dX12_stands_33 : decode cX12_stands 33 = .ok (.iconst 0, 1) := by decide +kernel
theorem dX12_stands_34 : decode cX12_stands 34 = .ok (.iconst 2, 1) := by decide +kernel
theorem dX12_stands_35 : decode cX12_stands 35 = .ok (.invokevirtual 277, 3) := by decide +kernel
theorem dX12_stands_38 : decode cX12_stands 38 = .ok (.ifCond .eq 5, 3) := by decide +kernel
theorem dX12_stands_41 : decode cX12_stands 41 = .ok (.iconst 0, 1) := by decide +kernel
theorem dX12_stands_42 : decode cX12_stands 42 = .ok (.ireturn, 1) := by decide +kernel
theorem dX12_stands_43 : decode cX12_stands 43 = .ok (.iload_n 2, 1) := by decide +kernel
theorem dX12_stands_44 : decode cX12_stands 44 = .ok (.aload_n 0, 1) := by decide +kernel
theorem dX12_stands_45 : decode cX12_stands 45 = .ok (.invokevirtual 376, 3) := by decide +kernel
theorem dX12_stands_48 : decode cX12_stands 48 = .ok (.iand, 1) := by decide +kernel
theorem dX12_stands_49 : decode cX12_stands 49 = .ok (.iconst 1, 1) := by decide +kernel
theorem dX12_stands_50 : decode cX12_stands 50 = .ok (.iload_n 1, 1) := by decide +kernel
theorem dX12_stands_51 : decode cX12_stands 51 = .ok (.ishl, 1) := by decide +kernel
theorem dX12_stands_52 : decode cX12_stands 52 = .ok (.iconst (-1), 1) := by decide +kernel
theorem dX12_stands_53 : decode cX12_stands 53 = .ok (.ixor, 1) := by decide +kernel
theorem dX12_stands_54 : decode cX12_stands 54 = .ok (.iand, 1) := by decide +kernel
theorem dX12_stands_55 : decode cX12_stands 55 = .ok (.istore 4, 2) := by decide +kernel
theorem dX12_stands_57 : decode cX12_stands 57 = .ok (.iconst (-1), 1) := by decide +kernel
theorem dX12_stands_58 : decode cX12_stands 58 = .ok (.istore 5, 2) := by decide +kernel
theorem dX12_stands_60 : decode cX12_stands 60 = .ok (.iconst 0, 1) := by decide +kernel
theorem dX12_stands_61 : decode cX12_stands 61 = .ok (.istore 6, 2) := by decide +kernel
theorem dX12_stands_63 : decode cX12_stands 63 = .ok (.iload 6, 2) := by decide +kernel
theorem dX12_stands_65 : decode cX12_stands 65 = .ok (.iconst 1, 1) := by decide +kernel
theorem dX12_stands_66 : decode cX12_stands 66 = .ok (.iload_n 3, 1) := by decide +kernel
theorem dX12_stands_67 : decode cX12_stands 67 = .ok (.ishl, 1) := by decide +kernel
theorem dX12_stands_68 : decode cX12_stands 68 = .ok (.if_icmp .ge 45, 3) := by decide +kernel
theorem dX12_stands_71 : decode cX12_stands 71 = .ok (.iload 5, 2) := by decide +kernel
theorem dX12_stands_73 : decode cX12_stands 73 = .ok (.iconst (-1), 1) := by decide +kernel
theorem dX12_stands_74 : decode cX12_stands 74 = .ok (.if_icmp .eq 16, 3) := by decide +kernel
theorem dX12_stands_77 : decode cX12_stands 77 = .ok (.iload 6, 2) := by decide +kernel
theorem dX12_stands_79 : decode cX12_stands 79 = .ok (.invokestatic 287, 3) := by decide +kernel
theorem dX12_stands_82 : decode cX12_stands 82 = .ok (.iload 5, 2) := by decide +kernel
theorem dX12_stands_84 : decode cX12_stands 84 = .ok (.invokestatic 287, 3) := by decide +kernel
theorem dX12_stands_87 : decode cX12_stands 87 = .ok (.if_icmp .ge 20, 3) := by decide +kernel
theorem dX12_stands_90 : decode cX12_stands 90 = .ok (.aload_n 0, 1) := by decide +kernel
theorem dX12_stands_91 : decode cX12_stands 91 = .ok (.iload_n 1, 1) := by decide +kernel
theorem dX12_stands_92 : decode cX12_stands 92 = .ok (.iload 6, 2) := by decide +kernel
theorem dX12_stands_94 : decode cX12_stands 94 = .ok (.iload_n 3, 1) := by decide +kernel
theorem dX12_stands_95 : decode cX12_stands 95 = .ok (.invokevirtual 406, 3) := by decide +kernel
theorem dX12_stands_98 : decode cX12_stands 98 = .ok (.iload 4, 2) := by decide +kernel
theorem dX12_stands_100 : decode cX12_stands 100 = .ok (.if_icmp .ne 7, 3) := by decide +kernel
theorem dX12_stands_103 : decode cX12_stands 103 = .ok (.iload 6, 2) := by decide +kernel
theorem dX12_stands_105 : decode cX12_stands 105 = .ok (.istore 5, 2) := by decide +kernel
theorem dX12_stands_107 : decode cX12_stands 107 = .ok (.iinc 6 1, 3) := by decide +kernel
theorem dX12_stands_110 : decode cX12_stands 110 = .ok (.goto (-47), 3) := by decide +kernel
theorem dX12_stands_113 : decode cX12_stands 113 = .ok (.iload 5, 2) := by decide +kernel
theorem dX12_stands_115 : decode cX12_stands 115 = .ok (.ireturn, 1) := by decide +kernel
theorem dX12_isBacks_0 : decode cX12_isBacks 0 = .ok (.aload_n 0, 1) := by decide +kernel
theorem dX12_isBacks_1 : decode cX12_isBacks 1 = .ok (.getfield 111, 3) := by decide +kernel
theorem dX12_isBacks_4 : decode cX12_isBacks 4 = .ok (.iconst 2, 1) := by decide +kernel
theorem dX12_isBacks_5 : decode cX12_isBacks 5 = .ok (.irem, 1) := by decide +kernel
theorem dX12_isBacks_6 : decode cX12_isBacks 6 = .ok (.ifCond .ne 16, 3) := by decide +kernel
theorem dX12_isBacks_9 : decode cX12_isBacks 9 = .ok (.aload_n 0, 1) := by decide +kernel
theorem dX12_isBacks_10 : decode cX12_isBacks 10 = .ok (.getfield 111, 3) := by decide +kernel
theorem dX12_isBacks_13 : decode cX12_isBacks 13 = .ok (.bipush 40, 2) := by decide +kernel
theorem dX12_isBacks_15 : decode cX12_isBacks 15 = .ok (.if_icmp .gt 7, 3) := by decide +kernel
theorem dX12_isBacks_18 : decode cX12_isBacks 18 = .ok (.iconst 1, 1) := by decide +kernel
theorem dX12_isBacks_19 : decode cX12_isBacks 19 = .ok (.goto 4, 3) := by decide +kernel
theorem dX12_isBacks_22 : decode cX12_isBacks 22 = .ok (.iconst 0, 1) := by decide +kernel
theorem dX12_isBacks_23 : decode cX12_isBacks 23 = .ok (.istore_n 1, 1) := by decide +kernel
theorem dX12_isBacks_24 : decode cX12_isBacks 24 = .ok (.iconst 0, 1) := by decide +kernel
theorem dX12_isBacks_25 : decode cX12_isBacks 25 = .ok (.istore_n 2, 1) := by decide +kernel
theorem dX12_isBacks_26 : decode cX12_isBacks 26 = .ok (.iload_n 2, 1) := by decide +kernel
theorem dX12_isBacks_27 : decode cX12_isBacks 27 = .ok (.aload_n 0, 1) := by decide +kernel
theorem dX12_isBacks_28 : decode cX12_isBacks 28 = .ok (.getfield 111, 3) := by decide +kernel
theorem dX12_isBacks_31 : decode cX12_isBacks 31 = .ok (.if_icmp .ge 64, 3) := by decide +kernel
theorem dX12_isBacks_34 : decode cX12_isBacks 34 = .ok (.iload_n 1, 1) := by decide +kernel
theorem dX12_isBacks_35 : decode cX12_isBacks 35 = .ok (.ifCond .eq 60, 3) := by decide +kernel
theorem dX12_isBacks_38 : decode cX12_isBacks 38 = .ok (.aload_n 0, 1) := by decide +kernel
theorem dX12_isBacks_39 : decode cX12_isBacks 39 = .ok (.aload_n 0, 1) := by decide +kernel
theorem dX12_isBacks_40 : decode cX12_isBacks 40 = .ok (.getfield 29, 3) := by decide +kernel
theorem dX12_isBacks_43 : decode cX12_isBacks 43 = .ok (.iload_n 2, 1) := by decide +kernel
theorem dX12_isBacks_44 : decode cX12_isBacks 44 = .ok (.baload, 1) := by decide +kernel
theorem dX12_isBacks_45 : decode cX12_isBacks 45 = .ok (.invokevirtual 342, 3) := by decide +kernel
theorem dX12_isBacks_48 : decode cX12_isBacks 48 = .ok (.ifCond .ne 39, 3) := by decide +kernel
theorem dX12_isBacks_51 : decode cX12_isBacks 51 = .ok (.aload_n 0, 1) := by decide +kernel
theorem dX12_isBacks_52 : decode cX12_isBacks 52 = .ok (.aload_n 0, 1) := by decide +kernel
theorem dX12_isBacks_53 : decode cX12_isBacks 53 = .ok (.getfield 29, 3) := by decide +kernel
theorem dX12_isBacks_56 : decode cX12_isBacks 56 = .ok (.iload_n 2, 1) := by decide +kernel
theorem dX12_isBacks_57 : decode cX12_isBacks 57 = .ok (.iconst 1, 1) := by decide +kernel
theorem dX12_isBacks_58 : decode cX12_isBacks 58 = .ok (.iadd, 1) := by decide +kernel
theorem dX12_isBacks_59 : decode cX12_isBacks 59 = .ok (.baload, 1) := by decide +kernel
theorem dX12_isBacks_60 : decode cX12_isBacks 60 = .ok (.invokevirtual 342, 3) := by decide +kernel
theorem dX12_isBacks_63 : decode cX12_isBacks 63 = .ok (.ifCond .ne 24, 3) := by decide +kernel
theorem dX12_isBacks_66 : decode cX12_isBacks 66 = .ok (.aload_n 0, 1) := by decide +kernel
theorem dX12_isBacks_67 : decode cX12_isBacks 67 = .ok (.getfield 29, 3) := by decide +kernel
theorem dX12_isBacks_70 : decode cX12_isBacks 70 = .ok (.iload_n 2, 1) := by decide +kernel
theorem dX12_isBacks_71 : decode cX12_isBacks 71 = .ok (.baload, 1) := by decide +kernel
theorem dX12_isBacks_72 : decode cX12_isBacks 72 = .ok (.aload_n 0, 1) := by decide +kernel
theorem dX12_isBacks_73 : decode cX12_isBacks 73 = .ok (.getfield 29, 3) := by decide +kernel
theorem dX12_isBacks_76 : decode cX12_isBacks 76 = .ok (.iload_n 2, 1) := by decide +kernel
theorem dX12_isBacks_77 : decode cX12_isBacks 77 = .ok (.iconst 1, 1) := by decide +kernel
theorem dX12_isBacks_78 : decode cX12_isBacks 78 = .ok (.iadd, 1) := by decide +kernel
theorem dX12_isBacks_79 : decode cX12_isBacks 79 = .ok (.baload, 1) := by decide +kernel
theorem dX12_isBacks_80 : decode cX12_isBacks 80 = .ok (.if_icmp .eq 7, 3) := by decide +kernel
theorem dX12_isBacks_83 : decode cX12_isBacks 83 = .ok (.iconst 1, 1) := by decide +kernel
theorem dX12_isBacks_84 : decode cX12_isBacks 84 = .ok (.goto 4, 3) := by decide +kernel
theorem dX12_isBacks_87 : decode cX12_isBacks 87 = .ok (.iconst 0, 1) := by decide +kernel
theorem dX12_isBacks_88 : decode cX12_isBacks 88 = .ok (.istore_n 1, 1) := by decide +kernel
theorem dX12_isBacks_89 : decode cX12_isBacks 89 = .ok (.iinc 2 2, 3) := by decide +kernel
theorem dX12_isBacks_92 : decode cX12_isBacks 92 = .ok (.goto (-66), 3) := by decide +kernel
theorem dX12_isBacks_95 : decode cX12_isBacks 95 = .ok (.iload_n 1, 1) := by decide +kernel
theorem dX12_isBacks_96 : decode cX12_isBacks 96 = .ok (.ireturn, 1) := by decide +kernel
theorem dX12_laysBehind_0 : decode cX12_laysBehind 0 = .ok (.iconst 0, 1) := by decide +kernel
theorem dX12_laysBehind_1 : decode cX12_laysBehind 1 = .ok (.istore_n 1, 1) := by decide +kernel
theorem dX12_laysBehind_2 : decode cX12_laysBehind 2 = .ok (.iload_n 1, 1) := by decide +kernel
theorem dX12_laysBehind_3 : decode cX12_laysBehind 3 = .ok (.bipush 7, 2) := by decide +kernel
theorem dX12_laysBehind_5 : decode cX12_laysBehind 5 = .ok (.if_icmp .ge 16, 3) := by decide +kernel
theorem dX12_laysBehind_8 : decode cX12_laysBehind 8 = .ok (.aload_n 0, 1) := by decide +kernel
theorem dX12_laysBehind_9 : decode cX12_laysBehind 9 = .ok (.getfield 48, 3) := by decide +kernel
theorem dX12_laysBehind_12 : decode cX12_laysBehind 12 = .ok (.iload_n 1, 1) := by decide +kernel
theorem dX12_laysBehind_13 : decode cX12_laysBehind 13 = .ok (.iconst 0, 1) := by decide +kernel
theorem dX12_laysBehind_14 : decode cX12_laysBehind 14 = .ok (.iastore, 1) := by decide +kernel
theorem dX12_laysBehind_15 : decode cX12_laysBehind 15 = .ok (.iinc 1 1, 3) := by decide +kernel
theorem dX12_laysBehind_18 : decode cX12_laysBehind 18 = .ok (.goto (-16), 3) := by decide +kernel
theorem dX12_laysBehind_21 : decode cX12_laysBehind 21 = .ok (.iconst 0, 1) := by decide +kernel
theorem dX12_laysBehind_22 : decode cX12_laysBehind 22 = .ok (.istore_n 1, 1) := by decide +kernel
theorem dX12_laysBehind_23 : decode cX12_laysBehind 23 = .ok (.iload_n 1, 1) := by decide +kernel
theorem dX12_laysBehind_24 : decode cX12_laysBehind 24 = .ok (.aload_n 0, 1) := by decide +kernel
theorem dX12_laysBehind_25 : decode cX12_laysBehind 25 = .ok (.getfield 111, 3) := by decide +kernel
theorem dX12_laysBehind_28 : decode cX12_laysBehind 28 = .ok (.if_icmp .ge 33, 3) := by decide +kernel
theorem dX12_laysBehind_31 : decode cX12_laysBehind 31 = .ok (.aload_n 0, 1) := by decide +kernel
theorem dX12_laysBehind_32 : decode cX12_laysBehind 32 = .ok (.getfield 48, 3) := by decide +kernel
theorem dX12_laysBehind_35 : decode cX12_laysBehind 35 = .ok (.aload_n 0, 1) := by decide +kernel
theorem dX12_laysBehind_36 : decode cX12_laysBehind 36 = .ok (.getfield 29, 3) := by decide +kernel
theorem dX12_laysBehind_39 : decode cX12_laysBehind 39 = .ok (.iload_n 1, 1) := by decide +kernel
theorem dX12_laysBehind_40 : decode cX12_laysBehind 40 = .ok (.iconst 1, 1) := by decide +kernel
theorem dX12_laysBehind_41 : decode cX12_laysBehind 41 = .ok (.iadd, 1) := by decide +kernel
theorem dX12_laysBehind_42 : decode cX12_laysBehind 42 = .ok (.baload, 1) := by decide +kernel
theorem dX12_laysBehind_43 : decode cX12_laysBehind 43 = .ok (.dup2, 1) := by decide +kernel
theorem dX12_laysBehind_44 : decode cX12_laysBehind 44 = .ok (.iaload, 1) := by decide +kernel
theorem dX12_laysBehind_45 : decode cX12_laysBehind 45 = .ok (.iconst 1, 1) := by decide +kernel
theorem dX12_laysBehind_46 : decode cX12_laysBehind 46 = .ok (.aload_n 0, 1) := by decide +kernel
theorem dX12_laysBehind_47 : decode cX12_laysBehind 47 = .ok (.getfield 29, 3) := by decide +kernel
theorem dX12_laysBehind_50 : decode cX12_laysBehind 50 = .ok (.iload_n 1, 1) := by decide +kernel
theorem dX12_laysBehind_51 : decode cX12_laysBehind 51 = .ok (.baload, 1) := by decide +kernel
theorem dX12_laysBehind_52 : decode cX12_laysBehind 52 = .ok (.ishl, 1) := by decide +kernel
theorem dX12_laysBehind_53 : decode cX12_laysBehind 53 = .ok (.ior, 1) := by decide +kernel
theorem dX12_laysBehind_54 : decode cX12_laysBehind 54 = .ok (.iastore, 1) := by decide +kernel
theorem dX12_laysBehind_55 : decode cX12_laysBehind 55 = .ok (.iinc 1 2, 3) := by decide +kernel
theorem dX12_laysBehind_58 : decode cX12_laysBehind 58 = .ok (.goto (-35), 3) := by decide +kernel
theorem dX12_laysBehind_61 : decode cX12_laysBehind 61 = .ok (.return_, 1) := by decide +kernel
theorem dX12_mayCome_0 : decode cX12_mayCome 0 = .ok (.iload_n 1, 1) := by decide +kernel
theorem dX12_mayCome_1 : decode cX12_mayCome 1 = .ok (.iload_n 2, 1) := by decide +kernel
theorem dX12_mayCome_2 : decode cX12_mayCome 2 = .ok (.invokestatic 305, 3) := by decide +kernel
theorem dX12_mayCome_5 : decode cX12_mayCome 5 = .ok (.ifCond .ne 20, 3) := by decide +kernel
theorem dX12_mayCome_8 : decode cX12_mayCome 8 = .ok (.aload_n 0, 1) := by decide +kernel
theorem dX12_mayCome_9 : decode cX12_mayCome 9 = .ok (.getfield 48, 3) := by decide +kernel
theorem dX12_mayCome_12 : decode cX12_mayCome 12 = .ok (.iload_n 2, 1) := by decide +kernel
theorem dX12_mayCome_13 : decode cX12_mayCome 13 = .ok (.iaload, 1) := by decide +kernel
theorem dX12_mayCome_14 : decode cX12_mayCome 14 = .ok (.iload_n 1, 1) := by decide +kernel
theorem dX12_mayCome_15 : decode cX12_mayCome 15 = .ok (.iconst (-1), 1) := by decide +kernel
theorem dX12_mayCome_16 : decode cX12_mayCome 16 = .ok (.ixor, 1) := by decide +kernel
theorem dX12_mayCome_17 : decode cX12_mayCome 17 = .ok (.iand, 1) := by decide +kernel
theorem dX12_mayCome_18 : decode cX12_mayCome 18 = .ok (.ifCond .ne 7, 3) := by decide +kernel
theorem dX12_mayCome_21 : decode cX12_mayCome 21 = .ok (.iconst 1, 1) := by decide +kernel
theorem dX12_mayCome_22 : decode cX12_mayCome 22 = .ok (.goto 4, 3) := by decide +kernel
theorem dX12_mayCome_25 : decode cX12_mayCome 25 = .ok (.iconst 0, 1) := by decide +kernel
theorem dX12_mayCome_26 : decode cX12_mayCome 26 = .ok (.ireturn, 1) := by decide +kernel
theorem dX12_laysOrders_0 : decode cX12_laysOrders 0 = .ok (.aload_n 0, 1) := by decide +kernel
theorem dX12_laysOrders_1 : decode cX12_laysOrders 1 = .ok (.invokevirtual 376, 3) := by decide +kernel
theorem dX12_laysOrders_4 : decode cX12_laysOrders 4 = .ok (.istore_n 1, 1) := by decide +kernel
theorem dX12_laysOrders_5 : decode cX12_laysOrders 5 = .ok (.iload_n 1, 1) := by decide +kernel
theorem dX12_laysOrders_6 : decode cX12_laysOrders 6 = .ok (.ifCond .lt 76, 3) := by decide +kernel
theorem dX12_laysOrders_9 : decode cX12_laysOrders 9 = .ok (.aload_n 0, 1) := by decide +kernel
theorem dX12_laysOrders_10 : decode cX12_laysOrders 10 = .ok (.getfield 51, 3) := by decide +kernel
theorem dX12_laysOrders_13 : decode cX12_laysOrders 13 = .ok (.iload_n 1, 1) := by decide +kernel
theorem dX12_laysOrders_14 : decode cX12_laysOrders 14 = .ok (.iload_n 1, 1) := by decide +kernel
theorem dX12_laysOrders_15 : decode cX12_laysOrders 15 = .ok (.aload_n 0, 1) := by decide +kernel
theorem dX12_laysOrders_16 : decode cX12_laysOrders 16 = .ok (.invokevirtual 376, 3) := by decide +kernel
theorem dX12_laysOrders_19 : decode cX12_laysOrders 19 = .ok (.if_icmp .ne 7, 3) := by decide +kernel
theorem dX12_laysOrders_22 : decode cX12_laysOrders 22 = .ok (.iconst 1, 1) := by decide +kernel
theorem dX12_laysOrders_23 : decode cX12_laysOrders 23 = .ok (.goto 4, 3) := by decide +kernel
theorem dX12_laysOrders_26 : decode cX12_laysOrders 26 = .ok (.iconst 0, 1) := by decide +kernel
theorem dX12_laysOrders_27 : decode cX12_laysOrders 27 = .ok (.iastore, 1) := by decide +kernel
theorem dX12_laysOrders_28 : decode cX12_laysOrders 28 = .ok (.iconst 0, 1) := by decide +kernel
theorem dX12_laysOrders_29 : decode cX12_laysOrders 29 = .ok (.istore_n 2, 1) := by decide +kernel
theorem dX12_laysOrders_30 : decode cX12_laysOrders 30 = .ok (.iload_n 2, 1) := by decide +kernel
theorem dX12_laysOrders_31 : decode cX12_laysOrders 31 = .ok (.aload_n 0, 1) := by decide +kernel
theorem dX12_laysOrders_32 : decode cX12_laysOrders 32 = .ok (.invokevirtual 94, 3) := by decide +kernel
theorem dX12_laysOrders_35 : decode cX12_laysOrders 35 = .ok (.if_icmp .ge 41, 3) := by decide +kernel
theorem dX12_laysOrders_38 : decode cX12_laysOrders 38 = .ok (.aload_n 0, 1) := by decide +kernel
theorem dX12_laysOrders_39 : decode cX12_laysOrders 39 = .ok (.getfield 51, 3) := by decide +kernel
theorem dX12_laysOrders_42 : decode cX12_laysOrders 42 = .ok (.iload_n 1, 1) := by decide +kernel
theorem dX12_laysOrders_43 : decode cX12_laysOrders 43 = .ok (.dup2, 1) := by decide +kernel
theorem dX12_laysOrders_44 : decode cX12_laysOrders 44 = .ok (.iaload, 1) := by decide +kernel
theorem dX12_laysOrders_45 : decode cX12_laysOrders 45 = .ok (.aload_n 0, 1) := by decide +kernel
theorem dX12_laysOrders_46 : decode cX12_laysOrders 46 = .ok (.iload_n 1, 1) := by decide +kernel
theorem dX12_laysOrders_47 : decode cX12_laysOrders 47 = .ok (.iload_n 2, 1) := by decide +kernel
theorem dX12_laysOrders_48 : decode cX12_laysOrders 48 = .ok (.invokevirtual 409, 3) := by decide +kernel
theorem dX12_laysOrders_51 : decode cX12_laysOrders 51 = .ok (.ifCond .eq 16, 3) := by decide +kernel
theorem dX12_laysOrders_54 : decode cX12_laysOrders 54 = .ok (.aload_n 0, 1) := by decide +kernel
theorem dX12_laysOrders_55 : decode cX12_laysOrders 55 = .ok (.getfield 51, 3) := by decide +kernel
theorem dX12_laysOrders_58 : decode cX12_laysOrders 58 = .ok (.iload_n 1, 1) := by decide +kernel
theorem dX12_laysOrders_59 : decode cX12_laysOrders 59 = .ok (.iconst 1, 1) := by decide +kernel
theorem dX12_laysOrders_60 : decode cX12_laysOrders 60 = .ok (.iload_n 2, 1) := by decide +kernel
theorem dX12_laysOrders_61 : decode cX12_laysOrders 61 = .ok (.ishl, 1) := by decide +kernel
theorem dX12_laysOrders_62 : decode cX12_laysOrders 62 = .ok (.ior, 1) := by decide +kernel
theorem dX12_laysOrders_63 : decode cX12_laysOrders 63 = .ok (.iaload, 1) := by decide +kernel
theorem dX12_laysOrders_64 : decode cX12_laysOrders 64 = .ok (.goto 4, 3) := by decide +kernel
theorem dX12_laysOrders_67 : decode cX12_laysOrders 67 = .ok (.iconst 0, 1) := by decide +kernel
theorem dX12_laysOrders_68 : decode cX12_laysOrders 68 = .ok (.iadd, 1) := by decide +kernel
theorem dX12_laysOrders_69 : decode cX12_laysOrders 69 = .ok (.iastore, 1) := by decide +kernel
theorem dX12_laysOrders_70 : decode cX12_laysOrders 70 = .ok (.iinc 2 1, 3) := by decide +kernel
theorem dX12_laysOrders_73 : decode cX12_laysOrders 73 = .ok (.goto (-43), 3) := by decide +kernel
theorem dX12_laysOrders_76 : decode cX12_laysOrders 76 = .ok (.iinc 1 (-1), 3) := by decide +kernel
theorem dX12_laysOrders_79 : decode cX12_laysOrders 79 = .ok (.goto (-74), 3) := by decide +kernel
theorem dX12_laysOrders_82 : decode cX12_laysOrders 82 = .ok (.aload_n 0, 1) := by decide +kernel
theorem dX12_laysOrders_83 : decode cX12_laysOrders 83 = .ok (.getfield 51, 3) := by decide +kernel
theorem dX12_laysOrders_86 : decode cX12_laysOrders 86 = .ok (.iconst 0, 1) := by decide +kernel
theorem dX12_laysOrders_87 : decode cX12_laysOrders 87 = .ok (.iaload, 1) := by decide +kernel
theorem dX12_laysOrders_88 : decode cX12_laysOrders 88 = .ok (.ireturn, 1) := by decide +kernel
theorem dX12_backs_0 : decode cX12_backs 0 = .ok (.aload_n 0, 1) := by decide +kernel
theorem dX12_backs_1 : decode cX12_backs 1 = .ok (.invokevirtual 266, 3) := by decide +kernel
theorem dX12_backs_4 : decode cX12_backs 4 = .ok (.aload_n 0, 1) := by decide +kernel
theorem dX12_backs_5 : decode cX12_backs 5 = .ok (.aload_n 0, 1) := by decide +kernel
theorem dX12_backs_6 : decode cX12_backs 6 = .ok (.invokevirtual 412, 3) := by decide +kernel
theorem dX12_backs_9 : decode cX12_backs 9 = .ok (.ifCond .ne 7, 3) := by decide +kernel
theorem dX12_backs_12 : decode cX12_backs 12 = .ok (.iconst 1, 1) := by decide +kernel
theorem dX12_backs_13 : decode cX12_backs 13 = .ok (.goto 4, 3) := by decide +kernel
theorem dX12_backs_16 : decode cX12_backs 16 = .ok (.iconst 0, 1) := by decide +kernel
theorem dX12_backs_17 : decode cX12_backs 17 = .ok (.iconst 1, 1) := by decide +kernel
theorem dX12_backs_18 : decode cX12_backs 18 = .ok (.invokevirtual 277, 3) := by decide +kernel
theorem dX12_backs_21 : decode cX12_backs 21 = .ok (.ifCond .eq 5, 3) := by decide +kernel
theorem dX12_backs_24 : decode cX12_backs 24 = .ok (.iconst 0, 1) := by decide +kernel
theorem dX12_backs_25 : decode cX12_backs 25 = .ok (.ireturn, 1) := by decide +kernel
theorem dX12_backs_26 : decode cX12_backs 26 = .ok (.aload_n 0, 1) := by decide +kernel
theorem dX12_backs_27 : decode cX12_backs 27 = .ok (.invokevirtual 415, 3) := by decide +kernel
theorem dX12_backs_30 : decode cX12_backs 30 = .ok (.aload_n 0, 1) := by decide +kernel
theorem dX12_backs_31 : decode cX12_backs 31 = .ok (.invokevirtual 418, 3) := by decide +kernel
theorem dX12_backs_34 : decode cX12_backs 34 = .ok (.istore_n 2, 1) := by decide +kernel
theorem dX12_backs_35 : decode cX12_backs 35 = .ok (.iload_n 1, 1) := by decide +kernel
theorem dX12_backs_36 : decode cX12_backs 36 = .ok (.iconst (-1), 1) := by decide +kernel
theorem dX12_backs_37 : decode cX12_backs 37 = .ok (.if_icmp .ne 5, 3) := by decide +kernel
theorem dX12_backs_40 : decode cX12_backs 40 = .ok (.iload_n 2, 1) := by decide +kernel
theorem dX12_backs_41 : decode cX12_backs 41 = .ok (.ireturn, 1) := by decide +kernel
theorem dX12_backs_42 : decode cX12_backs 42 = .ok (.iload_n 2, 1) := by decide +kernel
theorem dX12_backs_43 : decode cX12_backs 43 = .ok (.ifCond .eq 17, 3) := by decide +kernel
theorem dX12_backs_46 : decode cX12_backs 46 = .ok (.iload_n 1, 1) := by decide +kernel
theorem dX12_backs_47 : decode cX12_backs 47 = .ok (.iconst 0, 1) := by decide +kernel
theorem dX12_backs_48 : decode cX12_backs 48 = .ok (.aload_n 0, 1) := by decide +kernel
theorem dX12_backs_49 : decode cX12_backs 49 = .ok (.invokevirtual 94, 3) := by decide +kernel
theorem dX12_backs_52 : decode cX12_backs 52 = .ok (.iconst 1, 1) := by decide +kernel
theorem dX12_backs_53 : decode cX12_backs 53 = .ok (.isub, 1) := by decide +kernel
theorem dX12_backs_54 : decode cX12_backs 54 = .ok (.invokestatic 97, 3) := by decide +kernel
theorem dX12_backs_57 : decode cX12_backs 57 = .ok (.ifCond .ne 5, 3) := by decide +kernel
theorem dX12_backs_60 : decode cX12_backs 60 = .ok (.iconst (-1), 1) := by decide +kernel
theorem dX12_backs_61 : decode cX12_backs 61 = .ok (.ireturn, 1) := by decide +kernel
theorem dX12_backs_62 : decode cX12_backs 62 = .ok (.iconst 0, 1) := by decide +kernel
theorem dX12_backs_63 : decode cX12_backs 63 = .ok (.istore_n 3, 1) := by decide +kernel
theorem dX12_backs_64 : decode cX12_backs 64 = .ok (.iconst (-1), 1) := by decide +kernel
theorem dX12_backs_65 : decode cX12_backs 65 = .ok (.istore 4, 2) := by decide +kernel
theorem dX12_backs_67 : decode cX12_backs 67 = .ok (.iconst 0, 1) := by decide +kernel
theorem dX12_backs_68 : decode cX12_backs 68 = .ok (.istore 5, 2) := by decide +kernel
theorem dX12_backs_70 : decode cX12_backs 70 = .ok (.iload 5, 2) := by decide +kernel
theorem dX12_backs_72 : decode cX12_backs 72 = .ok (.iload_n 1, 1) := by decide +kernel
theorem dX12_backs_73 : decode cX12_backs 73 = .ok (.if_icmp .gt 49, 3) := by decide +kernel
theorem dX12_backs_76 : decode cX12_backs 76 = .ok (.iconst 0, 1) := by decide +kernel
theorem dX12_backs_77 : decode cX12_backs 77 = .ok (.istore 4, 2) := by decide +kernel
theorem dX12_backs_79 : decode cX12_backs 79 = .ok (.aload_n 0, 1) := by decide +kernel
theorem dX12_backs_80 : decode cX12_backs 80 = .ok (.iload_n 3, 1) := by decide +kernel
theorem dX12_backs_81 : decode cX12_backs 81 = .ok (.iload 4, 2) := by decide +kernel
theorem dX12_backs_83 : decode cX12_backs 83 = .ok (.invokevirtual 409, 3) := by decide +kernel
theorem dX12_backs_86 : decode cX12_backs 86 = .ok (.ifCond .eq 17, 3) := by decide +kernel
theorem dX12_backs_89 : decode cX12_backs 89 = .ok (.aload_n 0, 1) := by decide +kernel
theorem dX12_backs_90 : decode cX12_backs 90 = .ok (.getfield 51, 3) := by decide +kernel
theorem dX12_backs_93 : decode cX12_backs 93 = .ok (.iload_n 3, 1) := by decide +kernel
theorem dX12_backs_94 : decode cX12_backs 94 = .ok (.iconst 1, 1) := by decide +kernel
theorem dX12_backs_95 : decode cX12_backs 95 = .ok (.iload 4, 2) := by decide +kernel
theorem dX12_backs_97 : decode cX12_backs 97 = .ok (.ishl, 1) := by decide +kernel
theorem dX12_backs_98 : decode cX12_backs 98 = .ok (.ior, 1) := by decide +kernel
theorem dX12_backs_99 : decode cX12_backs 99 = .ok (.iaload, 1) := by decide +kernel
theorem dX12_backs_100 : decode cX12_backs 100 = .ok (.ifCond .ne 9, 3) := by decide +kernel
theorem dX12_backs_103 : decode cX12_backs 103 = .ok (.iinc 4 1, 3) := by decide +kernel
theorem dX12_backs_106 : decode cX12_backs 106 = .ok (.goto (-27), 3) := by decide +kernel
theorem dX12_backs_109 : decode cX12_backs 109 = .ok (.iload_n 3, 1) := by decide +kernel
theorem dX12_backs_110 : decode cX12_backs 110 = .ok (.iconst 1, 1) := by decide +kernel
theorem dX12_backs_111 : decode cX12_backs 111 = .ok (.iload 4, 2) := by decide +kernel
theorem dX12_backs_113 : decode cX12_backs 113 = .ok (.ishl, 1) := by decide +kernel
theorem dX12_backs_114 : decode cX12_backs 114 = .ok (.ior, 1) := by decide +kernel
theorem dX12_backs_115 : decode cX12_backs 115 = .ok (.istore_n 3, 1) := by decide +kernel
theorem dX12_backs_116 : decode cX12_backs 116 = .ok (.iinc 5 1, 3) := by decide +kernel
theorem dX12_backs_119 : decode cX12_backs 119 = .ok (.goto (-49), 3) := by decide +kernel
theorem dX12_backs_122 : decode cX12_backs 122 = .ok (.iload 4, 2) := by decide +kernel
theorem dX12_backs_124 : decode cX12_backs 124 = .ok (.ireturn, 1) := by decide +kernel
theorem dX12_ask_0 : decode cX12_ask 0 = .ok (.aload_n 0, 1) := by decide +kernel
theorem dX12_ask_1 : decode cX12_ask 1 = .ok (.invokevirtual 266, 3) := by decide +kernel
theorem dX12_ask_4 : decode cX12_ask 4 = .ok (.aload_n 0, 1) := by decide +kernel
theorem dX12_ask_5 : decode cX12_ask 5 = .ok (.aload_n 0, 1) := by decide +kernel
theorem dX12_ask_6 : decode cX12_ask 6 = .ok (.invokevirtual 412, 3) := by decide +kernel
theorem dX12_ask_9 : decode cX12_ask 9 = .ok (.ifCond .ne 7, 3) := by decide +kernel
theorem dX12_ask_12 : decode cX12_ask 12 = .ok (.iconst 1, 1) := by decide +kernel
theorem dX12_ask_13 : decode cX12_ask 13 = .ok (.goto 4, 3) := by decide +kernel
theorem dX12_ask_16 : decode cX12_ask 16 = .ok (.iconst 0, 1) := by decide +kernel
theorem dX12_ask_17 : decode cX12_ask 17 = .ok (.iconst 1, 1) := by decide +kernel
theorem dX12_ask_18 : decode cX12_ask 18 = .ok (.invokevirtual 277, 3) := by decide +kernel
theorem dX12_ask_21 : decode cX12_ask 21 = .ok (.ifCond .eq 5, 3) := by decide +kernel
theorem dX12_ask_24 : decode cX12_ask 24 = .ok (.iconst 0, 1) := by decide +kernel
theorem dX12_ask_25 : decode cX12_ask 25 = .ok (.ireturn, 1) := by decide +kernel
theorem dX12_ask_26 : decode cX12_ask 26 = .ok (.aload_n 0, 1) := by decide +kernel
theorem dX12_ask_27 : decode cX12_ask 27 = .ok (.invokevirtual 415, 3) := by decide +kernel
theorem dX12_ask_30 : decode cX12_ask 30 = .ok (.aload_n 0, 1) := by decide +kernel
theorem dX12_ask_31 : decode cX12_ask 31 = .ok (.invokevirtual 418, 3) := by decide +kernel
theorem dX12_ask_34 : decode cX12_ask 34 = .ok (.istore_n 1, 1) := by decide +kernel
theorem dX12_ask_35 : decode cX12_ask 35 = .ok (.iconst (-1), 1) := by decide +kernel
theorem dX12_ask_36 : decode cX12_ask 36 = .ok (.istore_n 2, 1) := by decide +kernel
theorem dX12_ask_37 : decode cX12_ask 37 = .ok (.ldc_w 357, 3) := by decide +kernel
theorem dX12_ask_40 : decode cX12_ask 40 = .ok (.istore_n 3, 1) := by decide +kernel
theorem dX12_ask_41 : decode cX12_ask 41 = .ok (.iconst 0, 1) := by decide +kernel
theorem dX12_ask_42 : decode cX12_ask 42 = .ok (.istore 4, 2) := by decide +kernel
theorem dX12_ask_44 : decode cX12_ask 44 = .ok (.iload 4, 2) := by decide +kernel
theorem dX12_ask_46 : decode cX12_ask 46 = .ok (.aload_n 0, 1) := by decide +kernel
theorem dX12_ask_47 : decode cX12_ask 47 = .ok (.invokevirtual 94, 3) := by decide +kernel
theorem dX12_ask_50 : decode cX12_ask 50 = .ok (.if_icmp .ge 96, 3) := by decide +kernel
theorem dX12_ask_53 : decode cX12_ask 53 = .ok (.iload_n 1, 1) := by decide +kernel
theorem dX12_ask_54 : decode cX12_ask 54 = .ok (.iconst 1, 1) := by decide +kernel
theorem dX12_ask_55 : decode cX12_ask 55 = .ok (.if_icmp .le 91, 3) := by decide +kernel
theorem dX12_ask_58 : decode cX12_ask 58 = .ok (.iload 4, 2) := by decide +kernel
theorem dX12_ask_60 : decode cX12_ask 60 = .ok (.iconst 1, 1) := by decide +kernel
theorem dX12_ask_61 : decode cX12_ask 61 = .ok (.iadd, 1) := by decide +kernel
theorem dX12_ask_62 : decode cX12_ask 62 = .ok (.istore 5, 2) := by decide +kernel
theorem dX12_ask_64 : decode cX12_ask 64 = .ok (.iload 5, 2) := by decide +kernel
theorem dX12_ask_66 : decode cX12_ask 66 = .ok (.aload_n 0, 1) := by decide +kernel
theorem dX12_ask_67 : decode cX12_ask 67 = .ok (.invokevirtual 94, 3) := by decide +kernel
theorem dX12_ask_70 : decode cX12_ask 70 = .ok (.if_icmp .ge 70, 3) := by decide +kernel
theorem dX12_ask_73 : decode cX12_ask 73 = .ok (.aload_n 0, 1) := by decide +kernel
theorem dX12_ask_74 : decode cX12_ask 74 = .ok (.invokevirtual 415, 3) := by decide +kernel
theorem dX12_ask_77 : decode cX12_ask 77 = .ok (.aload_n 0, 1) := by decide +kernel
theorem dX12_ask_78 : decode cX12_ask 78 = .ok (.getfield 48, 3) := by decide +kernel
theorem dX12_ask_81 : decode cX12_ask 81 = .ok (.iload 5, 2) := by decide +kernel
theorem dX12_ask_83 : decode cX12_ask 83 = .ok (.dup2, 1) := by decide +kernel
theorem dX12_ask_84 : decode cX12_ask 84 = .ok (.iaload, 1) := by decide +kernel
theorem dX12_ask_85 : decode cX12_ask 85 = .ok (.iconst 1, 1) := by decide +kernel
theorem dX12_ask_86 : decode cX12_ask 86 = .ok (.iload 4, 2) := by decide +kernel
theorem dX12_ask_88 : decode cX12_ask 88 = .ok (.ishl, 1) := by decide +kernel
theorem dX12_ask_89 : decode cX12_ask 89 = .ok (.ior, 1) := by decide +kernel
theorem dX12_ask_90 : decode cX12_ask 90 = .ok (.iastore, 1) := by decide +kernel
theorem dX12_ask_91 : decode cX12_ask 91 = .ok (.aload_n 0, 1) := by decide +kernel
theorem dX12_ask_92 : decode cX12_ask 92 = .ok (.invokevirtual 418, 3) := by decide +kernel
theorem dX12_ask_95 : decode cX12_ask 95 = .ok (.istore 6, 2) := by decide +kernel
theorem dX12_ask_97 : decode cX12_ask 97 = .ok (.iload 6, 2) := by decide +kernel
theorem dX12_ask_99 : decode cX12_ask 99 = .ok (.iload_n 1, 1) := by decide +kernel
theorem dX12_ask_100 : decode cX12_ask 100 = .ok (.iload 6, 2) := by decide +kernel
theorem dX12_ask_102 : decode cX12_ask 102 = .ok (.isub, 1) := by decide +kernel
theorem dX12_ask_103 : decode cX12_ask 103 = .ok (.invokestatic 299, 3) := by decide +kernel
theorem dX12_ask_106 : decode cX12_ask 106 = .ok (.istore 6, 2) := by decide +kernel
theorem dX12_ask_108 : decode cX12_ask 108 = .ok (.iload 6, 2) := by decide +kernel
theorem dX12_ask_110 : decode cX12_ask 110 = .ok (.iload_n 3, 1) := by decide +kernel
theorem dX12_ask_111 : decode cX12_ask 111 = .ok (.if_icmp .ge 14, 3) := by decide +kernel
theorem dX12_ask_114 : decode cX12_ask 114 = .ok (.bipush 8, 2) := by decide +kernel
theorem dX12_ask_116 : decode cX12_ask 116 = .ok (.iload 4, 2) := by decide +kernel
theorem dX12_ask_118 : decode cX12_ask 118 = .ok (.imul, 1) := by decide +kernel
theorem dX12_ask_119 : decode cX12_ask 119 = .ok (.iload 5, 2) := by decide +kernel
theorem dX12_ask_121 : decode cX12_ask 121 = .ok (.iadd, 1) := by decide +kernel
theorem dX12_ask_122 : decode cX12_ask 122 = .ok (.goto 4, 3) := by decide +kernel
theorem dX12_ask_125 : decode cX12_ask 125 = .ok (.iload_n 2, 1) := by decide +kernel
theorem dX12_ask_126 : decode cX12_ask 126 = .ok (.istore_n 2, 1) := by decide +kernel
theorem dX12_ask_127 : decode cX12_ask 127 = .ok (.iload_n 3, 1) := by decide +kernel
theorem dX12_ask_128 : decode cX12_ask 128 = .ok (.iload 6, 2) := by decide +kernel
theorem dX12_ask_130 : decode cX12_ask 130 = .ok (.invokestatic 146, 3) := by decide +kernel
theorem dX12_ask_133 : decode cX12_ask 133 = .ok (.istore_n 3, 1) := by decide +kernel
theorem dX12_ask_134 : decode cX12_ask 134 = .ok (.iinc 5 1, 3) := by decide +kernel
theorem dX12_ask_137 : decode cX12_ask 137 = .ok (.goto (-73), 3) := by decide +kernel
theorem dX12_ask_140 : decode cX12_ask 140 = .ok (.iinc 4 1, 3) := by decide +kernel
theorem dX12_ask_143 : decode cX12_ask 143 = .ok (.goto (-99), 3) := by decide +kernel
theorem dX12_ask_146 : decode cX12_ask 146 = .ok (.iload_n 2, 1) := by decide +kernel
theorem dX12_ask_147 : decode cX12_ask 147 = .ok (.ireturn, 1) := by decide +kernel
theorem dX12_isRound_0 : decode cX12_isRound 0 = .ok (.aload_n 0, 1) := by decide +kernel
theorem dX12_isRound_1 : decode cX12_isRound 1 = .ok (.getfield 111, 3) := by decide +kernel
theorem dX12_isRound_4 : decode cX12_isRound 4 = .ok (.iconst 2, 1) := by decide +kernel
theorem dX12_isRound_5 : decode cX12_isRound 5 = .ok (.irem, 1) := by decide +kernel
theorem dX12_isRound_6 : decode cX12_isRound 6 = .ok (.ifCond .ne 16, 3) := by decide +kernel
theorem dX12_isRound_9 : decode cX12_isRound 9 = .ok (.aload_n 0, 1) := by decide +kernel
theorem dX12_isRound_10 : decode cX12_isRound 10 = .ok (.getfield 111, 3) := by decide +kernel
theorem dX12_isRound_13 : decode cX12_isRound 13 = .ok (.bipush 40, 2) := by decide +kernel
theorem dX12_isRound_15 : decode cX12_isRound 15 = .ok (.if_icmp .gt 7, 3) := by decide +kernel
theorem dX12_isRound_18 : decode cX12_isRound 18 = .ok (.iconst 1, 1) := by decide +kernel
theorem dX12_isRound_19 : decode cX12_isRound 19 = .ok (.goto 4, 3) := by decide +kernel
theorem dX12_isRound_22 : decode cX12_isRound 22 = .ok (.iconst 0, 1) := by decide +kernel
theorem dX12_isRound_23 : decode cX12_isRound 23 = .ok (.istore_n 1, 1) := by decide +kernel
theorem dX12_isRound_24 : decode cX12_isRound 24 = .ok (.iconst 0, 1) := by decide +kernel
theorem dX12_isRound_25 : decode cX12_isRound 25 = .ok (.istore_n 2, 1) := by decide +kernel
theorem dX12_isRound_26 : decode cX12_isRound 26 = .ok (.iload_n 2, 1) := by decide +kernel
theorem dX12_isRound_27 : decode cX12_isRound 27 = .ok (.aload_n 0, 1) := by decide +kernel
theorem dX12_isRound_28 : decode cX12_isRound 28 = .ok (.getfield 111, 3) := by decide +kernel
theorem dX12_isRound_31 : decode cX12_isRound 31 = .ok (.if_icmp .ge 27, 3) := by decide +kernel
theorem dX12_isRound_34 : decode cX12_isRound 34 = .ok (.iload_n 1, 1) := by decide +kernel
theorem dX12_isRound_35 : decode cX12_isRound 35 = .ok (.ifCond .eq 23, 3) := by decide +kernel
theorem dX12_isRound_38 : decode cX12_isRound 38 = .ok (.aload_n 0, 1) := by decide +kernel
theorem dX12_isRound_39 : decode cX12_isRound 39 = .ok (.getfield 29, 3) := by decide +kernel
theorem dX12_isRound_42 : decode cX12_isRound 42 = .ok (.iload_n 2, 1) := by decide +kernel
theorem dX12_isRound_43 : decode cX12_isRound 43 = .ok (.iconst 1, 1) := by decide +kernel
theorem dX12_isRound_44 : decode cX12_isRound 44 = .ok (.iadd, 1) := by decide +kernel
theorem dX12_isRound_45 : decode cX12_isRound 45 = .ok (.baload, 1) := by decide +kernel
theorem dX12_isRound_46 : decode cX12_isRound 46 = .ok (.iconst 0, 1) := by decide +kernel
theorem dX12_isRound_47 : decode cX12_isRound 47 = .ok (.iconst 1, 1) := by decide +kernel
theorem dX12_isRound_48 : decode cX12_isRound 48 = .ok (.invokestatic 97, 3) := by decide +kernel
theorem dX12_isRound_51 : decode cX12_isRound 51 = .ok (.istore_n 1, 1) := by decide +kernel
theorem dX12_isRound_52 : decode cX12_isRound 52 = .ok (.iinc 2 2, 3) := by decide +kernel
theorem dX12_isRound_55 : decode cX12_isRound 55 = .ok (.goto (-29), 3) := by decide +kernel
theorem dX12_isRound_58 : decode cX12_isRound 58 = .ok (.iload_n 1, 1) := by decide +kernel
theorem dX12_isRound_59 : decode cX12_isRound 59 = .ok (.ireturn, 1) := by decide +kernel
theorem dX12_fitsLong_0 : decode cX12_fitsLong 0 = .ok (.iconst 1, 1) := by decide +kernel
theorem dX12_fitsLong_1 : decode cX12_fitsLong 1 = .ok (.istore_n 2, 1) := by decide +kernel
theorem dX12_fitsLong_2 : decode cX12_fitsLong 2 = .ok (.iconst 0, 1) := by decide +kernel
theorem dX12_fitsLong_3 : decode cX12_fitsLong 3 = .ok (.istore_n 3, 1) := by decide +kernel
theorem dX12_fitsLong_4 : decode cX12_fitsLong 4 = .ok (.iload_n 3, 1) := by decide +kernel
theorem dX12_fitsLong_5 : decode cX12_fitsLong 5 = .ok (.aload_n 0, 1) := by decide +kernel
theorem dX12_fitsLong_6 : decode cX12_fitsLong 6 = .ok (.getfield 111, 3) := by decide +kernel
theorem dX12_fitsLong_9 : decode cX12_fitsLong 9 = .ok (.if_icmp .ge 59, 3) := by decide +kernel
theorem dX12_fitsLong_12 : decode cX12_fitsLong 12 = .ok (.iload_n 2, 1) := by decide +kernel
theorem dX12_fitsLong_13 : decode cX12_fitsLong 13 = .ok (.ifCond .eq 47, 3) := by decide +kernel
theorem dX12_fitsLong_16 : decode cX12_fitsLong 16 = .ok (.aload_n 0, 1) := by decide +kernel
theorem dX12_fitsLong_17 : decode cX12_fitsLong 17 = .ok (.getfield 29, 3) := by decide +kernel
theorem dX12_fitsLong_20 : decode cX12_fitsLong 20 = .ok (.iload_n 3, 1) := by decide +kernel
theorem dX12_fitsLong_21 : decode cX12_fitsLong 21 = .ok (.baload, 1) := by decide +kernel
theorem dX12_fitsLong_22 : decode cX12_fitsLong 22 = .ok (.sipush 255, 3) := by decide +kernel
theorem dX12_fitsLong_25 : decode cX12_fitsLong 25 = .ok (.iand, 1) := by decide +kernel
theorem dX12_fitsLong_26 : decode cX12_fitsLong 26 = .ok (.iload_n 1, 1) := by decide +kernel
theorem dX12_fitsLong_27 : decode cX12_fitsLong 27 = .ok (.irem, 1) := by decide +kernel
theorem dX12_fitsLong_28 : decode cX12_fitsLong 28 = .ok (.ifCond .ne 7, 3) := by decide +kernel
theorem dX12_fitsLong_31 : decode cX12_fitsLong 31 = .ok (.iconst 1, 1) := by decide +kernel
theorem dX12_fitsLong_32 : decode cX12_fitsLong 32 = .ok (.goto 4, 3) := by decide +kernel
theorem dX12_fitsLong_35 : decode cX12_fitsLong 35 = .ok (.iconst 0, 1) := by decide +kernel
theorem dX12_fitsLong_36 : decode cX12_fitsLong 36 = .ok (.aload_n 0, 1) := by decide +kernel
theorem dX12_fitsLong_37 : decode cX12_fitsLong 37 = .ok (.getfield 29, 3) := by decide +kernel
theorem dX12_fitsLong_40 : decode cX12_fitsLong 40 = .ok (.iload_n 3, 1) := by decide +kernel
theorem dX12_fitsLong_41 : decode cX12_fitsLong 41 = .ok (.iconst 1, 1) := by decide +kernel
theorem dX12_fitsLong_42 : decode cX12_fitsLong 42 = .ok (.iadd, 1) := by decide +kernel
theorem dX12_fitsLong_43 : decode cX12_fitsLong 43 = .ok (.baload, 1) := by decide +kernel
theorem dX12_fitsLong_44 : decode cX12_fitsLong 44 = .ok (.iconst 1, 1) := by decide +kernel
theorem dX12_fitsLong_45 : decode cX12_fitsLong 45 = .ok (.if_icmp .ne 7, 3) := by decide +kernel
theorem dX12_fitsLong_48 : decode cX12_fitsLong 48 = .ok (.iconst 1, 1) := by decide +kernel
theorem dX12_fitsLong_49 : decode cX12_fitsLong 49 = .ok (.goto 4, 3) := by decide +kernel
theorem dX12_fitsLong_52 : decode cX12_fitsLong 52 = .ok (.iconst 0, 1) := by decide +kernel
theorem dX12_fitsLong_53 : decode cX12_fitsLong 53 = .ok (.if_icmp .ne 7, 3) := by decide +kernel
theorem dX12_fitsLong_56 : decode cX12_fitsLong 56 = .ok (.iconst 1, 1) := by decide +kernel
theorem dX12_fitsLong_57 : decode cX12_fitsLong 57 = .ok (.goto 4, 3) := by decide +kernel
theorem dX12_fitsLong_60 : decode cX12_fitsLong 60 = .ok (.iconst 0, 1) := by decide +kernel
theorem dX12_fitsLong_61 : decode cX12_fitsLong 61 = .ok (.istore_n 2, 1) := by decide +kernel
theorem dX12_fitsLong_62 : decode cX12_fitsLong 62 = .ok (.iinc 3 2, 3) := by decide +kernel
theorem dX12_fitsLong_65 : decode cX12_fitsLong 65 = .ok (.goto (-61), 3) := by decide +kernel
theorem dX12_fitsLong_68 : decode cX12_fitsLong 68 = .ok (.iload_n 2, 1) := by decide +kernel
theorem dX12_fitsLong_69 : decode cX12_fitsLong 69 = .ok (.ireturn, 1) := by decide +kernel
theorem dX12_round_0 : decode cX12_round 0 = .ok (.aload_n 0, 1) := by decide +kernel
theorem dX12_round_1 : decode cX12_round 1 = .ok (.invokevirtual 266, 3) := by decide +kernel
theorem dX12_round_4 : decode cX12_round 4 = .ok (.aload_n 0, 1) := by decide +kernel
theorem dX12_round_5 : decode cX12_round 5 = .ok (.aload_n 0, 1) := by decide +kernel
theorem dX12_round_6 : decode cX12_round 6 = .ok (.invokevirtual 421, 3) := by decide +kernel
theorem dX12_round_9 : decode cX12_round 9 = .ok (.ifCond .ne 7, 3) := by decide +kernel
theorem dX12_round_12 : decode cX12_round 12 = .ok (.iconst 1, 1) := by decide +kernel
theorem dX12_round_13 : decode cX12_round 13 = .ok (.goto 4, 3) := by decide +kernel
theorem dX12_round_16 : decode cX12_round 16 = .ok (.iconst 0, 1) := by decide +kernel
theorem dX12_round_17 : decode cX12_round 17 = .ok (.iconst 1, 1) := by decide +kernel
theorem dX12_round_18 : decode cX12_round 18 = .ok (.invokevirtual 277, 3) := by decide +kernel
theorem dX12_round_21 : decode cX12_round 21 = .ok (.ifCond .eq 5, 3) := by decide +kernel
theorem dX12_round_24 : decode cX12_round 24 = .ok (.iconst 0, 1) := by decide +kernel
theorem dX12_round_25 : decode cX12_round 25 = .ok (.ireturn, 1) := by decide +kernel
theorem dX12_round_26 : decode cX12_round 26 = .ok (.iconst 0, 1) := by decide +kernel
theorem dX12_round_27 : decode cX12_round 27 = .ok (.istore_n 2, 1) := by decide +kernel
theorem dX12_round_28 : decode cX12_round 28 = .ok (.iconst (-1), 1) := by decide +kernel
theorem dX12_round_29 : decode cX12_round 29 = .ok (.istore_n 3, 1) := by decide +kernel
theorem dX12_round_30 : decode cX12_round 30 = .ok (.sipush 200, 3) := by decide +kernel
theorem dX12_round_33 : decode cX12_round 33 = .ok (.istore 4, 2) := by decide +kernel
theorem dX12_round_35 : decode cX12_round 35 = .ok (.iload 4, 2) := by decide +kernel
theorem dX12_round_37 : decode cX12_round 37 = .ok (.bipush 10, 2) := by decide +kernel
theorem dX12_round_39 : decode cX12_round 39 = .ok (.if_icmp .lt 27, 3) := by decide +kernel
theorem dX12_round_42 : decode cX12_round 42 = .ok (.aload_n 0, 1) := by decide +kernel
theorem dX12_round_43 : decode cX12_round 43 = .ok (.iload 4, 2) := by decide +kernel
theorem dX12_round_45 : decode cX12_round 45 = .ok (.invokevirtual 424, 3) := by decide +kernel
theorem dX12_round_48 : decode cX12_round 48 = .ok (.ifCond .ne 6, 3) := by decide +kernel
theorem dX12_round_51 : decode cX12_round 51 = .ok (.goto 9, 3) := by decide +kernel
theorem dX12_round_54 : decode cX12_round 54 = .ok (.iinc 2 1, 3) := by decide +kernel
theorem dX12_round_57 : decode cX12_round 57 = .ok (.iload 4, 2) := by decide +kernel
theorem dX12_round_59 : decode cX12_round 59 = .ok (.istore_n 3, 1) := by decide +kernel
theorem dX12_round_60 : decode cX12_round 60 = .ok (.iinc 4 (-1), 3) := by decide +kernel
theorem dX12_round_63 : decode cX12_round 63 = .ok (.goto (-28), 3) := by decide +kernel
theorem dX12_round_66 : decode cX12_round 66 = .ok (.iload_n 1, 1) := by decide +kernel
theorem dX12_round_67 : decode cX12_round 67 = .ok (.ifCond .eq 7, 3) := by decide +kernel
theorem dX12_round_70 : decode cX12_round 70 = .ok (.iload_n 3, 1) := by decide +kernel
theorem dX12_round_71 : decode cX12_round 71 = .ok (.goto 4, 3) := by decide +kernel
theorem dX12_round_74 : decode cX12_round 74 = .ok (.iload_n 2, 1) := by decide +kernel
theorem dX12_round_75 : decode cX12_round 75 = .ok (.ireturn, 1) := by decide +kernel
theorem dX12_tries_0 : decode cX12_tries 0 = .ok (.aload_n 0, 1) := by decide +kernel
theorem dX12_tries_1 : decode cX12_tries 1 = .ok (.invokevirtual 266, 3) := by decide +kernel
theorem dX12_tries_4 : decode cX12_tries 4 = .ok (.aload_n 0, 1) := by decide +kernel
theorem dX12_tries_5 : decode cX12_tries 5 = .ok (.aload_n 0, 1) := by decide +kernel
theorem dX12_tries_6 : decode cX12_tries 6 = .ok (.invokevirtual 421, 3) := by decide +kernel
theorem dX12_tries_9 : decode cX12_tries 9 = .ok (.ifCond .ne 7, 3) := by decide +kernel
theorem dX12_tries_12 : decode cX12_tries 12 = .ok (.iconst 1, 1) := by decide +kernel
theorem dX12_tries_13 : decode cX12_tries 13 = .ok (.goto 4, 3) := by decide +kernel
theorem dX12_tries_16 : decode cX12_tries 16 = .ok (.iconst 0, 1) := by decide +kernel
theorem dX12_tries_17 : decode cX12_tries 17 = .ok (.iconst 1, 1) := by decide +kernel
theorem dX12_tries_18 : decode cX12_tries 18 = .ok (.invokevirtual 277, 3) := by decide +kernel
theorem dX12_tries_21 : decode cX12_tries 21 = .ok (.ifCond .eq 5, 3) := by decide +kernel
theorem dX12_tries_24 : decode cX12_tries 24 = .ok (.iconst 0, 1) := by decide +kernel
theorem dX12_tries_25 : decode cX12_tries 25 = .ok (.ireturn, 1) := by decide +kernel
theorem dX12_tries_26 : decode cX12_tries 26 = .ok (.iconst (-1), 1) := by decide +kernel
theorem dX12_tries_27 : decode cX12_tries 27 = .ok (.istore_n 1, 1) := by decide +kernel
theorem dX12_tries_28 : decode cX12_tries 28 = .ok (.ldc_w 357, 3) := by decide +kernel
theorem dX12_tries_31 : decode cX12_tries 31 = .ok (.istore_n 2, 1) := by decide +kernel
theorem dX12_tries_32 : decode cX12_tries 32 = .ok (.iconst 1, 1) := by decide +kernel
theorem dX12_tries_33 : decode cX12_tries 33 = .ok (.istore_n 3, 1) := by decide +kernel
theorem dX12_tries_34 : decode cX12_tries 34 = .ok (.iload_n 3, 1) := by decide +kernel
theorem dX12_tries_35 : decode cX12_tries 35 = .ok (.sipush 255, 3) := by decide +kernel
theorem dX12_tries_38 : decode cX12_tries 38 = .ok (.if_icmp .gt 128, 3) := by decide +kernel
theorem dX12_tries_41 : decode cX12_tries 41 = .ok (.iconst 0, 1) := by decide +kernel
theorem dX12_tries_42 : decode cX12_tries 42 = .ok (.istore 4, 2) := by decide +kernel
theorem dX12_tries_44 : decode cX12_tries 44 = .ok (.iconst 0, 1) := by decide +kernel
theorem dX12_tries_45 : decode cX12_tries 45 = .ok (.istore 5, 2) := by decide +kernel
theorem dX12_tries_47 : decode cX12_tries 47 = .ok (.bipush 10, 2) := by decide +kernel
theorem dX12_tries_49 : decode cX12_tries 49 = .ok (.istore 6, 2) := by decide +kernel
theorem dX12_tries_51 : decode cX12_tries 51 = .ok (.iload 6, 2) := by decide +kernel
theorem dX12_tries_53 : decode cX12_tries 53 = .ok (.sipush 200, 3) := by decide +kernel
theorem dX12_tries_56 : decode cX12_tries 56 = .ok (.if_icmp .gt 61, 3) := by decide +kernel
theorem dX12_tries_59 : decode cX12_tries 59 = .ok (.aload_n 0, 1) := by decide +kernel
theorem dX12_tries_60 : decode cX12_tries 60 = .ok (.iload 6, 2) := by decide +kernel
theorem dX12_tries_62 : decode cX12_tries 62 = .ok (.invokevirtual 424, 3) := by decide +kernel
theorem dX12_tries_65 : decode cX12_tries 65 = .ok (.istore 7, 2) := by decide +kernel
theorem dX12_tries_67 : decode cX12_tries 67 = .ok (.iload 4, 2) := by decide +kernel
theorem dX12_tries_69 : decode cX12_tries 69 = .ok (.iload 7, 2) := by decide +kernel
theorem dX12_tries_71 : decode cX12_tries 71 = .ok (.ifCond .eq 14, 3) := by decide +kernel
theorem dX12_tries_74 : decode cX12_tries 74 = .ok (.iload_n 3, 1) := by decide +kernel
theorem dX12_tries_75 : decode cX12_tries 75 = .ok (.iload 6, 2) := by decide +kernel
theorem dX12_tries_77 : decode cX12_tries 77 = .ok (.irem, 1) := by decide +kernel
theorem dX12_tries_78 : decode cX12_tries 78 = .ok (.ifCond .ne 7, 3) := by decide +kernel
theorem dX12_tries_81 : decode cX12_tries 81 = .ok (.iconst 1, 1) := by decide +kernel
theorem dX12_tries_82 : decode cX12_tries 82 = .ok (.goto 4, 3) := by decide +kernel
theorem dX12_tries_85 : decode cX12_tries 85 = .ok (.iconst 0, 1) := by decide +kernel
theorem dX12_tries_86 : decode cX12_tries 86 = .ok (.iadd, 1) := by decide +kernel
theorem dX12_tries_87 : decode cX12_tries 87 = .ok (.istore 4, 2) := by decide +kernel
theorem dX12_tries_89 : decode cX12_tries 89 = .ok (.iload 5, 2) := by decide +kernel
theorem dX12_tries_91 : decode cX12_tries 91 = .ok (.iload 7, 2) := by decide +kernel
theorem dX12_tries_93 : decode cX12_tries 93 = .ok (.ifCond .eq 14, 3) := by decide +kernel
theorem dX12_tries_96 : decode cX12_tries 96 = .ok (.iload_n 3, 1) := by decide +kernel
theorem dX12_tries_97 : decode cX12_tries 97 = .ok (.iload 6, 2) := by decide +kernel
theorem dX12_tries_99 : decode cX12_tries 99 = .ok (.irem, 1) := by decide +kernel
theorem dX12_tries_100 : decode cX12_tries 100 = .ok (.ifCond .eq 7, 3) := by decide +kernel
theorem dX12_tries_103 : decode cX12_tries 103 = .ok (.iconst 1, 1) := by decide +kernel
theorem dX12_tries_104 : decode cX12_tries 104 = .ok (.goto 4, 3) := by decide +kernel
theorem dX12_tries_107 : decode cX12_tries 107 = .ok (.iconst 0, 1) := by decide +kernel
theorem dX12_tries_108 : decode cX12_tries 108 = .ok (.iadd, 1) := by decide +kernel
theorem dX12_tries_109 : decode cX12_tries 109 = .ok (.istore 5, 2) := by decide +kernel
theorem dX12_tries_111 : decode cX12_tries 111 = .ok (.iinc 6 1, 3) := by decide +kernel
theorem dX12_tries_114 : decode cX12_tries 114 = .ok (.goto (-63), 3) := by decide +kernel
theorem dX12_tries_117 : decode cX12_tries 117 = .ok (.iload 4, 2) := by decide +kernel
theorem dX12_tries_119 : decode cX12_tries 119 = .ok (.iload 5, 2) := by decide +kernel
theorem dX12_tries_121 : decode cX12_tries 121 = .ok (.iadd, 1) := by decide +kernel
theorem dX12_tries_122 : decode cX12_tries 122 = .ok (.iconst 2, 1) := by decide +kernel
theorem dX12_tries_123 : decode cX12_tries 123 = .ok (.if_icmp .ge 9, 3) := by decide +kernel
theorem dX12_tries_126 : decode cX12_tries 126 = .ok (.ldc_w 357, 3) := by decide +kernel
theorem dX12_tries_129 : decode cX12_tries 129 = .ok (.goto 10, 3) := by decide +kernel
theorem dX12_tries_132 : decode cX12_tries 132 = .ok (.iload 4, 2) := by decide +kernel
theorem dX12_tries_134 : decode cX12_tries 134 = .ok (.iload 5, 2) := by decide +kernel
theorem dX12_tries_136 : decode cX12_tries 136 = .ok (.invokestatic 299, 3) := by decide +kernel
theorem dX12_tries_139 : decode cX12_tries 139 = .ok (.istore 6, 2) := by decide +kernel
theorem dX12_tries_141 : decode cX12_tries 141 = .ok (.iload 6, 2) := by decide +kernel
theorem dX12_tries_143 : decode cX12_tries 143 = .ok (.iload_n 2, 1) := by decide +kernel
theorem dX12_tries_144 : decode cX12_tries 144 = .ok (.if_icmp .ge 7, 3) := by decide +kernel
theorem dX12_tries_147 : decode cX12_tries 147 = .ok (.iload_n 3, 1) := by decide +kernel
theorem dX12_tries_148 : decode cX12_tries 148 = .ok (.goto 4, 3) := by decide +kernel
theorem dX12_tries_151 : decode cX12_tries 151 = .ok (.iload_n 1, 1) := by decide +kernel
theorem dX12_tries_152 : decode cX12_tries 152 = .ok (.istore_n 1, 1) := by decide +kernel
theorem dX12_tries_153 : decode cX12_tries 153 = .ok (.iload_n 2, 1) := by decide +kernel
theorem dX12_tries_154 : decode cX12_tries 154 = .ok (.iload 6, 2) := by decide +kernel
theorem dX12_tries_156 : decode cX12_tries 156 = .ok (.invokestatic 146, 3) := by decide +kernel
theorem dX12_tries_159 : decode cX12_tries 159 = .ok (.istore_n 2, 1) := by decide +kernel
theorem dX12_tries_160 : decode cX12_tries 160 = .ok (.iinc 3 1, 3) := by decide +kernel
theorem dX12_tries_163 : decode cX12_tries 163 = .ok (.goto (-129), 3) := by decide +kernel
theorem dX12_tries_166 : decode cX12_tries 166 = .ok (.iload_n 1, 1) := by decide +kernel
theorem dX12_tries_167 : decode cX12_tries 167 = .ok (.ireturn, 1) := by decide +kernel
theorem dX12_heardBy_0 : decode cX12_heardBy 0 = .ok (.iload_n 1, 1) := by decide +kernel
theorem dX12_heardBy_1 : decode cX12_heardBy 1 = .ok (.istore_n 3, 1) := by decide +kernel
theorem dX12_heardBy_2 : decode cX12_heardBy 2 = .ok (.iconst 0, 1) := by decide +kernel
theorem dX12_heardBy_3 : decode cX12_heardBy 3 = .ok (.istore 4, 2) := by decide +kernel
theorem dX12_heardBy_5 : decode cX12_heardBy 5 = .ok (.iload 4, 2) := by decide +kernel
theorem dX12_heardBy_7 : decode cX12_heardBy 7 = .ok (.aload_n 0, 1) := by decide +kernel
theorem dX12_heardBy_8 : decode cX12_heardBy 8 = .ok (.invokevirtual 94, 3) := by decide +kernel
theorem dX12_heardBy_11 : decode cX12_heardBy 11 = .ok (.if_icmp .ge 59, 3) := by decide +kernel
theorem dX12_heardBy_14 : decode cX12_heardBy 14 = .ok (.iconst 0, 1) := by decide +kernel
theorem dX12_heardBy_15 : decode cX12_heardBy 15 = .ok (.istore 5, 2) := by decide +kernel
theorem dX12_heardBy_17 : decode cX12_heardBy 17 = .ok (.iload 5, 2) := by decide +kernel
theorem dX12_heardBy_19 : decode cX12_heardBy 19 = .ok (.aload_n 0, 1) := by decide +kernel
theorem dX12_heardBy_20 : decode cX12_heardBy 20 = .ok (.invokevirtual 94, 3) := by decide +kernel
theorem dX12_heardBy_23 : decode cX12_heardBy 23 = .ok (.if_icmp .ge 41, 3) := by decide +kernel
theorem dX12_heardBy_26 : decode cX12_heardBy 26 = .ok (.iload_n 3, 1) := by decide +kernel
theorem dX12_heardBy_27 : decode cX12_heardBy 27 = .ok (.iload_n 1, 1) := by decide +kernel
theorem dX12_heardBy_28 : decode cX12_heardBy 28 = .ok (.iload 4, 2) := by decide +kernel
theorem dX12_heardBy_30 : decode cX12_heardBy 30 = .ok (.invokestatic 305, 3) := by decide +kernel
theorem dX12_heardBy_33 : decode cX12_heardBy 33 = .ok (.ifCond .eq 22, 3) := by decide +kernel
theorem dX12_heardBy_36 : decode cX12_heardBy 36 = .ok (.aload_n 0, 1) := by decide +kernel
theorem dX12_heardBy_37 : decode cX12_heardBy 37 = .ok (.iload 4, 2) := by decide +kernel
theorem dX12_heardBy_39 : decode cX12_heardBy 39 = .ok (.iload 5, 2) := by decide +kernel
theorem dX12_heardBy_41 : decode cX12_heardBy 41 = .ok (.invokevirtual 280, 3) := by decide +kernel
theorem dX12_heardBy_44 : decode cX12_heardBy 44 = .ok (.iload_n 2, 1) := by decide +kernel
theorem dX12_heardBy_45 : decode cX12_heardBy 45 = .ok (.if_icmp .gt 10, 3) := by decide +kernel
theorem dX12_heardBy_48 : decode cX12_heardBy 48 = .ok (.iconst 1, 1) := by decide +kernel
theorem dX12_heardBy_49 : decode cX12_heardBy 49 = .ok (.iload 5, 2) := by decide +kernel
theorem dX12_heardBy_51 : decode cX12_heardBy 51 = .ok (.ishl, 1) := by decide +kernel
theorem dX12_heardBy_52 : decode cX12_heardBy 52 = .ok (.goto 4, 3) := by decide +kernel
theorem dX12_heardBy_55 : decode cX12_heardBy 55 = .ok (.iconst 0, 1) := by decide +kernel
theorem dX12_heardBy_56 : decode cX12_heardBy 56 = .ok (.ior, 1) := by decide +kernel
theorem dX12_heardBy_57 : decode cX12_heardBy 57 = .ok (.istore_n 3, 1) := by decide +kernel
theorem dX12_heardBy_58 : decode cX12_heardBy 58 = .ok (.iinc 5 1, 3) := by decide +kernel
theorem dX12_heardBy_61 : decode cX12_heardBy 61 = .ok (.goto (-44), 3) := by decide +kernel
theorem dX12_heardBy_64 : decode cX12_heardBy 64 = .ok (.iinc 4 1, 3) := by decide +kernel
theorem dX12_heardBy_67 : decode cX12_heardBy 67 = .ok (.goto (-62), 3) := by decide +kernel
theorem dX12_heardBy_70 : decode cX12_heardBy 70 = .ok (.iload_n 3, 1) := by decide +kernel
theorem dX12_heardBy_71 : decode cX12_heardBy 71 = .ok (.ireturn, 1) := by decide +kernel
theorem dX12_toldBy_0 : decode cX12_toldBy 0 = .ok (.iconst 1, 1) := by decide +kernel
theorem dX12_toldBy_1 : decode cX12_toldBy 1 = .ok (.iload_n 1, 1) := by decide +kernel
theorem dX12_toldBy_2 : decode cX12_toldBy 2 = .ok (.ishl, 1) := by decide +kernel
theorem dX12_toldBy_3 : decode cX12_toldBy 3 = .ok (.istore_n 3, 1) := by decide +kernel
theorem dX12_toldBy_4 : decode cX12_toldBy 4 = .ok (.iconst 0, 1) := by decide +kernel
theorem dX12_toldBy_5 : decode cX12_toldBy 5 = .ok (.istore 4, 2) := by decide +kernel
theorem dX12_toldBy_7 : decode cX12_toldBy 7 = .ok (.iload 4, 2) := by decide +kernel
theorem dX12_toldBy_9 : decode cX12_toldBy 9 = .ok (.bipush 7, 2) := by decide +kernel
theorem dX12_toldBy_11 : decode cX12_toldBy 11 = .ok (.if_icmp .ge 16, 3) := by decide +kernel
theorem dX12_toldBy_14 : decode cX12_toldBy 14 = .ok (.aload_n 0, 1) := by decide +kernel
theorem dX12_toldBy_15 : decode cX12_toldBy 15 = .ok (.iload_n 3, 1) := by decide +kernel
theorem dX12_toldBy_16 : decode cX12_toldBy 16 = .ok (.iload_n 2, 1) := by decide +kernel
theorem dX12_toldBy_17 : decode cX12_toldBy 17 = .ok (.invokevirtual 427, 3) := by decide +kernel
theorem dX12_toldBy_20 : decode cX12_toldBy 20 = .ok (.istore_n 3, 1) := by decide +kernel
theorem dX12_toldBy_21 : decode cX12_toldBy 21 = .ok (.iinc 4 1, 3) := by decide +kernel
theorem dX12_toldBy_24 : decode cX12_toldBy 24 = .ok (.goto (-17), 3) := by decide +kernel
theorem dX12_toldBy_27 : decode cX12_toldBy 27 = .ok (.iload_n 3, 1) := by decide +kernel
theorem dX12_toldBy_28 : decode cX12_toldBy 28 = .ok (.ireturn, 1) := by decide +kernel
theorem dX12_noEar_0 : decode cX12_noEar 0 = .ok (.iload_n 0, 1) := by decide +kernel
theorem dX12_noEar_1 : decode cX12_noEar 1 = .ok (.iconst 1, 1) := by decide +kernel
theorem dX12_noEar_2 : decode cX12_noEar 2 = .ok (.sipush 200, 3) := by decide +kernel
theorem dX12_noEar_5 : decode cX12_noEar 5 = .ok (.invokestatic 97, 3) := by decide +kernel
theorem dX12_noEar_8 : decode cX12_noEar 8 = .ok (.ifCond .ne 7, 3) := by decide +kernel
theorem dX12_noEar_11 : decode cX12_noEar 11 = .ok (.iconst 1, 1) := by decide +kernel
theorem dX12_noEar_12 : decode cX12_noEar 12 = .ok (.goto 4, 3) := by decide +kernel
theorem dX12_noEar_15 : decode cX12_noEar 15 = .ok (.iconst 0, 1) := by decide +kernel
theorem dX12_noEar_16 : decode cX12_noEar 16 = .ok (.ireturn, 1) := by decide +kernel
theorem dX12_calls_0 : decode cX12_calls 0 = .ok (.aload_n 0, 1) := by decide +kernel
theorem dX12_calls_1 : decode cX12_calls 1 = .ok (.iconst 0, 1) := by decide +kernel
theorem dX12_calls_2 : decode cX12_calls 2 = .ok (.putfield 3, 3) := by decide +kernel
theorem dX12_calls_5 : decode cX12_calls 5 = .ok (.aload_n 0, 1) := by decide +kernel
theorem dX12_calls_6 : decode cX12_calls 6 = .ok (.aload_n 0, 1) := by decide +kernel
theorem dX12_calls_7 : decode cX12_calls 7 = .ok (.iload_n 1, 1) := by decide +kernel
theorem dX12_calls_8 : decode cX12_calls 8 = .ok (.invokevirtual 342, 3) := by decide +kernel
theorem dX12_calls_11 : decode cX12_calls 11 = .ok (.ifCond .ne 11, 3) := by decide +kernel
theorem dX12_calls_14 : decode cX12_calls 14 = .ok (.aload_n 0, 1) := by decide +kernel
theorem dX12_calls_15 : decode cX12_calls 15 = .ok (.iload_n 2, 1) := by decide +kernel
theorem dX12_calls_16 : decode cX12_calls 16 = .ok (.invokevirtual 342, 3) := by decide +kernel
theorem dX12_calls_19 : decode cX12_calls 19 = .ok (.ifCond .eq 7, 3) := by decide +kernel
theorem dX12_calls_22 : decode cX12_calls 22 = .ok (.iconst 1, 1) := by decide +kernel
theorem dX12_calls_23 : decode cX12_calls 23 = .ok (.goto 4, 3) := by decide +kernel
theorem dX12_calls_26 : decode cX12_calls 26 = .ok (.iconst 0, 1) := by decide +kernel
theorem dX12_calls_27 : decode cX12_calls 27 = .ok (.iconst 1, 1) := by decide +kernel
theorem dX12_calls_28 : decode cX12_calls 28 = .ok (.invokevirtual 277, 3) := by decide +kernel
theorem dX12_calls_31 : decode cX12_calls 31 = .ok (.ifCond .ne 15, 3) := by decide +kernel
theorem dX12_calls_34 : decode cX12_calls 34 = .ok (.aload_n 0, 1) := by decide +kernel
theorem dX12_calls_35 : decode cX12_calls 35 = .ok (.iload_n 3, 1) := by decide +kernel
theorem dX12_calls_36 : decode cX12_calls 36 = .ok (.invokestatic 430, 3) := by decide +kernel
theorem dX12_calls_39 : decode cX12_calls 39 = .ok (.iconst 2, 1) := by decide +kernel
theorem dX12_calls_40 : decode cX12_calls 40 = .ok (.invokevirtual 277, 3) := by decide +kernel
theorem dX12_calls_43 : decode cX12_calls 43 = .ok (.ifCond .eq 5, 3) := by decide +kernel
theorem dX12_calls_46 : decode cX12_calls 46 = .ok (.iconst 0, 1) := by decide +kernel
theorem dX12_calls_47 : decode cX12_calls 47 = .ok (.ireturn, 1) := by decide +kernel
theorem dX12_calls_48 : decode cX12_calls 48 = .ok (.iconst 1, 1) := by decide +kernel
theorem dX12_calls_49 : decode cX12_calls 49 = .ok (.iload_n 1, 1) := by decide +kernel
theorem dX12_calls_50 : decode cX12_calls 50 = .ok (.ishl, 1) := by decide +kernel
theorem dX12_calls_51 : decode cX12_calls 51 = .ok (.istore 4, 2) := by decide +kernel
theorem dX12_calls_53 : decode cX12_calls 53 = .ok (.iconst 0, 1) := by decide +kernel
theorem dX12_calls_54 : decode cX12_calls 54 = .ok (.istore 5, 2) := by decide +kernel
theorem dX12_calls_56 : decode cX12_calls 56 = .ok (.iload 5, 2) := by decide +kernel
theorem dX12_calls_58 : decode cX12_calls 58 = .ok (.bipush 7, 2) := by decide +kernel
theorem dX12_calls_60 : decode cX12_calls 60 = .ok (.if_icmp .ge 27, 3) := by decide +kernel
theorem dX12_calls_63 : decode cX12_calls 63 = .ok (.iload 4, 2) := by decide +kernel
theorem dX12_calls_65 : decode cX12_calls 65 = .ok (.iload_n 2, 1) := by decide +kernel
theorem dX12_calls_66 : decode cX12_calls 66 = .ok (.invokestatic 305, 3) := by decide +kernel
theorem dX12_calls_69 : decode cX12_calls 69 = .ok (.ifCond .ne 18, 3) := by decide +kernel
theorem dX12_calls_72 : decode cX12_calls 72 = .ok (.aload_n 0, 1) := by decide +kernel
theorem dX12_calls_73 : decode cX12_calls 73 = .ok (.iload 4, 2) := by decide +kernel
theorem dX12_calls_75 : decode cX12_calls 75 = .ok (.iload_n 3, 1) := by decide +kernel
theorem dX12_calls_76 : decode cX12_calls 76 = .ok (.invokevirtual 427, 3) := by decide +kernel
theorem dX12_calls_79 : decode cX12_calls 79 = .ok (.istore 4, 2) := by decide +kernel
theorem dX12_calls_81 : decode cX12_calls 81 = .ok (.iinc 5 1, 3) := by decide +kernel
theorem dX12_calls_84 : decode cX12_calls 84 = .ok (.goto (-28), 3) := by decide +kernel
theorem dX12_calls_87 : decode cX12_calls 87 = .ok (.iload 4, 2) := by decide +kernel
theorem dX12_calls_89 : decode cX12_calls 89 = .ok (.iload_n 2, 1) := by decide +kernel
theorem dX12_calls_90 : decode cX12_calls 90 = .ok (.invokestatic 305, 3) := by decide +kernel
theorem dX12_calls_93 : decode cX12_calls 93 = .ok (.ifCond .eq 8, 3) := by decide +kernel
theorem dX12_calls_96 : decode cX12_calls 96 = .ok (.iload 5, 2) := by decide +kernel
theorem dX12_calls_98 : decode cX12_calls 98 = .ok (.goto 4, 3) := by decide +kernel
theorem dX12_calls_101 : decode cX12_calls 101 = .ok (.iconst (-1), 1) := by decide +kernel
theorem dX12_calls_102 : decode cX12_calls 102 = .ok (.ireturn, 1) := by decide +kernel
theorem dX12_told_0 : decode cX12_told 0 = .ok (.aload_n 0, 1) := by decide +kernel
theorem dX12_told_1 : decode cX12_told 1 = .ok (.iconst 0, 1) := by decide +kernel
theorem dX12_told_2 : decode cX12_told 2 = .ok (.putfield 3, 3) := by decide +kernel
theorem dX12_told_5 : decode cX12_told 5 = .ok (.aload_n 0, 1) := by decide +kernel
theorem dX12_told_6 : decode cX12_told 6 = .ok (.aload_n 0, 1) := by decide +kernel
theorem dX12_told_7 : decode cX12_told 7 = .ok (.iload_n 1, 1) := by decide +kernel
theorem dX12_told_8 : decode cX12_told 8 = .ok (.invokevirtual 342, 3) := by decide +kernel
theorem dX12_told_11 : decode cX12_told 11 = .ok (.iconst 1, 1) := by decide +kernel
theorem dX12_told_12 : decode cX12_told 12 = .ok (.invokevirtual 277, 3) := by decide +kernel
theorem dX12_told_15 : decode cX12_told 15 = .ok (.ifCond .ne 15, 3) := by decide +kernel
theorem dX12_told_18 : decode cX12_told 18 = .ok (.aload_n 0, 1) := by decide +kernel
theorem dX12_told_19 : decode cX12_told 19 = .ok (.iload_n 2, 1) := by decide +kernel
theorem dX12_told_20 : decode cX12_told 20 = .ok (.invokestatic 430, 3) := by decide +kernel
theorem dX12_told_23 : decode cX12_told 23 = .ok (.iconst 2, 1) := by decide +kernel
theorem dX12_told_24 : decode cX12_told 24 = .ok (.invokevirtual 277, 3) := by decide +kernel
theorem dX12_told_27 : decode cX12_told 27 = .ok (.ifCond .eq 7, 3) := by decide +kernel
theorem dX12_told_30 : decode cX12_told 30 = .ok (.iconst 0, 1) := by decide +kernel
theorem dX12_told_31 : decode cX12_told 31 = .ok (.goto 9, 3) := by decide +kernel
theorem dX12_told_34 : decode cX12_told 34 = .ok (.aload_n 0, 1) := by decide +kernel
theorem dX12_told_35 : decode cX12_told 35 = .ok (.iload_n 1, 1) := by decide +kernel
theorem dX12_told_36 : decode cX12_told 36 = .ok (.iload_n 2, 1) := by decide +kernel
theorem dX12_told_37 : decode cX12_told 37 = .ok (.invokevirtual 433, 3) := by decide +kernel
theorem dX12_told_40 : decode cX12_told 40 = .ok (.ireturn, 1) := by decide +kernel
theorem dX12_ear_0 : decode cX12_ear 0 = .ok (.aload_n 0, 1) := by decide +kernel
theorem dX12_ear_1 : decode cX12_ear 1 = .ok (.iconst 0, 1) := by decide +kernel
theorem dX12_ear_2 : decode cX12_ear 2 = .ok (.putfield 3, 3) := by decide +kernel
theorem dX12_ear_5 : decode cX12_ear 5 = .ok (.aload_n 0, 1) := by decide +kernel
theorem dX12_ear_6 : decode cX12_ear 6 = .ok (.invokevirtual 94, 3) := by decide +kernel
theorem dX12_ear_9 : decode cX12_ear 9 = .ok (.ifCond .ne 5, 3) := by decide +kernel
theorem dX12_ear_12 : decode cX12_ear 12 = .ok (.iconst (-1), 1) := by decide +kernel
theorem dX12_ear_13 : decode cX12_ear 13 = .ok (.ireturn, 1) := by decide +kernel
theorem dX12_ear_14 : decode cX12_ear 14 = .ok (.iconst 0, 1) := by decide +kernel
theorem dX12_ear_15 : decode cX12_ear 15 = .ok (.istore_n 1, 1) := by decide +kernel
theorem dX12_ear_16 : decode cX12_ear 16 = .ok (.iconst 0, 1) := by decide +kernel
theorem dX12_ear_17 : decode cX12_ear 17 = .ok (.istore_n 2, 1) := by decide +kernel
theorem dX12_ear_18 : decode cX12_ear 18 = .ok (.iload_n 2, 1) := by decide +kernel
theorem dX12_ear_19 : decode cX12_ear 19 = .ok (.ifCond .ne 50, 3) := by decide +kernel
theorem dX12_ear_22 : decode cX12_ear 22 = .ok (.iinc 1 1, 3) := by decide +kernel
theorem dX12_ear_25 : decode cX12_ear 25 = .ok (.iconst 1, 1) := by decide +kernel
theorem dX12_ear_26 : decode cX12_ear 26 = .ok (.istore_n 2, 1) := by decide +kernel
theorem dX12_ear_27 : decode cX12_ear 27 = .ok (.iconst 0, 1) := by decide +kernel
theorem dX12_ear_28 : decode cX12_ear 28 = .ok (.istore_n 3, 1) := by decide +kernel
theorem dX12_ear_29 : decode cX12_ear 29 = .ok (.iload_n 3, 1) := by decide +kernel
theorem dX12_ear_30 : decode cX12_ear 30 = .ok (.aload_n 0, 1) := by decide +kernel
theorem dX12_ear_31 : decode cX12_ear 31 = .ok (.invokevirtual 94, 3) := by decide +kernel
theorem dX12_ear_34 : decode cX12_ear 34 = .ok (.if_icmp .ge 32, 3) := by decide +kernel
theorem dX12_ear_37 : decode cX12_ear 37 = .ok (.iload_n 2, 1) := by decide +kernel
theorem dX12_ear_38 : decode cX12_ear 38 = .ok (.ifCond .eq 20, 3) := by decide +kernel
theorem dX12_ear_41 : decode cX12_ear 41 = .ok (.aload_n 0, 1) := by decide +kernel
theorem dX12_ear_42 : decode cX12_ear 42 = .ok (.iload_n 3, 1) := by decide +kernel
theorem dX12_ear_43 : decode cX12_ear 43 = .ok (.iload_n 1, 1) := by decide +kernel
theorem dX12_ear_44 : decode cX12_ear 44 = .ok (.invokevirtual 433, 3) := by decide +kernel
theorem dX12_ear_47 : decode cX12_ear 47 = .ok (.aload_n 0, 1) := by decide +kernel
theorem dX12_ear_48 : decode cX12_ear 48 = .ok (.invokevirtual 376, 3) := by decide +kernel
theorem dX12_ear_51 : decode cX12_ear 51 = .ok (.if_icmp .ne 7, 3) := by decide +kernel
theorem dX12_ear_54 : decode cX12_ear 54 = .ok (.iconst 1, 1) := by decide +kernel
theorem dX12_ear_55 : decode cX12_ear 55 = .ok (.goto 4, 3) := by decide +kernel
theorem dX12_ear_58 : decode cX12_ear 58 = .ok (.iconst 0, 1) := by decide +kernel
theorem dX12_ear_59 : decode cX12_ear 59 = .ok (.istore_n 2, 1) := by decide +kernel
theorem dX12_ear_60 : decode cX12_ear 60 = .ok (.iinc 3 1, 3) := by decide +kernel
theorem dX12_ear_63 : decode cX12_ear 63 = .ok (.goto (-34), 3) := by decide +kernel
theorem dX12_ear_66 : decode cX12_ear 66 = .ok (.goto (-48), 3) := by decide +kernel
theorem dX12_ear_69 : decode cX12_ear 69 = .ok (.iload_n 1, 1) := by decide +kernel
theorem dX12_ear_70 : decode cX12_ear 70 = .ok (.ireturn, 1) := by decide +kernel
theorem dX12_farthest_0 : decode cX12_farthest 0 = .ok (.aload_n 0, 1) := by decide +kernel
theorem dX12_farthest_1 : decode cX12_farthest 1 = .ok (.iconst 0, 1) := by decide +kernel
theorem dX12_farthest_2 : decode cX12_farthest 2 = .ok (.putfield 3, 3) := by decide +kernel
theorem dX12_farthest_5 : decode cX12_farthest 5 = .ok (.iconst (-1), 1) := by decide +kernel
theorem dX12_farthest_6 : decode cX12_farthest 6 = .ok (.istore_n 1, 1) := by decide +kernel
theorem dX12_farthest_7 : decode cX12_farthest 7 = .ok (.iconst (-1), 1) := by decide +kernel
theorem dX12_farthest_8 : decode cX12_farthest 8 = .ok (.istore_n 2, 1) := by decide +kernel
theorem dX12_farthest_9 : decode cX12_farthest 9 = .ok (.iconst 0, 1) := by decide +kernel
theorem dX12_farthest_10 : decode cX12_farthest 10 = .ok (.istore_n 3, 1) := by decide +kernel
theorem dX12_farthest_11 : decode cX12_farthest 11 = .ok (.iload_n 3, 1) := by decide +kernel
theorem dX12_farthest_12 : decode cX12_farthest 12 = .ok (.aload_n 0, 1) := by decide +kernel
theorem dX12_farthest_13 : decode cX12_farthest 13 = .ok (.invokevirtual 94, 3) := by decide +kernel
theorem dX12_farthest_16 : decode cX12_farthest 16 = .ok (.if_icmp .ge 34, 3) := by decide +kernel
theorem dX12_farthest_19 : decode cX12_farthest 19 = .ok (.aload_n 0, 1) := by decide +kernel
theorem dX12_farthest_20 : decode cX12_farthest 20 = .ok (.iload_n 3, 1) := by decide +kernel
theorem dX12_farthest_21 : decode cX12_farthest 21 = .ok (.invokevirtual 373, 3) := by decide +kernel
theorem dX12_farthest_24 : decode cX12_farthest 24 = .ok (.iload_n 2, 1) := by decide +kernel
theorem dX12_farthest_25 : decode cX12_farthest 25 = .ok (.if_icmp .le 7, 3) := by decide +kernel
theorem dX12_farthest_28 : decode cX12_farthest 28 = .ok (.iload_n 3, 1) := by decide +kernel
theorem dX12_farthest_29 : decode cX12_farthest 29 = .ok (.goto 4, 3) := by decide +kernel
theorem dX12_farthest_32 : decode cX12_farthest 32 = .ok (.iload_n 1, 1) := by decide +kernel
theorem dX12_farthest_33 : decode cX12_farthest 33 = .ok (.istore_n 1, 1) := by decide +kernel
theorem dX12_farthest_34 : decode cX12_farthest 34 = .ok (.iload_n 2, 1) := by decide +kernel
theorem dX12_farthest_35 : decode cX12_farthest 35 = .ok (.aload_n 0, 1) := by decide +kernel
theorem dX12_farthest_36 : decode cX12_farthest 36 = .ok (.iload_n 3, 1) := by decide +kernel
theorem dX12_farthest_37 : decode cX12_farthest 37 = .ok (.invokevirtual 373, 3) := by decide +kernel
theorem dX12_farthest_40 : decode cX12_farthest 40 = .ok (.invokestatic 299, 3) := by decide +kernel
theorem dX12_farthest_43 : decode cX12_farthest 43 = .ok (.istore_n 2, 1) := by decide +kernel
theorem dX12_farthest_44 : decode cX12_farthest 44 = .ok (.iinc 3 1, 3) := by decide +kernel
theorem dX12_farthest_47 : decode cX12_farthest 47 = .ok (.goto (-36), 3) := by decide +kernel
theorem dX12_farthest_50 : decode cX12_farthest 50 = .ok (.iload_n 1, 1) := by decide +kernel
theorem dX12_farthest_51 : decode cX12_farthest 51 = .ok (.ireturn, 1) := by decide +kernel
theorem dX12_noSpan_0 : decode cX12_noSpan 0 = .ok (.iload_n 0, 1) := by decide +kernel
theorem dX12_noSpan_1 : decode cX12_noSpan 1 = .ok (.iconst 0, 1) := by decide +kernel
theorem dX12_noSpan_2 : decode cX12_noSpan 2 = .ok (.sipush 199, 3) := by decide +kernel
theorem dX12_noSpan_5 : decode cX12_noSpan 5 = .ok (.invokestatic 97, 3) := by decide +kernel
theorem dX12_noSpan_8 : decode cX12_noSpan 8 = .ok (.ifCond .ne 7, 3) := by decide +kernel
theorem dX12_noSpan_11 : decode cX12_noSpan 11 = .ok (.iconst 1, 1) := by decide +kernel
theorem dX12_noSpan_12 : decode cX12_noSpan 12 = .ok (.goto 4, 3) := by decide +kernel
theorem dX12_noSpan_15 : decode cX12_noSpan 15 = .ok (.iconst 0, 1) := by decide +kernel
theorem dX12_noSpan_16 : decode cX12_noSpan 16 = .ok (.ireturn, 1) := by decide +kernel
theorem dX12_few_0 : decode cX12_few 0 = .ok (.aload_n 0, 1) := by decide +kernel
theorem dX12_few_1 : decode cX12_few 1 = .ok (.iconst 0, 1) := by decide +kernel
theorem dX12_few_2 : decode cX12_few 2 = .ok (.putfield 3, 3) := by decide +kernel
theorem dX12_few_5 : decode cX12_few 5 = .ok (.aload_n 0, 1) := by decide +kernel
theorem dX12_few_6 : decode cX12_few 6 = .ok (.iload_n 1, 1) := by decide +kernel
theorem dX12_few_7 : decode cX12_few 7 = .ok (.invokestatic 436, 3) := by decide +kernel
theorem dX12_few_10 : decode cX12_few 10 = .ok (.iconst 1, 1) := by decide +kernel
theorem dX12_few_11 : decode cX12_few 11 = .ok (.invokevirtual 277, 3) := by decide +kernel
theorem dX12_few_14 : decode cX12_few 14 = .ok (.ifCond .eq 5, 3) := by decide +kernel
theorem dX12_few_17 : decode cX12_few 17 = .ok (.iconst 0, 1) := by decide +kernel
theorem dX12_few_18 : decode cX12_few 18 = .ok (.ireturn, 1) := by decide +kernel
theorem dX12_few_19 : decode cX12_few 19 = .ok (.iconst (-1), 1) := by decide +kernel
theorem dX12_few_20 : decode cX12_few 20 = .ok (.istore_n 2, 1) := by decide +kernel
theorem dX12_few_21 : decode cX12_few 21 = .ok (.iconst 0, 1) := by decide +kernel
theorem dX12_few_22 : decode cX12_few 22 = .ok (.istore_n 3, 1) := by decide +kernel
theorem dX12_few_23 : decode cX12_few 23 = .ok (.iload_n 3, 1) := by decide +kernel
theorem dX12_few_24 : decode cX12_few 24 = .ok (.aload_n 0, 1) := by decide +kernel
theorem dX12_few_25 : decode cX12_few 25 = .ok (.invokevirtual 361, 3) := by decide +kernel
theorem dX12_few_28 : decode cX12_few 28 = .ok (.if_icmp .gt 89, 3) := by decide +kernel
theorem dX12_few_31 : decode cX12_few 31 = .ok (.iload_n 2, 1) := by decide +kernel
theorem dX12_few_32 : decode cX12_few 32 = .ok (.iconst (-1), 1) := by decide +kernel
theorem dX12_few_33 : decode cX12_few 33 = .ok (.if_icmp .eq 14, 3) := by decide +kernel
theorem dX12_few_36 : decode cX12_few 36 = .ok (.iload_n 3, 1) := by decide +kernel
theorem dX12_few_37 : decode cX12_few 37 = .ok (.invokestatic 287, 3) := by decide +kernel
theorem dX12_few_40 : decode cX12_few 40 = .ok (.iload_n 2, 1) := by decide +kernel
theorem dX12_few_41 : decode cX12_few 41 = .ok (.invokestatic 287, 3) := by decide +kernel
theorem dX12_few_44 : decode cX12_few 44 = .ok (.if_icmp .ge 7, 3) := by decide +kernel
theorem dX12_few_47 : decode cX12_few 47 = .ok (.iconst 1, 1) := by decide +kernel
theorem dX12_few_48 : decode cX12_few 48 = .ok (.goto 4, 3) := by decide +kernel
theorem dX12_few_51 : decode cX12_few 51 = .ok (.iconst 0, 1) := by decide +kernel
theorem dX12_few_52 : decode cX12_few 52 = .ok (.istore 4, 2) := by decide +kernel
theorem dX12_few_54 : decode cX12_few 54 = .ok (.iconst 0, 1) := by decide +kernel
theorem dX12_few_55 : decode cX12_few 55 = .ok (.istore 5, 2) := by decide +kernel
theorem dX12_few_57 : decode cX12_few 57 = .ok (.iload 5, 2) := by decide +kernel
theorem dX12_few_59 : decode cX12_few 59 = .ok (.aload_n 0, 1) := by decide +kernel
theorem dX12_few_60 : decode cX12_few 60 = .ok (.invokevirtual 94, 3) := by decide +kernel
theorem dX12_few_63 : decode cX12_few 63 = .ok (.if_icmp .ge 37, 3) := by decide +kernel
theorem dX12_few_66 : decode cX12_few 66 = .ok (.iload 4, 2) := by decide +kernel
theorem dX12_few_68 : decode cX12_few 68 = .ok (.ifCond .eq 32, 3) := by decide +kernel
theorem dX12_few_71 : decode cX12_few 71 = .ok (.aload_n 0, 1) := by decide +kernel
theorem dX12_few_72 : decode cX12_few 72 = .ok (.aload_n 0, 1) := by decide +kernel
theorem dX12_few_73 : decode cX12_few 73 = .ok (.iload 5, 2) := by decide +kernel
theorem dX12_few_75 : decode cX12_few 75 = .ok (.iconst 0, 1) := by decide +kernel
theorem dX12_few_76 : decode cX12_few 76 = .ok (.invokevirtual 88, 3) := by decide +kernel
theorem dX12_few_79 : decode cX12_few 79 = .ok (.iload_n 3, 1) := by decide +kernel
theorem dX12_few_80 : decode cX12_few 80 = .ok (.invokevirtual 364, 3) := by decide +kernel
theorem dX12_few_83 : decode cX12_few 83 = .ok (.iload_n 1, 1) := by decide +kernel
theorem dX12_few_84 : decode cX12_few 84 = .ok (.if_icmp .gt 7, 3) := by decide +kernel
theorem dX12_few_87 : decode cX12_few 87 = .ok (.iconst 1, 1) := by decide +kernel
theorem dX12_few_88 : decode cX12_few 88 = .ok (.goto 4, 3) := by decide +kernel
theorem dX12_few_91 : decode cX12_few 91 = .ok (.iconst 0, 1) := by decide +kernel
theorem dX12_few_92 : decode cX12_few 92 = .ok (.istore 4, 2) := by decide +kernel
theorem dX12_few_94 : decode cX12_few 94 = .ok (.iinc 5 1, 3) := by decide +kernel
theorem dX12_few_97 : decode cX12_few 97 = .ok (.goto (-40), 3) := by decide +kernel
theorem dX12_few_100 : decode cX12_few 100 = .ok (.iload 4, 2) := by decide +kernel
theorem dX12_few_102 : decode cX12_few 102 = .ok (.ifCond .eq 7, 3) := by decide +kernel
theorem dX12_few_105 : decode cX12_few 105 = .ok (.iload_n 3, 1) := by decide +kernel
theorem dX12_few_106 : decode cX12_few 106 = .ok (.goto 4, 3) := by decide +kernel
theorem dX12_few_109 : decode cX12_few 109 = .ok (.iload_n 2, 1) := by decide +kernel
theorem dX12_few_110 : decode cX12_few 110 = .ok (.istore_n 2, 1) := by decide +kernel
theorem dX12_few_111 : decode cX12_few 111 = .ok (.iinc 3 1, 3) := by decide +kernel
theorem dX12_few_114 : decode cX12_few 114 = .ok (.goto (-91), 3) := by decide +kernel
theorem dX12_few_117 : decode cX12_few 117 = .ok (.iload_n 2, 1) := by decide +kernel
theorem dX12_few_118 : decode cX12_few 118 = .ok (.ireturn, 1) := by decide +kernel
theorem dX12_worthAt_0 : decode cX12_worthAt 0 = .ok (.iload_n 0, 1) := by decide +kernel
theorem dX12_worthAt_1 : decode cX12_worthAt 1 = .ok (.sipush 256, 3) := by decide +kernel
theorem dX12_worthAt_4 : decode cX12_worthAt 4 = .ok (.imul, 1) := by decide +kernel
theorem dX12_worthAt_5 : decode cX12_worthAt 5 = .ok (.iload_n 1, 1) := by decide +kernel
theorem dX12_worthAt_6 : decode cX12_worthAt 6 = .ok (.iadd, 1) := by decide +kernel
theorem dX12_worthAt_7 : decode cX12_worthAt 7 = .ok (.ireturn, 1) := by decide +kernel
theorem dX12_worthIf_0 : decode cX12_worthIf 0 = .ok (.iload_n 3, 1) := by decide +kernel
theorem dX12_worthIf_1 : decode cX12_worthIf 1 = .ok (.aload_n 0, 1) := by decide +kernel
theorem dX12_worthIf_2 : decode cX12_worthIf 2 = .ok (.invokevirtual 101, 3) := by decide +kernel
theorem dX12_worthIf_5 : decode cX12_worthIf 5 = .ok (.if_icmp .ne 16, 3) := by decide +kernel
theorem dX12_worthIf_8 : decode cX12_worthIf 8 = .ok (.aload_n 0, 1) := by decide +kernel
theorem dX12_worthIf_9 : decode cX12_worthIf 9 = .ok (.getfield 54, 3) := by decide +kernel
theorem dX12_worthIf_12 : decode cX12_worthIf 12 = .ok (.iload_n 1, 1) := by decide +kernel
theorem dX12_worthIf_13 : decode cX12_worthIf 13 = .ok (.iconst 1, 1) := by decide +kernel
theorem dX12_worthIf_14 : decode cX12_worthIf 14 = .ok (.iadd, 1) := by decide +kernel
theorem dX12_worthIf_15 : decode cX12_worthIf 15 = .ok (.iload_n 2, 1) := by decide +kernel
theorem dX12_worthIf_16 : decode cX12_worthIf 16 = .ok (.invokestatic 439, 3) := by decide +kernel
theorem dX12_worthIf_19 : decode cX12_worthIf 19 = .ok (.iaload, 1) := by decide +kernel
theorem dX12_worthIf_20 : decode cX12_worthIf 20 = .ok (.ireturn, 1) := by decide +kernel
theorem dX12_worthIf_21 : decode cX12_worthIf 21 = .ok (.iload_n 2, 1) := by decide +kernel
theorem dX12_worthIf_22 : decode cX12_worthIf 22 = .ok (.iconst 2, 1) := by decide +kernel
theorem dX12_worthIf_23 : decode cX12_worthIf 23 = .ok (.iload_n 3, 1) := by decide +kernel
theorem dX12_worthIf_24 : decode cX12_worthIf 24 = .ok (.imul, 1) := by decide +kernel
theorem dX12_worthIf_25 : decode cX12_worthIf 25 = .ok (.ishr, 1) := by decide +kernel
theorem dX12_worthIf_26 : decode cX12_worthIf 26 = .ok (.iconst 3, 1) := by decide +kernel
theorem dX12_worthIf_27 : decode cX12_worthIf 27 = .ok (.iand, 1) := by decide +kernel
theorem dX12_worthIf_28 : decode cX12_worthIf 28 = .ok (.ifCond .ne 5, 3) := by decide +kernel
theorem dX12_worthIf_31 : decode cX12_worthIf 31 = .ok (.iconst (-1), 1) := by decide +kernel
theorem dX12_worthIf_32 : decode cX12_worthIf 32 = .ok (.ireturn, 1) := by decide +kernel
theorem dX12_worthIf_33 : decode cX12_worthIf 33 = .ok (.sipush 10000, 3) := by decide +kernel
theorem dX12_worthIf_36 : decode cX12_worthIf 36 = .ok (.aload_n 0, 1) := by decide +kernel
theorem dX12_worthIf_37 : decode cX12_worthIf 37 = .ok (.aload_n 0, 1) := by decide +kernel
theorem dX12_worthIf_38 : decode cX12_worthIf 38 = .ok (.iload_n 1, 1) := by decide +kernel
theorem dX12_worthIf_39 : decode cX12_worthIf 39 = .ok (.iconst 0, 1) := by decide +kernel
theorem dX12_worthIf_40 : decode cX12_worthIf 40 = .ok (.invokevirtual 88, 3) := by decide +kernel
theorem dX12_worthIf_43 : decode cX12_worthIf 43 = .ok (.aload_n 0, 1) := by decide +kernel
theorem dX12_worthIf_44 : decode cX12_worthIf 44 = .ok (.iload_n 3, 1) := by decide +kernel
theorem dX12_worthIf_45 : decode cX12_worthIf 45 = .ok (.iconst 0, 1) := by decide +kernel
theorem dX12_worthIf_46 : decode cX12_worthIf 46 = .ok (.invokevirtual 358, 3) := by decide +kernel
theorem dX12_worthIf_49 : decode cX12_worthIf 49 = .ok (.invokevirtual 91, 3) := by decide +kernel
theorem dX12_worthIf_52 : decode cX12_worthIf 52 = .ok (.isub, 1) := by decide +kernel
theorem dX12_worthIf_53 : decode cX12_worthIf 53 = .ok (.aload_n 0, 1) := by decide +kernel
theorem dX12_worthIf_54 : decode cX12_worthIf 54 = .ok (.getfield 54, 3) := by decide +kernel
theorem dX12_worthIf_57 : decode cX12_worthIf 57 = .ok (.iload_n 1, 1) := by decide +kernel
theorem dX12_worthIf_58 : decode cX12_worthIf 58 = .ok (.iconst 1, 1) := by decide +kernel
theorem dX12_worthIf_59 : decode cX12_worthIf 59 = .ok (.iadd, 1) := by decide +kernel
theorem dX12_worthIf_60 : decode cX12_worthIf 60 = .ok (.iload_n 2, 1) := by decide +kernel
theorem dX12_worthIf_61 : decode cX12_worthIf 61 = .ok (.iconst 1, 1) := by decide +kernel
theorem dX12_worthIf_62 : decode cX12_worthIf 62 = .ok (.iconst 2, 1) := by decide +kernel
theorem dX12_worthIf_63 : decode cX12_worthIf 63 = .ok (.iload_n 3, 1) := by decide +kernel
theorem dX12_worthIf_64 : decode cX12_worthIf 64 = .ok (.imul, 1) := by decide +kernel
theorem dX12_worthIf_65 : decode cX12_worthIf 65 = .ok (.ishl, 1) := by decide +kernel
theorem dX12_worthIf_66 : decode cX12_worthIf 66 = .ok (.isub, 1) := by decide +kernel
theorem dX12_worthIf_67 : decode cX12_worthIf 67 = .ok (.invokestatic 439, 3) := by decide +kernel
theorem dX12_worthIf_70 : decode cX12_worthIf 70 = .ok (.iaload, 1) := by decide +kernel
theorem dX12_worthIf_71 : decode cX12_worthIf 71 = .ok (.iadd, 1) := by decide +kernel
theorem dX12_worthIf_72 : decode cX12_worthIf 72 = .ok (.ireturn, 1) := by decide +kernel
theorem dX12_allSeats_0 : decode cX12_allSeats 0 = .ok (.iconst 0, 1) := by decide +kernel
theorem dX12_allSeats_1 : decode cX12_allSeats 1 = .ok (.istore_n 1, 1) := by decide +kernel
theorem dX12_allSeats_2 : decode cX12_allSeats 2 = .ok (.iconst 0, 1) := by decide +kernel
theorem dX12_allSeats_3 : decode cX12_allSeats 3 = .ok (.istore_n 2, 1) := by decide +kernel
theorem dX12_allSeats_4 : decode cX12_allSeats 4 = .ok (.iload_n 2, 1) := by decide +kernel
theorem dX12_allSeats_5 : decode cX12_allSeats 5 = .ok (.aload_n 0, 1) := by decide +kernel
theorem dX12_allSeats_6 : decode cX12_allSeats 6 = .ok (.invokevirtual 101, 3) := by decide +kernel
theorem dX12_allSeats_9 : decode cX12_allSeats 9 = .ok (.if_icmp .ge 22, 3) := by decide +kernel
theorem dX12_allSeats_12 : decode cX12_allSeats 12 = .ok (.iload_n 1, 1) := by decide +kernel
theorem dX12_allSeats_13 : decode cX12_allSeats 13 = .ok (.aload_n 0, 1) := by decide +kernel
theorem dX12_allSeats_14 : decode cX12_allSeats 14 = .ok (.iload_n 2, 1) := by decide +kernel
theorem dX12_allSeats_15 : decode cX12_allSeats 15 = .ok (.iconst 1, 1) := by decide +kernel
theorem dX12_allSeats_16 : decode cX12_allSeats 16 = .ok (.invokevirtual 358, 3) := by decide +kernel
theorem dX12_allSeats_19 : decode cX12_allSeats 19 = .ok (.iconst 2, 1) := by decide +kernel
theorem dX12_allSeats_20 : decode cX12_allSeats 20 = .ok (.iload_n 2, 1) := by decide +kernel
theorem dX12_allSeats_21 : decode cX12_allSeats 21 = .ok (.imul, 1) := by decide +kernel
theorem dX12_allSeats_22 : decode cX12_allSeats 22 = .ok (.ishl, 1) := by decide +kernel
theorem dX12_allSeats_23 : decode cX12_allSeats 23 = .ok (.iadd, 1) := by decide +kernel
theorem dX12_allSeats_24 : decode cX12_allSeats 24 = .ok (.istore_n 1, 1) := by decide +kernel
theorem dX12_allSeats_25 : decode cX12_allSeats 25 = .ok (.iinc 2 1, 3) := by decide +kernel
theorem dX12_allSeats_28 : decode cX12_allSeats 28 = .ok (.goto (-24), 3) := by decide +kernel
theorem dX12_allSeats_31 : decode cX12_allSeats 31 = .ok (.iload_n 1, 1) := by decide +kernel
theorem dX12_allSeats_32 : decode cX12_allSeats 32 = .ok (.ireturn, 1) := by decide +kernel
theorem dX12_laysSeats_0 : decode cX12_laysSeats 0 = .ok (.iconst 0, 1) := by decide +kernel
theorem dX12_laysSeats_1 : decode cX12_laysSeats 1 = .ok (.istore_n 1, 1) := by decide +kernel
theorem dX12_laysSeats_2 : decode cX12_laysSeats 2 = .ok (.iload_n 1, 1) := by decide +kernel
theorem dX12_laysSeats_3 : decode cX12_laysSeats 3 = .ok (.sipush 256, 3) := by decide +kernel
theorem dX12_laysSeats_6 : decode cX12_laysSeats 6 = .ok (.if_icmp .ge 23, 3) := by decide +kernel
theorem dX12_laysSeats_9 : decode cX12_laysSeats 9 = .ok (.aload_n 0, 1) := by decide +kernel
theorem dX12_laysSeats_10 : decode cX12_laysSeats 10 = .ok (.getfield 54, 3) := by decide +kernel
theorem dX12_laysSeats_13 : decode cX12_laysSeats 13 = .ok (.aload_n 0, 1) := by decide +kernel
theorem dX12_laysSeats_14 : decode cX12_laysSeats 14 = .ok (.invokevirtual 94, 3) := by decide +kernel
theorem dX12_laysSeats_17 : decode cX12_laysSeats 17 = .ok (.iload_n 1, 1) := by decide +kernel
theorem dX12_laysSeats_18 : decode cX12_laysSeats 18 = .ok (.invokestatic 439, 3) := by decide +kernel
theorem dX12_laysSeats_21 : decode cX12_laysSeats 21 = .ok (.iconst 0, 1) := by decide +kernel
theorem dX12_laysSeats_22 : decode cX12_laysSeats 22 = .ok (.iastore, 1) := by decide +kernel
theorem dX12_laysSeats_23 : decode cX12_laysSeats 23 = .ok (.iinc 1 1, 3) := by decide +kernel
theorem dX12_laysSeats_26 : decode cX12_laysSeats 26 = .ok (.goto (-24), 3) := by decide +kernel
theorem dX12_laysSeats_29 : decode cX12_laysSeats 29 = .ok (.aload_n 0, 1) := by decide +kernel
theorem dX12_laysSeats_30 : decode cX12_laysSeats 30 = .ok (.invokevirtual 94, 3) := by decide +kernel
theorem dX12_laysSeats_33 : decode cX12_laysSeats 33 = .ok (.iconst 1, 1) := by decide +kernel
theorem dX12_laysSeats_34 : decode cX12_laysSeats 34 = .ok (.isub, 1) := by decide +kernel
theorem dX12_laysSeats_35 : decode cX12_laysSeats 35 = .ok (.istore_n 1, 1) := by decide +kernel
theorem dX12_laysSeats_36 : decode cX12_laysSeats 36 = .ok (.iload_n 1, 1) := by decide +kernel
theorem dX12_laysSeats_37 : decode cX12_laysSeats 37 = .ok (.ifCond .lt 68, 3) := by decide +kernel
theorem dX12_laysSeats_40 : decode cX12_laysSeats 40 = .ok (.iconst 0, 1) := by decide +kernel
theorem dX12_laysSeats_41 : decode cX12_laysSeats 41 = .ok (.istore_n 2, 1) := by decide +kernel
theorem dX12_laysSeats_42 : decode cX12_laysSeats 42 = .ok (.iload_n 2, 1) := by decide +kernel
theorem dX12_laysSeats_43 : decode cX12_laysSeats 43 = .ok (.sipush 256, 3) := by decide +kernel
theorem dX12_laysSeats_46 : decode cX12_laysSeats 46 = .ok (.if_icmp .ge 53, 3) := by decide +kernel
theorem dX12_laysSeats_49 : decode cX12_laysSeats 49 = .ok (.iconst 0, 1) := by decide +kernel
theorem dX12_laysSeats_50 : decode cX12_laysSeats 50 = .ok (.istore_n 3, 1) := by decide +kernel
theorem dX12_laysSeats_51 : decode cX12_laysSeats 51 = .ok (.iconst 0, 1) := by decide +kernel
theorem dX12_laysSeats_52 : decode cX12_laysSeats 52 = .ok (.istore 4, 2) := by decide +kernel
theorem dX12_laysSeats_54 : decode cX12_laysSeats 54 = .ok (.iload 4, 2) := by decide +kernel
theorem dX12_laysSeats_56 : decode cX12_laysSeats 56 = .ok (.aload_n 0, 1) := by decide +kernel
theorem dX12_laysSeats_57 : decode cX12_laysSeats 57 = .ok (.invokevirtual 101, 3) := by decide +kernel
theorem dX12_laysSeats_60 : decode cX12_laysSeats 60 = .ok (.if_icmp .gt 22, 3) := by decide +kernel
theorem dX12_laysSeats_63 : decode cX12_laysSeats 63 = .ok (.iload_n 3, 1) := by decide +kernel
theorem dX12_laysSeats_64 : decode cX12_laysSeats 64 = .ok (.aload_n 0, 1) := by decide +kernel
theorem dX12_laysSeats_65 : decode cX12_laysSeats 65 = .ok (.iload_n 1, 1) := by decide +kernel
theorem dX12_laysSeats_66 : decode cX12_laysSeats 66 = .ok (.iload_n 2, 1) := by decide +kernel
theorem dX12_laysSeats_67 : decode cX12_laysSeats 67 = .ok (.iload 4, 2) := by decide +kernel
theorem dX12_laysSeats_69 : decode cX12_laysSeats 69 = .ok (.invokevirtual 442, 3) := by decide +kernel
theorem dX12_laysSeats_72 : decode cX12_laysSeats 72 = .ok (.invokestatic 299, 3) := by decide +kernel
theorem dX12_laysSeats_75 : decode cX12_laysSeats 75 = .ok (.istore_n 3, 1) := by decide +kernel
theorem dX12_laysSeats_76 : decode cX12_laysSeats 76 = .ok (.iinc 4 1, 3) := by decide +kernel
theorem dX12_laysSeats_79 : decode cX12_laysSeats 79 = .ok (.goto (-25), 3) := by decide +kernel
theorem dX12_laysSeats_82 : decode cX12_laysSeats 82 = .ok (.aload_n 0, 1) := by decide +kernel
theorem dX12_laysSeats_83 : decode cX12_laysSeats 83 = .ok (.getfield 54, 3) := by decide +kernel
theorem dX12_laysSeats_86 : decode cX12_laysSeats 86 = .ok (.iload_n 1, 1) := by decide +kernel
theorem dX12_laysSeats_87 : decode cX12_laysSeats 87 = .ok (.iload_n 2, 1) := by decide +kernel
theorem dX12_laysSeats_88 : decode cX12_laysSeats 88 = .ok (.invokestatic 439, 3) := by decide +kernel
theorem dX12_laysSeats_91 : decode cX12_laysSeats 91 = .ok (.iload_n 3, 1) := by decide +kernel
theorem dX12_laysSeats_92 : decode cX12_laysSeats 92 = .ok (.iastore, 1) := by decide +kernel
theorem dX12_laysSeats_93 : decode cX12_laysSeats 93 = .ok (.iinc 2 1, 3) := by decide +kernel
theorem dX12_laysSeats_96 : decode cX12_laysSeats 96 = .ok (.goto (-54), 3) := by decide +kernel
theorem dX12_laysSeats_99 : decode cX12_laysSeats 99 = .ok (.iinc 1 (-1), 3) := by decide +kernel
theorem dX12_laysSeats_102 : decode cX12_laysSeats 102 = .ok (.goto (-66), 3) := by decide +kernel
theorem dX12_laysSeats_105 : decode cX12_laysSeats 105 = .ok (.aload_n 0, 1) := by decide +kernel
theorem dX12_laysSeats_106 : decode cX12_laysSeats 106 = .ok (.invokevirtual 445, 3) := by decide +kernel
theorem dX12_laysSeats_109 : decode cX12_laysSeats 109 = .ok (.istore_n 1, 1) := by decide +kernel
theorem dX12_laysSeats_110 : decode cX12_laysSeats 110 = .ok (.iconst 0, 1) := by decide +kernel
theorem dX12_laysSeats_111 : decode cX12_laysSeats 111 = .ok (.istore_n 2, 1) := by decide +kernel
theorem dX12_laysSeats_112 : decode cX12_laysSeats 112 = .ok (.iconst 0, 1) := by decide +kernel
theorem dX12_laysSeats_113 : decode cX12_laysSeats 113 = .ok (.istore_n 3, 1) := by decide +kernel
theorem dX12_laysSeats_114 : decode cX12_laysSeats 114 = .ok (.iload_n 3, 1) := by decide +kernel
theorem dX12_laysSeats_115 : decode cX12_laysSeats 115 = .ok (.aload_n 0, 1) := by decide +kernel
theorem dX12_laysSeats_116 : decode cX12_laysSeats 116 = .ok (.invokevirtual 94, 3) := by decide +kernel
theorem dX12_laysSeats_119 : decode cX12_laysSeats 119 = .ok (.if_icmp .ge 99, 3) := by decide +kernel
theorem dX12_laysSeats_122 : decode cX12_laysSeats 122 = .ok (.iconst 0, 1) := by decide +kernel
theorem dX12_laysSeats_123 : decode cX12_laysSeats 123 = .ok (.istore 4, 2) := by decide +kernel
theorem dX12_laysSeats_125 : decode cX12_laysSeats 125 = .ok (.aload_n 0, 1) := by decide +kernel
theorem dX12_laysSeats_126 : decode cX12_laysSeats 126 = .ok (.iload_n 3, 1) := by decide +kernel
theorem dX12_laysSeats_127 : decode cX12_laysSeats 127 = .ok (.iload_n 1, 1) := by decide +kernel
theorem dX12_laysSeats_128 : decode cX12_laysSeats 128 = .ok (.iload 4, 2) := by decide +kernel
theorem dX12_laysSeats_130 : decode cX12_laysSeats 130 = .ok (.invokevirtual 442, 3) := by decide +kernel
theorem dX12_laysSeats_133 : decode cX12_laysSeats 133 = .ok (.aload_n 0, 1) := by decide +kernel
theorem dX12_laysSeats_134 : decode cX12_laysSeats 134 = .ok (.getfield 54, 3) := by decide +kernel
theorem dX12_laysSeats_137 : decode cX12_laysSeats 137 = .ok (.iload_n 3, 1) := by decide +kernel
theorem dX12_laysSeats_138 : decode cX12_laysSeats 138 = .ok (.iload_n 1, 1) := by decide +kernel
theorem dX12_laysSeats_139 : decode cX12_laysSeats 139 = .ok (.invokestatic 439, 3) := by decide +kernel
theorem dX12_laysSeats_142 : decode cX12_laysSeats 142 = .ok (.iaload, 1) := by decide +kernel
theorem dX12_laysSeats_143 : decode cX12_laysSeats 143 = .ok (.if_icmp .eq 9, 3) := by decide +kernel
theorem dX12_laysSeats_146 : decode cX12_laysSeats 146 = .ok (.iinc 4 1, 3) := by decide +kernel
theorem dX12_laysSeats_149 : decode cX12_laysSeats 149 = .ok (.goto (-24), 3) := by decide +kernel
theorem dX12_laysSeats_152 : decode cX12_laysSeats 152 = .ok (.aload_n 0, 1) := by decide +kernel
theorem dX12_laysSeats_153 : decode cX12_laysSeats 153 = .ok (.getfield 57, 3) := by decide +kernel
theorem dX12_laysSeats_156 : decode cX12_laysSeats 156 = .ok (.iload_n 3, 1) := by decide +kernel
theorem dX12_laysSeats_157 : decode cX12_laysSeats 157 = .ok (.iload 4, 2) := by decide +kernel
theorem dX12_laysSeats_159 : decode cX12_laysSeats 159 = .ok (.aload_n 0, 1) := by decide +kernel
theorem dX12_laysSeats_160 : decode cX12_laysSeats 160 = .ok (.invokevirtual 101, 3) := by decide +kernel
theorem dX12_laysSeats_163 : decode cX12_laysSeats 163 = .ok (.if_icmp .ne 7, 3) := by decide +kernel
theorem dX12_laysSeats_166 : decode cX12_laysSeats 166 = .ok (.iconst (-1), 1) := by decide +kernel
theorem dX12_laysSeats_167 : decode cX12_laysSeats 167 = .ok (.goto 5, 3) := by decide +kernel
theorem dX12_laysSeats_170 : decode cX12_laysSeats 170 = .ok (.iload 4, 2) := by decide +kernel
theorem dX12_laysSeats_172 : decode cX12_laysSeats 172 = .ok (.iastore, 1) := by decide +kernel
theorem dX12_laysSeats_173 : decode cX12_laysSeats 173 = .ok (.iload_n 2, 1) := by decide +kernel
theorem dX12_laysSeats_174 : decode cX12_laysSeats 174 = .ok (.iload 4, 2) := by decide +kernel
theorem dX12_laysSeats_176 : decode cX12_laysSeats 176 = .ok (.aload_n 0, 1) := by decide +kernel
theorem dX12_laysSeats_177 : decode cX12_laysSeats 177 = .ok (.invokevirtual 101, 3) := by decide +kernel
theorem dX12_laysSeats_180 : decode cX12_laysSeats 180 = .ok (.if_icmp .ne 7, 3) := by decide +kernel
theorem dX12_laysSeats_183 : decode cX12_laysSeats 183 = .ok (.iconst 0, 1) := by decide +kernel
theorem dX12_laysSeats_184 : decode cX12_laysSeats 184 = .ok (.goto 4, 3) := by decide +kernel
theorem dX12_laysSeats_187 : decode cX12_laysSeats 187 = .ok (.iconst 1, 1) := by decide +kernel
theorem dX12_laysSeats_188 : decode cX12_laysSeats 188 = .ok (.iadd, 1) := by decide +kernel
theorem dX12_laysSeats_189 : decode cX12_laysSeats 189 = .ok (.istore_n 2, 1) := by decide +kernel
theorem dX12_laysSeats_190 : decode cX12_laysSeats 190 = .ok (.iload_n 1, 1) := by decide +kernel
theorem dX12_laysSeats_191 : decode cX12_laysSeats 191 = .ok (.iload 4, 2) := by decide +kernel
theorem dX12_laysSeats_193 : decode cX12_laysSeats 193 = .ok (.aload_n 0, 1) := by decide +kernel
theorem dX12_laysSeats_194 : decode cX12_laysSeats 194 = .ok (.invokevirtual 101, 3) := by decide +kernel
theorem dX12_laysSeats_197 : decode cX12_laysSeats 197 = .ok (.if_icmp .ne 7, 3) := by decide +kernel
theorem dX12_laysSeats_200 : decode cX12_laysSeats 200 = .ok (.iconst 0, 1) := by decide +kernel
theorem dX12_laysSeats_201 : decode cX12_laysSeats 201 = .ok (.goto 9, 3) := by decide +kernel
theorem dX12_laysSeats_204 : decode cX12_laysSeats 204 = .ok (.iconst 1, 1) := by decide +kernel
theorem dX12_laysSeats_205 : decode cX12_laysSeats 205 = .ok (.iconst 2, 1) := by decide +kernel
theorem dX12_laysSeats_206 : decode cX12_laysSeats 206 = .ok (.iload 4, 2) := by decide +kernel
theorem dX12_laysSeats_208 : decode cX12_laysSeats 208 = .ok (.imul, 1) := by decide +kernel
theorem dX12_laysSeats_209 : decode cX12_laysSeats 209 = .ok (.ishl, 1) := by decide +kernel
theorem dX12_laysSeats_210 : decode cX12_laysSeats 210 = .ok (.isub, 1) := by decide +kernel
theorem dX12_laysSeats_211 : decode cX12_laysSeats 211 = .ok (.istore_n 1, 1) := by decide +kernel
theorem dX12_laysSeats_212 : decode cX12_laysSeats 212 = .ok (.iinc 3 1, 3) := by decide +kernel
theorem dX12_laysSeats_215 : decode cX12_laysSeats 215 = .ok (.goto (-101), 3) := by decide +kernel
theorem dX12_laysSeats_218 : decode cX12_laysSeats 218 = .ok (.iload_n 2, 1) := by decide +kernel
theorem dX12_laysSeats_219 : decode cX12_laysSeats 219 = .ok (.ireturn, 1) := by decide +kernel
theorem dX12_seated_0 : decode cX12_seated 0 = .ok (.aload_n 0, 1) := by decide +kernel
theorem dX12_seated_1 : decode cX12_seated 1 = .ok (.iconst 0, 1) := by decide +kernel
theorem dX12_seated_2 : decode cX12_seated 2 = .ok (.putfield 3, 3) := by decide +kernel
theorem dX12_seated_5 : decode cX12_seated 5 = .ok (.aload_n 0, 1) := by decide +kernel
theorem dX12_seated_6 : decode cX12_seated 6 = .ok (.iload_n 1, 1) := by decide +kernel
theorem dX12_seated_7 : decode cX12_seated 7 = .ok (.iconst (-1), 1) := by decide +kernel
theorem dX12_seated_8 : decode cX12_seated 8 = .ok (.if_icmp .eq 15, 3) := by decide +kernel
theorem dX12_seated_11 : decode cX12_seated 11 = .ok (.aload_n 0, 1) := by decide +kernel
theorem dX12_seated_12 : decode cX12_seated 12 = .ok (.iload_n 1, 1) := by decide +kernel
theorem dX12_seated_13 : decode cX12_seated 13 = .ok (.invokevirtual 342, 3) := by decide +kernel
theorem dX12_seated_16 : decode cX12_seated 16 = .ok (.ifCond .eq 7, 3) := by decide +kernel
theorem dX12_seated_19 : decode cX12_seated 19 = .ok (.iconst 1, 1) := by decide +kernel
theorem dX12_seated_20 : decode cX12_seated 20 = .ok (.goto 4, 3) := by decide +kernel
theorem dX12_seated_23 : decode cX12_seated 23 = .ok (.iconst 0, 1) := by decide +kernel
theorem dX12_seated_24 : decode cX12_seated 24 = .ok (.iconst 1, 1) := by decide +kernel
theorem dX12_seated_25 : decode cX12_seated 25 = .ok (.invokevirtual 277, 3) := by decide +kernel
theorem dX12_seated_28 : decode cX12_seated 28 = .ok (.ifCond .eq 5, 3) := by decide +kernel
theorem dX12_seated_31 : decode cX12_seated 31 = .ok (.iconst 0, 1) := by decide +kernel
theorem dX12_seated_32 : decode cX12_seated 32 = .ok (.ireturn, 1) := by decide +kernel
theorem dX12_seated_33 : decode cX12_seated 33 = .ok (.aload_n 0, 1) := by decide +kernel
theorem dX12_seated_34 : decode cX12_seated 34 = .ok (.invokevirtual 448, 3) := by decide +kernel
theorem dX12_seated_37 : decode cX12_seated 37 = .ok (.istore_n 2, 1) := by decide +kernel
theorem dX12_seated_38 : decode cX12_seated 38 = .ok (.iload_n 1, 1) := by decide +kernel
theorem dX12_seated_39 : decode cX12_seated 39 = .ok (.iconst (-1), 1) := by decide +kernel
theorem dX12_seated_40 : decode cX12_seated 40 = .ok (.if_icmp .ne 7, 3) := by decide +kernel
theorem dX12_seated_43 : decode cX12_seated 43 = .ok (.iload_n 2, 1) := by decide +kernel
theorem dX12_seated_44 : decode cX12_seated 44 = .ok (.goto 9, 3) := by decide +kernel
theorem dX12_seated_47 : decode cX12_seated 47 = .ok (.aload_n 0, 1) := by decide +kernel
theorem dX12_seated_48 : decode cX12_seated 48 = .ok (.getfield 57, 3) := by decide +kernel
theorem dX12_seated_51 : decode cX12_seated 51 = .ok (.iload_n 1, 1) := by decide +kernel
theorem dX12_seated_52 : decode cX12_seated 52 = .ok (.iaload, 1) := by decide +kernel
theorem dX12_seated_53 : decode cX12_seated 53 = .ok (.ireturn, 1) := by decide +kernel
theorem dX12_wouldGain_0 : decode cX12_wouldGain 0 = .ok (.aload_n 0, 1) := by decide +kernel
theorem dX12_wouldGain_1 : decode cX12_wouldGain 1 = .ok (.aload_n 0, 1) := by decide +kernel
theorem dX12_wouldGain_2 : decode cX12_wouldGain 2 = .ok (.iload_n 1, 1) := by decide +kernel
theorem dX12_wouldGain_3 : decode cX12_wouldGain 3 = .ok (.iconst 0, 1) := by decide +kernel
theorem dX12_wouldGain_4 : decode cX12_wouldGain 4 = .ok (.invokevirtual 88, 3) := by decide +kernel
theorem dX12_wouldGain_7 : decode cX12_wouldGain 7 = .ok (.aload_n 0, 1) := by decide +kernel
theorem dX12_wouldGain_8 : decode cX12_wouldGain 8 = .ok (.aload_n 0, 1) := by decide +kernel
theorem dX12_wouldGain_9 : decode cX12_wouldGain 9 = .ok (.getfield 57, 3) := by decide +kernel
theorem dX12_wouldGain_12 : decode cX12_wouldGain 12 = .ok (.iload_n 2, 1) := by decide +kernel
theorem dX12_wouldGain_13 : decode cX12_wouldGain 13 = .ok (.iaload, 1) := by decide +kernel
theorem dX12_wouldGain_14 : decode cX12_wouldGain 14 = .ok (.iconst 0, 1) := by decide +kernel
theorem dX12_wouldGain_15 : decode cX12_wouldGain 15 = .ok (.invokevirtual 358, 3) := by decide +kernel
theorem dX12_wouldGain_18 : decode cX12_wouldGain 18 = .ok (.invokevirtual 91, 3) := by decide +kernel
theorem dX12_wouldGain_21 : decode cX12_wouldGain 21 = .ok (.aload_n 0, 1) := by decide +kernel
theorem dX12_wouldGain_22 : decode cX12_wouldGain 22 = .ok (.aload_n 0, 1) := by decide +kernel
theorem dX12_wouldGain_23 : decode cX12_wouldGain 23 = .ok (.iload_n 1, 1) := by decide +kernel
theorem dX12_wouldGain_24 : decode cX12_wouldGain 24 = .ok (.iconst 0, 1) := by decide +kernel
theorem dX12_wouldGain_25 : decode cX12_wouldGain 25 = .ok (.invokevirtual 88, 3) := by decide +kernel
theorem dX12_wouldGain_28 : decode cX12_wouldGain 28 = .ok (.aload_n 0, 1) := by decide +kernel
theorem dX12_wouldGain_29 : decode cX12_wouldGain 29 = .ok (.aload_n 0, 1) := by decide +kernel
theorem dX12_wouldGain_30 : decode cX12_wouldGain 30 = .ok (.getfield 57, 3) := by decide +kernel
theorem dX12_wouldGain_33 : decode cX12_wouldGain 33 = .ok (.iload_n 1, 1) := by decide +kernel
theorem dX12_wouldGain_34 : decode cX12_wouldGain 34 = .ok (.iaload, 1) := by decide +kernel
theorem dX12_wouldGain_35 : decode cX12_wouldGain 35 = .ok (.iconst 0, 1) := by decide +kernel
theorem dX12_wouldGain_36 : decode cX12_wouldGain 36 = .ok (.invokevirtual 358, 3) := by decide +kernel
theorem dX12_wouldGain_39 : decode cX12_wouldGain 39 = .ok (.invokevirtual 91, 3) := by decide +kernel
theorem dX12_wouldGain_42 : decode cX12_wouldGain 42 = .ok (.if_icmp .ge 7, 3) := by decide +kernel
theorem dX12_wouldGain_45 : decode cX12_wouldGain 45 = .ok (.iconst 1, 1) := by decide +kernel
theorem dX12_wouldGain_46 : decode cX12_wouldGain 46 = .ok (.goto 4, 3) := by decide +kernel
theorem dX12_wouldGain_49 : decode cX12_wouldGain 49 = .ok (.iconst 0, 1) := by decide +kernel
theorem dX12_wouldGain_50 : decode cX12_wouldGain 50 = .ok (.ireturn, 1) := by decide +kernel
theorem dX12_swaps_0 : decode cX12_swaps 0 = .ok (.aload_n 0, 1) := by decide +kernel
theorem dX12_swaps_1 : decode cX12_swaps 1 = .ok (.iconst 0, 1) := by decide +kernel
theorem dX12_swaps_2 : decode cX12_swaps 2 = .ok (.putfield 3, 3) := by decide +kernel
theorem dX12_swaps_5 : decode cX12_swaps 5 = .ok (.aload_n 0, 1) := by decide +kernel
theorem dX12_swaps_6 : decode cX12_swaps 6 = .ok (.invokevirtual 448, 3) := by decide +kernel
theorem dX12_swaps_9 : decode cX12_swaps 9 = .ok (.pop, 1) := by decide +kernel
theorem dX12_swaps_10 : decode cX12_swaps 10 = .ok (.iconst 0, 1) := by decide +kernel
theorem dX12_swaps_11 : decode cX12_swaps 11 = .ok (.istore_n 1, 1) := by decide +kernel
theorem dX12_swaps_12 : decode cX12_swaps 12 = .ok (.iconst 0, 1) := by decide +kernel
theorem dX12_swaps_13 : decode cX12_swaps 13 = .ok (.istore_n 2, 1) := by decide +kernel
theorem dX12_swaps_14 : decode cX12_swaps 14 = .ok (.iload_n 2, 1) := by decide +kernel
theorem dX12_swaps_15 : decode cX12_swaps 15 = .ok (.aload_n 0, 1) := by decide +kernel
theorem dX12_swaps_16 : decode cX12_swaps 16 = .ok (.invokevirtual 94, 3) := by decide +kernel
theorem dX12_swaps_19 : decode cX12_swaps 19 = .ok (.if_icmp .ge 68, 3) := by decide +kernel
theorem dX12_swaps_22 : decode cX12_swaps 22 = .ok (.iconst 0, 1) := by decide +kernel
theorem dX12_swaps_23 : decode cX12_swaps 23 = .ok (.istore_n 3, 1) := by decide +kernel
theorem dX12_swaps_24 : decode cX12_swaps 24 = .ok (.iload_n 3, 1) := by decide +kernel
theorem dX12_swaps_25 : decode cX12_swaps 25 = .ok (.iload_n 2, 1) := by decide +kernel
theorem dX12_swaps_26 : decode cX12_swaps 26 = .ok (.if_icmp .ge 55, 3) := by decide +kernel
theorem dX12_swaps_29 : decode cX12_swaps 29 = .ok (.iload_n 1, 1) := by decide +kernel
theorem dX12_swaps_30 : decode cX12_swaps 30 = .ok (.aload_n 0, 1) := by decide +kernel
theorem dX12_swaps_31 : decode cX12_swaps 31 = .ok (.getfield 57, 3) := by decide +kernel
theorem dX12_swaps_34 : decode cX12_swaps 34 = .ok (.iload_n 2, 1) := by decide +kernel
theorem dX12_swaps_35 : decode cX12_swaps 35 = .ok (.iaload, 1) := by decide +kernel
theorem dX12_swaps_36 : decode cX12_swaps 36 = .ok (.iconst (-1), 1) := by decide +kernel
theorem dX12_swaps_37 : decode cX12_swaps 37 = .ok (.if_icmp .eq 35, 3) := by decide +kernel
theorem dX12_swaps_40 : decode cX12_swaps 40 = .ok (.aload_n 0, 1) := by decide +kernel
theorem dX12_swaps_41 : decode cX12_swaps 41 = .ok (.getfield 57, 3) := by decide +kernel
theorem dX12_swaps_44 : decode cX12_swaps 44 = .ok (.iload_n 3, 1) := by decide +kernel
theorem dX12_swaps_45 : decode cX12_swaps 45 = .ok (.iaload, 1) := by decide +kernel
theorem dX12_swaps_46 : decode cX12_swaps 46 = .ok (.iconst (-1), 1) := by decide +kernel
theorem dX12_swaps_47 : decode cX12_swaps 47 = .ok (.if_icmp .eq 25, 3) := by decide +kernel
theorem dX12_swaps_50 : decode cX12_swaps 50 = .ok (.aload_n 0, 1) := by decide +kernel
theorem dX12_swaps_51 : decode cX12_swaps 51 = .ok (.iload_n 2, 1) := by decide +kernel
theorem dX12_swaps_52 : decode cX12_swaps 52 = .ok (.iload_n 3, 1) := by decide +kernel
theorem dX12_swaps_53 : decode cX12_swaps 53 = .ok (.invokevirtual 451, 3) := by decide +kernel
theorem dX12_swaps_56 : decode cX12_swaps 56 = .ok (.ifCond .eq 16, 3) := by decide +kernel
theorem dX12_swaps_59 : decode cX12_swaps 59 = .ok (.aload_n 0, 1) := by decide +kernel
theorem dX12_swaps_60 : decode cX12_swaps 60 = .ok (.iload_n 3, 1) := by decide +kernel
theorem dX12_swaps_61 : decode cX12_swaps 61 = .ok (.iload_n 2, 1) := by decide +kernel
theorem dX12_swaps_62 : decode cX12_swaps 62 = .ok (.invokevirtual 451, 3) := by decide +kernel
theorem dX12_swaps_65 : decode cX12_swaps 65 = .ok (.ifCond .eq 7, 3) := by decide +kernel
theorem dX12_swaps_68 : decode cX12_swaps 68 = .ok (.iconst 1, 1) := by decide +kernel
theorem dX12_swaps_69 : decode cX12_swaps 69 = .ok (.goto 4, 3) := by decide +kernel
theorem dX12_swaps_72 : decode cX12_swaps 72 = .ok (.iconst 0, 1) := by decide +kernel
theorem dX12_swaps_73 : decode cX12_swaps 73 = .ok (.iadd, 1) := by decide +kernel
theorem dX12_swaps_74 : decode cX12_swaps 74 = .ok (.istore_n 1, 1) := by decide +kernel
theorem dX12_swaps_75 : decode cX12_swaps 75 = .ok (.iinc 3 1, 3) := by decide +kernel
theorem dX12_swaps_78 : decode cX12_swaps 78 = .ok (.goto (-54), 3) := by decide +kernel
theorem dX12_swaps_81 : decode cX12_swaps 81 = .ok (.iinc 2 1, 3) := by decide +kernel
theorem dX12_swaps_84 : decode cX12_swaps 84 = .ok (.goto (-70), 3) := by decide +kernel
theorem dX12_swaps_87 : decode cX12_swaps 87 = .ok (.iload_n 1, 1) := by decide +kernel
theorem dX12_swaps_88 : decode cX12_swaps 88 = .ok (.ireturn, 1) := by decide +kernel
theorem dX12_chasedAt_0 : decode cX12_chasedAt 0 = .ok (.iload_n 2, 1) := by decide +kernel
theorem dX12_chasedAt_1 : decode cX12_chasedAt 1 = .ok (.iconst 2, 1) := by decide +kernel
theorem dX12_chasedAt_2 : decode cX12_chasedAt 2 = .ok (.imul, 1) := by decide +kernel
theorem dX12_chasedAt_3 : decode cX12_chasedAt 3 = .ok (.iload_n 1, 1) := by decide +kernel
theorem dX12_chasedAt_4 : decode cX12_chasedAt 4 = .ok (.iadd, 1) := by decide +kernel
theorem dX12_chasedAt_5 : decode cX12_chasedAt 5 = .ok (.bipush 64, 2) := by decide +kernel
theorem dX12_chasedAt_7 : decode cX12_chasedAt 7 = .ok (.imul, 1) := by decide +kernel
theorem dX12_chasedAt_8 : decode cX12_chasedAt 8 = .ok (.iload_n 0, 1) := by decide +kernel
theorem dX12_chasedAt_9 : decode cX12_chasedAt 9 = .ok (.iadd, 1) := by decide +kernel
theorem dX12_chasedAt_10 : decode cX12_chasedAt 10 = .ok (.ireturn, 1) := by decide +kernel
theorem dX12_oneTurn_0 : decode cX12_oneTurn 0 = .ok (.iload_n 1, 1) := by decide +kernel
theorem dX12_oneTurn_1 : decode cX12_oneTurn 1 = .ok (.iload_n 2, 1) := by decide +kernel
theorem dX12_oneTurn_2 : decode cX12_oneTurn 2 = .ok (.isub, 1) := by decide +kernel
theorem dX12_oneTurn_3 : decode cX12_oneTurn 3 = .ok (.ifCond .gt 7, 3) := by decide +kernel
theorem dX12_oneTurn_6 : decode cX12_oneTurn 6 = .ok (.iconst 1, 1) := by decide +kernel
theorem dX12_oneTurn_7 : decode cX12_oneTurn 7 = .ok (.goto 43, 3) := by decide +kernel
theorem dX12_oneTurn_10 : decode cX12_oneTurn 10 = .ok (.iconst 1, 1) := by decide +kernel
theorem dX12_oneTurn_11 : decode cX12_oneTurn 11 = .ok (.iload_n 1, 1) := by decide +kernel
theorem dX12_oneTurn_12 : decode cX12_oneTurn 12 = .ok (.iload_n 2, 1) := by decide +kernel
theorem dX12_oneTurn_13 : decode cX12_oneTurn 13 = .ok (.isub, 1) := by decide +kernel
theorem dX12_oneTurn_14 : decode cX12_oneTurn 14 = .ok (.bipush 64, 2) := by decide +kernel
theorem dX12_oneTurn_16 : decode cX12_oneTurn 16 = .ok (.if_icmp .lt 9, 3) := by decide +kernel
theorem dX12_oneTurn_19 : decode cX12_oneTurn 19 = .ok (.ldc_w 357, 3) := by decide +kernel
theorem dX12_oneTurn_22 : decode cX12_oneTurn 22 = .ok (.goto 27, 3) := by decide +kernel
theorem dX12_oneTurn_25 : decode cX12_oneTurn 25 = .ok (.aload_n 0, 1) := by decide +kernel
theorem dX12_oneTurn_26 : decode cX12_oneTurn 26 = .ok (.getfield 60, 3) := by decide +kernel
theorem dX12_oneTurn_29 : decode cX12_oneTurn 29 = .ok (.iload_n 1, 1) := by decide +kernel
theorem dX12_oneTurn_30 : decode cX12_oneTurn 30 = .ok (.iload_n 2, 1) := by decide +kernel
theorem dX12_oneTurn_31 : decode cX12_oneTurn 31 = .ok (.isub, 1) := by decide +kernel
theorem dX12_oneTurn_32 : decode cX12_oneTurn 32 = .ok (.iload_n 2, 1) := by decide +kernel
theorem dX12_oneTurn_33 : decode cX12_oneTurn 33 = .ok (.iconst 4, 1) := by decide +kernel
theorem dX12_oneTurn_34 : decode cX12_oneTurn 34 = .ok (.if_icmp .ne 7, 3) := by decide +kernel
theorem dX12_oneTurn_37 : decode cX12_oneTurn 37 = .ok (.iconst 1, 1) := by decide +kernel
theorem dX12_oneTurn_38 : decode cX12_oneTurn 38 = .ok (.goto 4, 3) := by decide +kernel
theorem dX12_oneTurn_41 : decode cX12_oneTurn 41 = .ok (.iconst 0, 1) := by decide +kernel
theorem dX12_oneTurn_42 : decode cX12_oneTurn 42 = .ok (.iload_n 3, 1) := by decide +kernel
theorem dX12_oneTurn_43 : decode cX12_oneTurn 43 = .ok (.iconst 1, 1) := by decide +kernel
theorem dX12_oneTurn_44 : decode cX12_oneTurn 44 = .ok (.isub, 1) := by decide +kernel
theorem dX12_oneTurn_45 : decode cX12_oneTurn 45 = .ok (.invokestatic 454, 3) := by decide +kernel
theorem dX12_oneTurn_48 : decode cX12_oneTurn 48 = .ok (.iaload, 1) := by decide +kernel
theorem dX12_oneTurn_49 : decode cX12_oneTurn 49 = .ok (.iadd, 1) := by decide +kernel
theorem dX12_oneTurn_50 : decode cX12_oneTurn 50 = .ok (.ireturn, 1) := by decide +kernel
theorem dX12_turnsOf_0 : decode cX12_turnsOf 0 = .ok (.iconst 0, 1) := by decide +kernel
theorem dX12_turnsOf_1 : decode cX12_turnsOf 1 = .ok (.istore 4, 2) := by decide +kernel
theorem dX12_turnsOf_3 : decode cX12_turnsOf 3 = .ok (.iconst 1, 1) := by decide +kernel
theorem dX12_turnsOf_4 : decode cX12_turnsOf 4 = .ok (.istore 5, 2) := by decide +kernel
theorem dX12_turnsOf_6 : decode cX12_turnsOf 6 = .ok (.iload 5, 2) := by decide +kernel
theorem dX12_turnsOf_8 : decode cX12_turnsOf 8 = .ok (.iconst 3, 1) := by decide +kernel
theorem dX12_turnsOf_9 : decode cX12_turnsOf 9 = .ok (.if_icmp .gt 51, 3) := by decide +kernel
theorem dX12_turnsOf_12 : decode cX12_turnsOf 12 = .ok (.aload_n 0, 1) := by decide +kernel
theorem dX12_turnsOf_13 : decode cX12_turnsOf 13 = .ok (.iload_n 1, 1) := by decide +kernel
theorem dX12_turnsOf_14 : decode cX12_turnsOf 14 = .ok (.iload 5, 2) := by decide +kernel
theorem dX12_turnsOf_16 : decode cX12_turnsOf 16 = .ok (.iadd, 1) := by decide +kernel
theorem dX12_turnsOf_17 : decode cX12_turnsOf 17 = .ok (.iconst 2, 1) := by decide +kernel
theorem dX12_turnsOf_18 : decode cX12_turnsOf 18 = .ok (.iload_n 3, 1) := by decide +kernel
theorem dX12_turnsOf_19 : decode cX12_turnsOf 19 = .ok (.invokevirtual 457, 3) := by decide +kernel
theorem dX12_turnsOf_22 : decode cX12_turnsOf 22 = .ok (.istore 6, 2) := by decide +kernel
theorem dX12_turnsOf_24 : decode cX12_turnsOf 24 = .ok (.iload_n 2, 1) := by decide +kernel
theorem dX12_turnsOf_25 : decode cX12_turnsOf 25 = .ok (.ifCond .ne 20, 3) := by decide +kernel
theorem dX12_turnsOf_28 : decode cX12_turnsOf 28 = .ok (.iload 6, 2) := by decide +kernel
theorem dX12_turnsOf_30 : decode cX12_turnsOf 30 = .ok (.aload_n 0, 1) := by decide +kernel
theorem dX12_turnsOf_31 : decode cX12_turnsOf 31 = .ok (.iload_n 1, 1) := by decide +kernel
theorem dX12_turnsOf_32 : decode cX12_turnsOf 32 = .ok (.iload 5, 2) := by decide +kernel
theorem dX12_turnsOf_34 : decode cX12_turnsOf 34 = .ok (.iadd, 1) := by decide +kernel
theorem dX12_turnsOf_35 : decode cX12_turnsOf 35 = .ok (.iconst 4, 1) := by decide +kernel
theorem dX12_turnsOf_36 : decode cX12_turnsOf 36 = .ok (.iload_n 3, 1) := by decide +kernel
theorem dX12_turnsOf_37 : decode cX12_turnsOf 37 = .ok (.invokevirtual 457, 3) := by decide +kernel
theorem dX12_turnsOf_40 : decode cX12_turnsOf 40 = .ok (.invokestatic 146, 3) := by decide +kernel
theorem dX12_turnsOf_43 : decode cX12_turnsOf 43 = .ok (.istore 6, 2) := by decide +kernel
theorem dX12_turnsOf_45 : decode cX12_turnsOf 45 = .ok (.iload 4, 2) := by decide +kernel
theorem dX12_turnsOf_47 : decode cX12_turnsOf 47 = .ok (.iload 6, 2) := by decide +kernel
theorem dX12_turnsOf_49 : decode cX12_turnsOf 49 = .ok (.invokestatic 299, 3) := by decide +kernel
theorem dX12_turnsOf_52 : decode cX12_turnsOf 52 = .ok (.istore 4, 2) := by decide +kernel
theorem dX12_turnsOf_54 : decode cX12_turnsOf 54 = .ok (.iinc 5 2, 3) := by decide +kernel
theorem dX12_turnsOf_57 : decode cX12_turnsOf 57 = .ok (.goto (-51), 3) := by decide +kernel
theorem dX12_turnsOf_60 : decode cX12_turnsOf 60 = .ok (.ldc_w 357, 3) := by decide +kernel
theorem dX12_turnsOf_63 : decode cX12_turnsOf 63 = .ok (.iload 4, 2) := by decide +kernel
theorem dX12_turnsOf_65 : decode cX12_turnsOf 65 = .ok (.invokestatic 146, 3) := by decide +kernel
theorem dX12_turnsOf_68 : decode cX12_turnsOf 68 = .ok (.ireturn, 1) := by decide +kernel
theorem dX12_chase_0 : decode cX12_chase 0 = .ok (.aload_n 0, 1) := by decide +kernel
theorem dX12_chase_1 : decode cX12_chase 1 = .ok (.iconst 0, 1) := by decide +kernel
theorem dX12_chase_2 : decode cX12_chase 2 = .ok (.putfield 3, 3) := by decide +kernel
theorem dX12_chase_5 : decode cX12_chase 5 = .ok (.aload_n 0, 1) := by decide +kernel
theorem dX12_chase_6 : decode cX12_chase 6 = .ok (.iload_n 1, 1) := by decide +kernel
theorem dX12_chase_7 : decode cX12_chase 7 = .ok (.iconst 1, 1) := by decide +kernel
theorem dX12_chase_8 : decode cX12_chase 8 = .ok (.bipush 40, 2) := by decide +kernel
theorem dX12_chase_10 : decode cX12_chase 10 = .ok (.invokestatic 97, 3) := by decide +kernel
theorem dX12_chase_13 : decode cX12_chase 13 = .ok (.ifCond .eq 13, 3) := by decide +kernel
theorem dX12_chase_16 : decode cX12_chase 16 = .ok (.iload_n 2, 1) := by decide +kernel
theorem dX12_chase_17 : decode cX12_chase 17 = .ok (.iconst 0, 1) := by decide +kernel
theorem dX12_chase_18 : decode cX12_chase 18 = .ok (.bipush 20, 2) := by decide +kernel
theorem dX12_chase_20 : decode cX12_chase 20 = .ok (.invokestatic 97, 3) := by decide +kernel
theorem dX12_chase_23 : decode cX12_chase 23 = .ok (.ifCond .ne 7, 3) := by decide +kernel
theorem dX12_chase_26 : decode cX12_chase 26 = .ok (.iconst 1, 1) := by decide +kernel
theorem dX12_chase_27 : decode cX12_chase 27 = .ok (.goto 4, 3) := by decide +kernel
theorem dX12_chase_30 : decode cX12_chase 30 = .ok (.iconst 0, 1) := by decide +kernel
theorem dX12_chase_31 : decode cX12_chase 31 = .ok (.iconst 1, 1) := by decide +kernel
theorem dX12_chase_32 : decode cX12_chase 32 = .ok (.invokevirtual 277, 3) := by decide +kernel
theorem dX12_chase_35 : decode cX12_chase 35 = .ok (.ifCond .eq 5, 3) := by decide +kernel
theorem dX12_chase_38 : decode cX12_chase 38 = .ok (.iconst 0, 1) := by decide +kernel
theorem dX12_chase_39 : decode cX12_chase 39 = .ok (.ireturn, 1) := by decide +kernel
theorem dX12_chase_40 : decode cX12_chase 40 = .ok (.iconst 0, 1) := by decide +kernel
theorem dX12_chase_41 : decode cX12_chase 41 = .ok (.istore_n 3, 1) := by decide +kernel
theorem dX12_chase_42 : decode cX12_chase 42 = .ok (.iload_n 3, 1) := by decide +kernel
theorem dX12_chase_43 : decode cX12_chase 43 = .ok (.iload_n 2, 1) := by decide +kernel
theorem dX12_chase_44 : decode cX12_chase 44 = .ok (.if_icmp .gt 72, 3) := by decide +kernel
theorem dX12_chase_47 : decode cX12_chase 47 = .ok (.iconst 0, 1) := by decide +kernel
theorem dX12_chase_48 : decode cX12_chase 48 = .ok (.istore 4, 2) := by decide +kernel
theorem dX12_chase_50 : decode cX12_chase 50 = .ok (.iload 4, 2) := by decide +kernel
theorem dX12_chase_52 : decode cX12_chase 52 = .ok (.iconst 2, 1) := by decide +kernel
theorem dX12_chase_53 : decode cX12_chase 53 = .ok (.if_icmp .ge 57, 3) := by decide +kernel
theorem dX12_chase_56 : decode cX12_chase 56 = .ok (.iconst 0, 1) := by decide +kernel
theorem dX12_chase_57 : decode cX12_chase 57 = .ok (.istore 5, 2) := by decide +kernel
theorem dX12_chase_59 : decode cX12_chase 59 = .ok (.iload 5, 2) := by decide +kernel
theorem dX12_chase_61 : decode cX12_chase 61 = .ok (.bipush 64, 2) := by decide +kernel
theorem dX12_chase_63 : decode cX12_chase 63 = .ok (.if_icmp .ge 41, 3) := by decide +kernel
theorem dX12_chase_66 : decode cX12_chase 66 = .ok (.aload_n 0, 1) := by decide +kernel
theorem dX12_chase_67 : decode cX12_chase 67 = .ok (.getfield 60, 3) := by decide +kernel
theorem dX12_chase_70 : decode cX12_chase 70 = .ok (.iload 5, 2) := by decide +kernel
theorem dX12_chase_72 : decode cX12_chase 72 = .ok (.iload 4, 2) := by decide +kernel
theorem dX12_chase_74 : decode cX12_chase 74 = .ok (.iload_n 3, 1) := by decide +kernel
theorem dX12_chase_75 : decode cX12_chase 75 = .ok (.invokestatic 454, 3) := by decide +kernel
theorem dX12_chase_78 : decode cX12_chase 78 = .ok (.iload_n 3, 1) := by decide +kernel
theorem dX12_chase_79 : decode cX12_chase 79 = .ok (.ifCond .ne 9, 3) := by decide +kernel
theorem dX12_chase_82 : decode cX12_chase 82 = .ok (.ldc_w 357, 3) := by decide +kernel
theorem dX12_chase_85 : decode cX12_chase 85 = .ok (.goto 12, 3) := by decide +kernel
theorem dX12_chase_88 : decode cX12_chase 88 = .ok (.aload_n 0, 1) := by decide +kernel
theorem dX12_chase_89 : decode cX12_chase 89 = .ok (.iload 5, 2) := by decide +kernel
theorem dX12_chase_91 : decode cX12_chase 91 = .ok (.iload 4, 2) := by decide +kernel
theorem dX12_chase_93 : decode cX12_chase 93 = .ok (.iload_n 3, 1) := by decide +kernel
theorem dX12_chase_94 : decode cX12_chase 94 = .ok (.invokevirtual 460, 3) := by decide +kernel
theorem dX12_chase_97 : decode cX12_chase 97 = .ok (.iastore, 1) := by decide +kernel
theorem dX12_chase_98 : decode cX12_chase 98 = .ok (.iinc 5 1, 3) := by decide +kernel
theorem dX12_chase_101 : decode cX12_chase 101 = .ok (.goto (-42), 3) := by decide +kernel
theorem dX12_chase_104 : decode cX12_chase 104 = .ok (.iinc 4 1, 3) := by decide +kernel
theorem dX12_chase_107 : decode cX12_chase 107 = .ok (.goto (-57), 3) := by decide +kernel
theorem dX12_chase_110 : decode cX12_chase 110 = .ok (.iinc 3 1, 3) := by decide +kernel
theorem dX12_chase_113 : decode cX12_chase 113 = .ok (.goto (-71), 3) := by decide +kernel
theorem dX12_chase_116 : decode cX12_chase 116 = .ok (.aload_n 0, 1) := by decide +kernel
theorem dX12_chase_117 : decode cX12_chase 117 = .ok (.getfield 60, 3) := by decide +kernel
theorem dX12_chase_120 : decode cX12_chase 120 = .ok (.iload_n 1, 1) := by decide +kernel
theorem dX12_chase_121 : decode cX12_chase 121 = .ok (.iconst 0, 1) := by decide +kernel
theorem dX12_chase_122 : decode cX12_chase 122 = .ok (.iload_n 2, 1) := by decide +kernel
theorem dX12_chase_123 : decode cX12_chase 123 = .ok (.invokestatic 454, 3) := by decide +kernel
theorem dX12_chase_126 : decode cX12_chase 126 = .ok (.iaload, 1) := by decide +kernel
theorem dX12_chase_127 : decode cX12_chase 127 = .ok (.istore_n 3, 1) := by decide +kernel
theorem dX12_chase_128 : decode cX12_chase 128 = .ok (.iload_n 3, 1) := by decide +kernel
theorem dX12_chase_129 : decode cX12_chase 129 = .ok (.iload_n 2, 1) := by decide +kernel
theorem dX12_chase_130 : decode cX12_chase 130 = .ok (.if_icmp .le 7, 3) := by decide +kernel
theorem dX12_chase_133 : decode cX12_chase 133 = .ok (.iconst (-1), 1) := by decide +kernel
theorem dX12_chase_134 : decode cX12_chase 134 = .ok (.goto 4, 3) := by decide +kernel
theorem dX12_chase_137 : decode cX12_chase 137 = .ok (.iload_n 3, 1) := by decide +kernel
theorem dX12_chase_138 : decode cX12_chase 138 = .ok (.ireturn, 1) := by decide +kernel
theorem dX12_firstOf_0 : decode cX12_firstOf 0 = .ok (.iload_n 0, 1) := by decide +kernel
theorem dX12_firstOf_1 : decode cX12_firstOf 1 = .ok (.invokestatic 463, 3) := by decide +kernel
theorem dX12_firstOf_4 : decode cX12_firstOf 4 = .ok (.ireturn, 1) := by decide +kernel
theorem dX12_canPair_0 : decode cX12_canPair 0 = .ok (.aload_n 0, 1) := by decide +kernel
theorem dX12_canPair_1 : decode cX12_canPair 1 = .ok (.iload_n 1, 1) := by decide +kernel
theorem dX12_canPair_2 : decode cX12_canPair 2 = .ok (.iconst 2, 1) := by decide +kernel
theorem dX12_canPair_3 : decode cX12_canPair 3 = .ok (.invokevirtual 88, 3) := by decide +kernel
theorem dX12_canPair_6 : decode cX12_canPair 6 = .ok (.iload_n 2, 1) := by decide +kernel
theorem dX12_canPair_7 : decode cX12_canPair 7 = .ok (.invokestatic 305, 3) := by decide +kernel
theorem dX12_canPair_10 : decode cX12_canPair 10 = .ok (.ifCond .ne 20, 3) := by decide +kernel
theorem dX12_canPair_13 : decode cX12_canPair 13 = .ok (.aload_n 0, 1) := by decide +kernel
theorem dX12_canPair_14 : decode cX12_canPair 14 = .ok (.iload_n 2, 1) := by decide +kernel
theorem dX12_canPair_15 : decode cX12_canPair 15 = .ok (.iconst 2, 1) := by decide +kernel
theorem dX12_canPair_16 : decode cX12_canPair 16 = .ok (.invokevirtual 88, 3) := by decide +kernel
theorem dX12_canPair_19 : decode cX12_canPair 19 = .ok (.iload_n 1, 1) := by decide +kernel
theorem dX12_canPair_20 : decode cX12_canPair 20 = .ok (.invokestatic 305, 3) := by decide +kernel
theorem dX12_canPair_23 : decode cX12_canPair 23 = .ok (.ifCond .ne 7, 3) := by decide +kernel
theorem dX12_canPair_26 : decode cX12_canPair 26 = .ok (.iconst 1, 1) := by decide +kernel
theorem dX12_canPair_27 : decode cX12_canPair 27 = .ok (.goto 4, 3) := by decide +kernel
theorem dX12_canPair_30 : decode cX12_canPair 30 = .ok (.iconst 0, 1) := by decide +kernel
theorem dX12_canPair_31 : decode cX12_canPair 31 = .ok (.ireturn, 1) := by decide +kernel
theorem dX12_pairedBy_0 : decode cX12_pairedBy 0 = .ok (.iload_n 1, 1) := by decide +kernel
theorem dX12_pairedBy_1 : decode cX12_pairedBy 1 = .ok (.invokestatic 466, 3) := by decide +kernel
theorem dX12_pairedBy_4 : decode cX12_pairedBy 4 = .ok (.istore_n 3, 1) := by decide +kernel
theorem dX12_pairedBy_5 : decode cX12_pairedBy 5 = .ok (.iload_n 1, 1) := by decide +kernel
theorem dX12_pairedBy_6 : decode cX12_pairedBy 6 = .ok (.iconst 1, 1) := by decide +kernel
theorem dX12_pairedBy_7 : decode cX12_pairedBy 7 = .ok (.iload_n 3, 1) := by decide +kernel
theorem dX12_pairedBy_8 : decode cX12_pairedBy 8 = .ok (.ishl, 1) := by decide +kernel
theorem dX12_pairedBy_9 : decode cX12_pairedBy 9 = .ok (.iconst (-1), 1) := by decide +kernel
theorem dX12_pairedBy_10 : decode cX12_pairedBy 10 = .ok (.ixor, 1) := by decide +kernel
theorem dX12_pairedBy_11 : decode cX12_pairedBy 11 = .ok (.iand, 1) := by decide +kernel
theorem dX12_pairedBy_12 : decode cX12_pairedBy 12 = .ok (.istore 4, 2) := by decide +kernel
theorem dX12_pairedBy_14 : decode cX12_pairedBy 14 = .ok (.iload_n 2, 1) := by decide +kernel
theorem dX12_pairedBy_15 : decode cX12_pairedBy 15 = .ok (.aload_n 0, 1) := by decide +kernel
theorem dX12_pairedBy_16 : decode cX12_pairedBy 16 = .ok (.invokevirtual 94, 3) := by decide +kernel
theorem dX12_pairedBy_19 : decode cX12_pairedBy 19 = .ok (.if_icmp .ne 11, 3) := by decide +kernel
theorem dX12_pairedBy_22 : decode cX12_pairedBy 22 = .ok (.aload_n 0, 1) := by decide +kernel
theorem dX12_pairedBy_23 : decode cX12_pairedBy 23 = .ok (.getfield 63, 3) := by decide +kernel
theorem dX12_pairedBy_26 : decode cX12_pairedBy 26 = .ok (.iload 4, 2) := by decide +kernel
theorem dX12_pairedBy_28 : decode cX12_pairedBy 28 = .ok (.iaload, 1) := by decide +kernel
theorem dX12_pairedBy_29 : decode cX12_pairedBy 29 = .ok (.ireturn, 1) := by decide +kernel
theorem dX12_pairedBy_30 : decode cX12_pairedBy 30 = .ok (.iload 4, 2) := by decide +kernel
theorem dX12_pairedBy_32 : decode cX12_pairedBy 32 = .ok (.iload_n 2, 1) := by decide +kernel
theorem dX12_pairedBy_33 : decode cX12_pairedBy 33 = .ok (.invokestatic 305, 3) := by decide +kernel
theorem dX12_pairedBy_36 : decode cX12_pairedBy 36 = .ok (.ifCond .eq 48, 3) := by decide +kernel
theorem dX12_pairedBy_39 : decode cX12_pairedBy 39 = .ok (.aload_n 0, 1) := by decide +kernel
theorem dX12_pairedBy_40 : decode cX12_pairedBy 40 = .ok (.iload_n 3, 1) := by decide +kernel
theorem dX12_pairedBy_41 : decode cX12_pairedBy 41 = .ok (.iload_n 2, 1) := by decide +kernel
theorem dX12_pairedBy_42 : decode cX12_pairedBy 42 = .ok (.invokevirtual 469, 3) := by decide +kernel
theorem dX12_pairedBy_45 : decode cX12_pairedBy 45 = .ok (.ifCond .eq 39, 3) := by decide +kernel
theorem dX12_pairedBy_48 : decode cX12_pairedBy 48 = .ok (.sipush 1000, 3) := by decide +kernel
theorem dX12_pairedBy_51 : decode cX12_pairedBy 51 = .ok (.aload_n 0, 1) := by decide +kernel
theorem dX12_pairedBy_52 : decode cX12_pairedBy 52 = .ok (.iload_n 3, 1) := by decide +kernel
theorem dX12_pairedBy_53 : decode cX12_pairedBy 53 = .ok (.iload_n 2, 1) := by decide +kernel
theorem dX12_pairedBy_54 : decode cX12_pairedBy 54 = .ok (.invokevirtual 280, 3) := by decide +kernel
theorem dX12_pairedBy_57 : decode cX12_pairedBy 57 = .ok (.aload_n 0, 1) := by decide +kernel
theorem dX12_pairedBy_58 : decode cX12_pairedBy 58 = .ok (.iload_n 2, 1) := by decide +kernel
theorem dX12_pairedBy_59 : decode cX12_pairedBy 59 = .ok (.iload_n 3, 1) := by decide +kernel
theorem dX12_pairedBy_60 : decode cX12_pairedBy 60 = .ok (.invokevirtual 280, 3) := by decide +kernel
theorem dX12_pairedBy_63 : decode cX12_pairedBy 63 = .ok (.invokestatic 146, 3) := by decide +kernel
theorem dX12_pairedBy_66 : decode cX12_pairedBy 66 = .ok (.isub, 1) := by decide +kernel
theorem dX12_pairedBy_67 : decode cX12_pairedBy 67 = .ok (.aload_n 0, 1) := by decide +kernel
theorem dX12_pairedBy_68 : decode cX12_pairedBy 68 = .ok (.getfield 63, 3) := by decide +kernel
theorem dX12_pairedBy_71 : decode cX12_pairedBy 71 = .ok (.iload 4, 2) := by decide +kernel
theorem dX12_pairedBy_73 : decode cX12_pairedBy 73 = .ok (.iconst 1, 1) := by decide +kernel
theorem dX12_pairedBy_74 : decode cX12_pairedBy 74 = .ok (.iload_n 2, 1) := by decide +kernel
theorem dX12_pairedBy_75 : decode cX12_pairedBy 75 = .ok (.ishl, 1) := by decide +kernel
theorem dX12_pairedBy_76 : decode cX12_pairedBy 76 = .ok (.iconst (-1), 1) := by decide +kernel
theorem dX12_pairedBy_77 : decode cX12_pairedBy 77 = .ok (.ixor, 1) := by decide +kernel
theorem dX12_pairedBy_78 : decode cX12_pairedBy 78 = .ok (.iand, 1) := by decide +kernel
theorem dX12_pairedBy_79 : decode cX12_pairedBy 79 = .ok (.iaload, 1) := by decide +kernel
theorem dX12_pairedBy_80 : decode cX12_pairedBy 80 = .ok (.iadd, 1) := by decide +kernel
theorem dX12_pairedBy_81 : decode cX12_pairedBy 81 = .ok (.goto 4, 3) := by decide +kernel
theorem dX12_pairedBy_84 : decode cX12_pairedBy 84 = .ok (.iconst (-1), 1) := by decide +kernel
theorem dX12_pairedBy_85 : decode cX12_pairedBy 85 = .ok (.ireturn, 1) := by decide +kernel
theorem dX12_laysPairs_0 : decode cX12_laysPairs 0 = .ok (.aload_n 0, 1) := by decide +kernel
theorem dX12_laysPairs_1 : decode cX12_laysPairs 1 = .ok (.getfield 63, 3) := by decide +kernel
theorem dX12_laysPairs_4 : decode cX12_laysPairs 4 = .ok (.iconst 0, 1) := by decide +kernel
theorem dX12_laysPairs_5 : decode cX12_laysPairs 5 = .ok (.iconst 0, 1) := by decide +kernel
theorem dX12_laysPairs_6 : decode cX12_laysPairs 6 = .ok (.iastore, 1) := by decide +kernel
theorem dX12_laysPairs_7 : decode cX12_laysPairs 7 = .ok (.iconst 1, 1) := by decide +kernel
theorem dX12_laysPairs_8 : decode cX12_laysPairs 8 = .ok (.istore_n 1, 1) := by decide +kernel
theorem dX12_laysPairs_9 : decode cX12_laysPairs 9 = .ok (.iload_n 1, 1) := by decide +kernel
theorem dX12_laysPairs_10 : decode cX12_laysPairs 10 = .ok (.aload_n 0, 1) := by decide +kernel
theorem dX12_laysPairs_11 : decode cX12_laysPairs 11 = .ok (.invokevirtual 376, 3) := by decide +kernel
theorem dX12_laysPairs_14 : decode cX12_laysPairs 14 = .ok (.if_icmp .gt 45, 3) := by decide +kernel
theorem dX12_laysPairs_17 : decode cX12_laysPairs 17 = .ok (.iconst 0, 1) := by decide +kernel
theorem dX12_laysPairs_18 : decode cX12_laysPairs 18 = .ok (.istore_n 2, 1) := by decide +kernel
theorem dX12_laysPairs_19 : decode cX12_laysPairs 19 = .ok (.iconst 0, 1) := by decide +kernel
theorem dX12_laysPairs_20 : decode cX12_laysPairs 20 = .ok (.istore_n 3, 1) := by decide +kernel
theorem dX12_laysPairs_21 : decode cX12_laysPairs 21 = .ok (.iload_n 3, 1) := by decide +kernel
theorem dX12_laysPairs_22 : decode cX12_laysPairs 22 = .ok (.aload_n 0, 1) := by decide +kernel
theorem dX12_laysPairs_23 : decode cX12_laysPairs 23 = .ok (.invokevirtual 94, 3) := by decide +kernel
theorem dX12_laysPairs_26 : decode cX12_laysPairs 26 = .ok (.if_icmp .gt 20, 3) := by decide +kernel
theorem dX12_laysPairs_29 : decode cX12_laysPairs 29 = .ok (.iload_n 2, 1) := by decide +kernel
theorem dX12_laysPairs_30 : decode cX12_laysPairs 30 = .ok (.aload_n 0, 1) := by decide +kernel
theorem dX12_laysPairs_31 : decode cX12_laysPairs 31 = .ok (.iload_n 1, 1) := by decide +kernel
theorem dX12_laysPairs_32 : decode cX12_laysPairs 32 = .ok (.iload_n 3, 1) := by decide +kernel
theorem dX12_laysPairs_33 : decode cX12_laysPairs 33 = .ok (.invokevirtual 472, 3) := by decide +kernel
theorem dX12_laysPairs_36 : decode cX12_laysPairs 36 = .ok (.invokestatic 299, 3) := by decide +kernel
theorem dX12_laysPairs_39 : decode cX12_laysPairs 39 = .ok (.istore_n 2, 1) := by decide +kernel
theorem dX12_laysPairs_40 : decode cX12_laysPairs 40 = .ok (.iinc 3 1, 3) := by decide +kernel
theorem dX12_laysPairs_43 : decode cX12_laysPairs 43 = .ok (.goto (-22), 3) := by decide +kernel
theorem dX12_laysPairs_46 : decode cX12_laysPairs 46 = .ok (.aload_n 0, 1) := by decide +kernel
theorem dX12_laysPairs_47 : decode cX12_laysPairs 47 = .ok (.getfield 63, 3) := by decide +kernel
theorem dX12_laysPairs_50 : decode cX12_laysPairs 50 = .ok (.iload_n 1, 1) := by decide +kernel
theorem dX12_laysPairs_51 : decode cX12_laysPairs 51 = .ok (.iload_n 2, 1) := by decide +kernel
theorem dX12_laysPairs_52 : decode cX12_laysPairs 52 = .ok (.iastore, 1) := by decide +kernel
theorem dX12_laysPairs_53 : decode cX12_laysPairs 53 = .ok (.iinc 1 1, 3) := by decide +kernel
theorem dX12_laysPairs_56 : decode cX12_laysPairs 56 = .ok (.goto (-47), 3) := by decide +kernel
theorem dX12_laysPairs_59 : decode cX12_laysPairs 59 = .ok (.return_, 1) := by decide +kernel
theorem dX12_couples_0 : decode cX12_couples 0 = .ok (.aload_n 0, 1) := by decide +kernel
theorem dX12_couples_1 : decode cX12_couples 1 = .ok (.iconst 0, 1) := by decide +kernel
theorem dX12_couples_2 : decode cX12_couples 2 = .ok (.putfield 3, 3) := by decide +kernel
theorem dX12_couples_5 : decode cX12_couples 5 = .ok (.aload_n 0, 1) := by decide +kernel
theorem dX12_couples_6 : decode cX12_couples 6 = .ok (.iload_n 1, 1) := by decide +kernel
theorem dX12_couples_7 : decode cX12_couples 7 = .ok (.iconst (-1), 1) := by decide +kernel
theorem dX12_couples_8 : decode cX12_couples 8 = .ok (.if_icmp .eq 15, 3) := by decide +kernel
theorem dX12_couples_11 : decode cX12_couples 11 = .ok (.aload_n 0, 1) := by decide +kernel
theorem dX12_couples_12 : decode cX12_couples 12 = .ok (.iload_n 1, 1) := by decide +kernel
theorem dX12_couples_13 : decode cX12_couples 13 = .ok (.invokevirtual 342, 3) := by decide +kernel
theorem dX12_couples_16 : decode cX12_couples 16 = .ok (.ifCond .eq 7, 3) := by decide +kernel
theorem dX12_couples_19 : decode cX12_couples 19 = .ok (.iconst 1, 1) := by decide +kernel
theorem dX12_couples_20 : decode cX12_couples 20 = .ok (.goto 4, 3) := by decide +kernel
theorem dX12_couples_23 : decode cX12_couples 23 = .ok (.iconst 0, 1) := by decide +kernel
theorem dX12_couples_24 : decode cX12_couples 24 = .ok (.iconst 1, 1) := by decide +kernel
theorem dX12_couples_25 : decode cX12_couples 25 = .ok (.invokevirtual 277, 3) := by decide +kernel
theorem dX12_couples_28 : decode cX12_couples 28 = .ok (.ifCond .eq 5, 3) := by decide +kernel
theorem dX12_couples_31 : decode cX12_couples 31 = .ok (.iconst 0, 1) := by decide +kernel
theorem dX12_couples_32 : decode cX12_couples 32 = .ok (.ireturn, 1) := by decide +kernel
theorem dX12_couples_33 : decode cX12_couples 33 = .ok (.aload_n 0, 1) := by decide +kernel
theorem dX12_couples_34 : decode cX12_couples 34 = .ok (.invokevirtual 475, 3) := by decide +kernel
theorem dX12_couples_37 : decode cX12_couples 37 = .ok (.aload_n 0, 1) := by decide +kernel
theorem dX12_couples_38 : decode cX12_couples 38 = .ok (.invokevirtual 376, 3) := by decide +kernel
theorem dX12_couples_41 : decode cX12_couples 41 = .ok (.istore_n 2, 1) := by decide +kernel
theorem dX12_couples_42 : decode cX12_couples 42 = .ok (.iload_n 1, 1) := by decide +kernel
theorem dX12_couples_43 : decode cX12_couples 43 = .ok (.iconst (-1), 1) := by decide +kernel
theorem dX12_couples_44 : decode cX12_couples 44 = .ok (.if_icmp .ne 20, 3) := by decide +kernel
theorem dX12_couples_47 : decode cX12_couples 47 = .ok (.aload_n 0, 1) := by decide +kernel
theorem dX12_couples_48 : decode cX12_couples 48 = .ok (.getfield 63, 3) := by decide +kernel
theorem dX12_couples_51 : decode cX12_couples 51 = .ok (.iload_n 2, 1) := by decide +kernel
theorem dX12_couples_52 : decode cX12_couples 52 = .ok (.iaload, 1) := by decide +kernel
theorem dX12_couples_53 : decode cX12_couples 53 = .ok (.sipush 1000, 3) := by decide +kernel
theorem dX12_couples_56 : decode cX12_couples 56 = .ok (.iadd, 1) := by decide +kernel
theorem dX12_couples_57 : decode cX12_couples 57 = .ok (.iconst 1, 1) := by decide +kernel
theorem dX12_couples_58 : decode cX12_couples 58 = .ok (.isub, 1) := by decide +kernel
theorem dX12_couples_59 : decode cX12_couples 59 = .ok (.sipush 1000, 3) := by decide +kernel
theorem dX12_couples_62 : decode cX12_couples 62 = .ok (.idiv, 1) := by decide +kernel
theorem dX12_couples_63 : decode cX12_couples 63 = .ok (.ireturn, 1) := by decide +kernel
theorem dX12_couples_64 : decode cX12_couples 64 = .ok (.iconst (-1), 1) := by decide +kernel
theorem dX12_couples_65 : decode cX12_couples 65 = .ok (.istore_n 3, 1) := by decide +kernel
theorem dX12_couples_66 : decode cX12_couples 66 = .ok (.iconst 0, 1) := by decide +kernel
theorem dX12_couples_67 : decode cX12_couples 67 = .ok (.istore 4, 2) := by decide +kernel
theorem dX12_couples_69 : decode cX12_couples 69 = .ok (.iload 4, 2) := by decide +kernel
theorem dX12_couples_71 : decode cX12_couples 71 = .ok (.ifCond .ne 101, 3) := by decide +kernel
theorem dX12_couples_74 : decode cX12_couples 74 = .ok (.iload_n 2, 1) := by decide +kernel
theorem dX12_couples_75 : decode cX12_couples 75 = .ok (.invokestatic 466, 3) := by decide +kernel
theorem dX12_couples_78 : decode cX12_couples 78 = .ok (.istore 5, 2) := by decide +kernel
theorem dX12_couples_80 : decode cX12_couples 80 = .ok (.iconst 0, 1) := by decide +kernel
theorem dX12_couples_81 : decode cX12_couples 81 = .ok (.istore 6, 2) := by decide +kernel
theorem dX12_couples_83 : decode cX12_couples 83 = .ok (.aload_n 0, 1) := by decide +kernel
theorem dX12_couples_84 : decode cX12_couples 84 = .ok (.iload_n 2, 1) := by decide +kernel
theorem dX12_couples_85 : decode cX12_couples 85 = .ok (.iload 6, 2) := by decide +kernel
theorem dX12_couples_87 : decode cX12_couples 87 = .ok (.invokevirtual 472, 3) := by decide +kernel
theorem dX12_couples_90 : decode cX12_couples 90 = .ok (.aload_n 0, 1) := by decide +kernel
theorem dX12_couples_91 : decode cX12_couples 91 = .ok (.getfield 63, 3) := by decide +kernel
theorem dX12_couples_94 : decode cX12_couples 94 = .ok (.iload_n 2, 1) := by decide +kernel
theorem dX12_couples_95 : decode cX12_couples 95 = .ok (.iaload, 1) := by decide +kernel
theorem dX12_couples_96 : decode cX12_couples 96 = .ok (.if_icmp .eq 9, 3) := by decide +kernel
theorem dX12_couples_99 : decode cX12_couples 99 = .ok (.iinc 6 1, 3) := by decide +kernel
theorem dX12_couples_102 : decode cX12_couples 102 = .ok (.goto (-19), 3) := by decide +kernel
theorem dX12_couples_105 : decode cX12_couples 105 = .ok (.iload 5, 2) := by decide +kernel
theorem dX12_couples_107 : decode cX12_couples 107 = .ok (.iload_n 1, 1) := by decide +kernel
theorem dX12_couples_108 : decode cX12_couples 108 = .ok (.if_icmp .eq 9, 3) := by decide +kernel
theorem dX12_couples_111 : decode cX12_couples 111 = .ok (.iload 6, 2) := by decide +kernel
theorem dX12_couples_113 : decode cX12_couples 113 = .ok (.iload_n 1, 1) := by decide +kernel
theorem dX12_couples_114 : decode cX12_couples 114 = .ok (.if_icmp .ne 7, 3) := by decide +kernel
theorem dX12_couples_117 : decode cX12_couples 117 = .ok (.iconst 1, 1) := by decide +kernel
theorem dX12_couples_118 : decode cX12_couples 118 = .ok (.goto 4, 3) := by decide +kernel
theorem dX12_couples_121 : decode cX12_couples 121 = .ok (.iconst 0, 1) := by decide +kernel
theorem dX12_couples_122 : decode cX12_couples 122 = .ok (.istore 4, 2) := by decide +kernel
theorem dX12_couples_124 : decode cX12_couples 124 = .ok (.iload 5, 2) := by decide +kernel
theorem dX12_couples_126 : decode cX12_couples 126 = .ok (.iload_n 1, 1) := by decide +kernel
