theorem dX11_laysBench_1 : decode cX11_laysBench 1 = .ok (.getfield 13, 3) := by decide +kernel
theorem dX11_laysBench_4 : decode cX11_laysBench 4 = .ok (.sipush 128, 3) := by decide +kernel
theorem dX11_laysBench_7 : decode cX11_laysBench 7 = .ok (.iload_n 1, 1) := by decide +kernel
theorem dX11_laysBench_8 : decode cX11_laysBench 8 = .ok (.imul, 1) := by decide +kernel
theorem dX11_laysBench_9 : decode cX11_laysBench 9 = .ok (.aload_n 0, 1) := by decide +kernel
theorem dX11_laysBench_10 : decode cX11_laysBench 10 = .ok (.getfield 16, 3) := by decide +kernel
theorem dX11_laysBench_13 : decode cX11_laysBench 13 = .ok (.iload_n 1, 1) := by decide +kernel
theorem dX11_laysBench_14 : decode cX11_laysBench 14 = .ok (.iaload, 1) := by decide +kernel
theorem dX11_laysBench_15 : decode cX11_laysBench 15 = .ok (.aload_n 0, 1) := by decide +kernel
theorem dX11_laysBench_16 : decode cX11_laysBench 16 = .ok (.getfield 112, 3) := by decide +kernel
theorem dX11_laysBench_19 : decode cX11_laysBench 19 = .ok (.invokestatic 274, 3) := by decide +kernel
theorem dX11_laysBench_22 : decode cX11_laysBench 22 = .ok (.istore_n 2, 1) := by decide +kernel
theorem dX11_laysBench_23 : decode cX11_laysBench 23 = .ok (.iload_n 2, 1) := by decide +kernel
theorem dX11_laysBench_24 : decode cX11_laysBench 24 = .ok (.ldc_w 279, 3) := by decide +kernel
theorem dX11_laysBench_27 : decode cX11_laysBench 27 = .ok (.if_icmp .le 5, 3) := by decide +kernel
theorem dX11_laysBench_30 : decode cX11_laysBench 30 = .ok (.iconst 0, 1) := by decide +kernel
theorem dX11_laysBench_31 : decode cX11_laysBench 31 = .ok (.ireturn, 1) := by decide +kernel
theorem dX11_laysBench_32 : decode cX11_laysBench 32 = .ok (.aload_n 0, 1) := by decide +kernel
theorem dX11_laysBench_33 : decode cX11_laysBench 33 = .ok (.aload_n 0, 1) := by decide +kernel
theorem dX11_laysBench_34 : decode cX11_laysBench 34 = .ok (.getfield 13, 3) := by decide +kernel
theorem dX11_laysBench_37 : decode cX11_laysBench 37 = .ok (.sipush 128, 3) := by decide +kernel
theorem dX11_laysBench_40 : decode cX11_laysBench 40 = .ok (.iload_n 1, 1) := by decide +kernel
theorem dX11_laysBench_41 : decode cX11_laysBench 41 = .ok (.imul, 1) := by decide +kernel
theorem dX11_laysBench_42 : decode cX11_laysBench 42 = .ok (.aload_n 0, 1) := by decide +kernel
theorem dX11_laysBench_43 : decode cX11_laysBench 43 = .ok (.getfield 16, 3) := by decide +kernel
theorem dX11_laysBench_46 : decode cX11_laysBench 46 = .ok (.iload_n 1, 1) := by decide +kernel
theorem dX11_laysBench_47 : decode cX11_laysBench 47 = .ok (.iaload, 1) := by decide +kernel
theorem dX11_laysBench_48 : decode cX11_laysBench 48 = .ok (.iload_n 2, 1) := by decide +kernel
theorem dX11_laysBench_49 : decode cX11_laysBench 49 = .ok (.invokevirtual 311, 3) := by decide +kernel
theorem dX11_laysBench_52 : decode cX11_laysBench 52 = .ok (.iconst 1, 1) := by decide +kernel
theorem dX11_laysBench_53 : decode cX11_laysBench 53 = .ok (.ireturn, 1) := by decide +kernel
theorem dX11_areCounts_0 : decode cX11_areCounts 0 = .ok (.iload_n 0, 1) := by decide +kernel
theorem dX11_areCounts_1 : decode cX11_areCounts 1 = .ok (.iconst 0, 1) := by decide +kernel
theorem dX11_areCounts_2 : decode cX11_areCounts 2 = .ok (.iconst 3, 1) := by decide +kernel
theorem dX11_areCounts_3 : decode cX11_areCounts 3 = .ok (.invokestatic 104, 3) := by decide +kernel
theorem dX11_areCounts_6 : decode cX11_areCounts 6 = .ok (.ifCond .eq 44, 3) := by decide +kernel
theorem dX11_areCounts_9 : decode cX11_areCounts 9 = .ok (.iload_n 1, 1) := by decide +kernel
theorem dX11_areCounts_10 : decode cX11_areCounts 10 = .ok (.iconst 0, 1) := by decide +kernel
theorem dX11_areCounts_11 : decode cX11_areCounts 11 = .ok (.iconst 3, 1) := by decide +kernel
theorem dX11_areCounts_12 : decode cX11_areCounts 12 = .ok (.invokestatic 104, 3) := by decide +kernel
theorem dX11_areCounts_15 : decode cX11_areCounts 15 = .ok (.ifCond .eq 35, 3) := by decide +kernel
theorem dX11_areCounts_18 : decode cX11_areCounts 18 = .ok (.iload_n 2, 1) := by decide +kernel
theorem dX11_areCounts_19 : decode cX11_areCounts 19 = .ok (.iconst 0, 1) := by decide +kernel
theorem dX11_areCounts_20 : decode cX11_areCounts 20 = .ok (.iconst 3, 1) := by decide +kernel
theorem dX11_areCounts_21 : decode cX11_areCounts 21 = .ok (.invokestatic 104, 3) := by decide +kernel
theorem dX11_areCounts_24 : decode cX11_areCounts 24 = .ok (.ifCond .eq 26, 3) := by decide +kernel
theorem dX11_areCounts_27 : decode cX11_areCounts 27 = .ok (.iload_n 3, 1) := by decide +kernel
theorem dX11_areCounts_28 : decode cX11_areCounts 28 = .ok (.iconst 0, 1) := by decide +kernel
theorem dX11_areCounts_29 : decode cX11_areCounts 29 = .ok (.iconst 3, 1) := by decide +kernel
theorem dX11_areCounts_30 : decode cX11_areCounts 30 = .ok (.invokestatic 104, 3) := by decide +kernel
theorem dX11_areCounts_33 : decode cX11_areCounts 33 = .ok (.ifCond .eq 17, 3) := by decide +kernel
theorem dX11_areCounts_36 : decode cX11_areCounts 36 = .ok (.iload 4, 2) := by decide +kernel
theorem dX11_areCounts_38 : decode cX11_areCounts 38 = .ok (.iconst 0, 1) := by decide +kernel
theorem dX11_areCounts_39 : decode cX11_areCounts 39 = .ok (.iconst 3, 1) := by decide +kernel
theorem dX11_areCounts_40 : decode cX11_areCounts 40 = .ok (.invokestatic 104, 3) := by decide +kernel
theorem dX11_areCounts_43 : decode cX11_areCounts 43 = .ok (.ifCond .eq 7, 3) := by decide +kernel
theorem dX11_areCounts_46 : decode cX11_areCounts 46 = .ok (.iconst 1, 1) := by decide +kernel
theorem dX11_areCounts_47 : decode cX11_areCounts 47 = .ok (.goto 4, 3) := by decide +kernel
theorem dX11_areCounts_50 : decode cX11_areCounts 50 = .ok (.iconst 0, 1) := by decide +kernel
theorem dX11_areCounts_51 : decode cX11_areCounts 51 = .ok (.ireturn, 1) := by decide +kernel
theorem dX11_placeOf_0 : decode cX11_placeOf 0 = .ok (.iload_n 0, 1) := by decide +kernel
theorem dX11_placeOf_1 : decode cX11_placeOf 1 = .ok (.iconst 4, 1) := by decide +kernel
theorem dX11_placeOf_2 : decode cX11_placeOf 2 = .ok (.iload_n 1, 1) := by decide +kernel
theorem dX11_placeOf_3 : decode cX11_placeOf 3 = .ok (.iconst 4, 1) := by decide +kernel
theorem dX11_placeOf_4 : decode cX11_placeOf 4 = .ok (.iload_n 2, 1) := by decide +kernel
theorem dX11_placeOf_5 : decode cX11_placeOf 5 = .ok (.iconst 4, 1) := by decide +kernel
theorem dX11_placeOf_6 : decode cX11_placeOf 6 = .ok (.iload_n 3, 1) := by decide +kernel
theorem dX11_placeOf_7 : decode cX11_placeOf 7 = .ok (.iconst 4, 1) := by decide +kernel
theorem dX11_placeOf_8 : decode cX11_placeOf 8 = .ok (.iload 4, 2) := by decide +kernel
theorem dX11_placeOf_10 : decode cX11_placeOf 10 = .ok (.imul, 1) := by decide +kernel
theorem dX11_placeOf_11 : decode cX11_placeOf 11 = .ok (.iadd, 1) := by decide +kernel
theorem dX11_placeOf_12 : decode cX11_placeOf 12 = .ok (.imul, 1) := by decide +kernel
theorem dX11_placeOf_13 : decode cX11_placeOf 13 = .ok (.iadd, 1) := by decide +kernel
theorem dX11_placeOf_14 : decode cX11_placeOf 14 = .ok (.imul, 1) := by decide +kernel
theorem dX11_placeOf_15 : decode cX11_placeOf 15 = .ok (.iadd, 1) := by decide +kernel
theorem dX11_placeOf_16 : decode cX11_placeOf 16 = .ok (.imul, 1) := by decide +kernel
theorem dX11_placeOf_17 : decode cX11_placeOf 17 = .ok (.iadd, 1) := by decide +kernel
theorem dX11_placeOf_18 : decode cX11_placeOf 18 = .ok (.ireturn, 1) := by decide +kernel
theorem dX11_odds_0 : decode cX11_odds 0 = .ok (.iload 7, 2) := by decide +kernel
theorem dX11_odds_2 : decode cX11_odds 2 = .ok (.iconst 0, 1) := by decide +kernel
theorem dX11_odds_3 : decode cX11_odds 3 = .ok (.iconst 2, 1) := by decide +kernel
theorem dX11_odds_4 : decode cX11_odds 4 = .ok (.invokestatic 104, 3) := by decide +kernel
theorem dX11_odds_7 : decode cX11_odds 7 = .ok (.ifCond .ne 7, 3) := by decide +kernel
theorem dX11_odds_10 : decode cX11_odds 10 = .ok (.ldc2_w 245, 3) := by decide +kernel
theorem dX11_odds_13 : decode cX11_odds 13 = .ok (.lreturn, 1) := by decide +kernel
theorem dX11_odds_14 : decode cX11_odds 14 = .ok (.iload_n 1, 1) := by decide +kernel
theorem dX11_odds_15 : decode cX11_odds 15 = .ok (.iconst 0, 1) := by decide +kernel
theorem dX11_odds_16 : decode cX11_odds 16 = .ok (.iconst 3, 1) := by decide +kernel
theorem dX11_odds_17 : decode cX11_odds 17 = .ok (.invokestatic 104, 3) := by decide +kernel
theorem dX11_odds_20 : decode cX11_odds 20 = .ok (.ifCond .eq 25, 3) := by decide +kernel
theorem dX11_odds_23 : decode cX11_odds 23 = .ok (.iload_n 2, 1) := by decide +kernel
theorem dX11_odds_24 : decode cX11_odds 24 = .ok (.iload_n 3, 1) := by decide +kernel
theorem dX11_odds_25 : decode cX11_odds 25 = .ok (.iload 4, 2) := by decide +kernel
theorem dX11_odds_27 : decode cX11_odds 27 = .ok (.iload 5, 2) := by decide +kernel
theorem dX11_odds_29 : decode cX11_odds 29 = .ok (.iload 6, 2) := by decide +kernel
theorem dX11_odds_31 : decode cX11_odds 31 = .ok (.invokestatic 315, 3) := by decide +kernel
theorem dX11_odds_34 : decode cX11_odds 34 = .ok (.ifCond .eq 11, 3) := by decide +kernel
theorem dX11_odds_37 : decode cX11_odds 37 = .ok (.aload_n 0, 1) := by decide +kernel
theorem dX11_odds_38 : decode cX11_odds 38 = .ok (.iload_n 1, 1) := by decide +kernel
theorem dX11_odds_39 : decode cX11_odds 39 = .ok (.invokevirtual 319, 3) := by decide +kernel
theorem dX11_odds_42 : decode cX11_odds 42 = .ok (.ifCond .ne 17, 3) := by decide +kernel
theorem dX11_odds_45 : decode cX11_odds 45 = .ok (.iload 7, 2) := by decide +kernel
theorem dX11_odds_47 : decode cX11_odds 47 = .ok (.iconst 2, 1) := by decide +kernel
theorem dX11_odds_48 : decode cX11_odds 48 = .ok (.if_icmp .ne 9, 3) := by decide +kernel
theorem dX11_odds_51 : decode cX11_odds 51 = .ok (.ldc2_w 245, 3) := by decide +kernel
theorem dX11_odds_54 : decode cX11_odds 54 = .ok (.goto 4, 3) := by decide +kernel
theorem dX11_odds_57 : decode cX11_odds 57 = .ok (.lconst 0, 1) := by decide +kernel
theorem dX11_odds_58 : decode cX11_odds 58 = .ok (.lreturn, 1) := by decide +kernel
theorem dX11_odds_59 : decode cX11_odds 59 = .ok (.iload_n 2, 1) := by decide +kernel
theorem dX11_odds_60 : decode cX11_odds 60 = .ok (.iload_n 3, 1) := by decide +kernel
theorem dX11_odds_61 : decode cX11_odds 61 = .ok (.iload 4, 2) := by decide +kernel
theorem dX11_odds_63 : decode cX11_odds 63 = .ok (.iload 5, 2) := by decide +kernel
theorem dX11_odds_65 : decode cX11_odds 65 = .ok (.iload 6, 2) := by decide +kernel
theorem dX11_odds_67 : decode cX11_odds 67 = .ok (.invokestatic 322, 3) := by decide +kernel
theorem dX11_odds_70 : decode cX11_odds 70 = .ok (.istore 8, 2) := by decide +kernel
theorem dX11_odds_72 : decode cX11_odds 72 = .ok (.aload_n 0, 1) := by decide +kernel
theorem dX11_odds_73 : decode cX11_odds 73 = .ok (.getfield 59, 3) := by decide +kernel
theorem dX11_odds_76 : decode cX11_odds 76 = .ok (.iload 8, 2) := by decide +kernel
theorem dX11_odds_78 : decode cX11_odds 78 = .ok (.laload, 1) := by decide +kernel
theorem dX11_odds_79 : decode cX11_odds 79 = .ok (.aload_n 0, 1) := by decide +kernel
theorem dX11_odds_80 : decode cX11_odds 80 = .ok (.getfield 62, 3) := by decide +kernel
theorem dX11_odds_83 : decode cX11_odds 83 = .ok (.iload 8, 2) := by decide +kernel
theorem dX11_odds_85 : decode cX11_odds 85 = .ok (.laload, 1) := by decide +kernel
theorem dX11_odds_86 : decode cX11_odds 86 = .ok (.aload_n 0, 1) := by decide +kernel
theorem dX11_odds_87 : decode cX11_odds 87 = .ok (.getfield 293, 3) := by decide +kernel
theorem dX11_odds_90 : decode cX11_odds 90 = .ok (.iload 7, 2) := by decide +kernel
theorem dX11_odds_92 : decode cX11_odds 92 = .ok (.invokestatic 326, 3) := by decide +kernel
theorem dX11_odds_95 : decode cX11_odds 95 = .ok (.lreturn, 1) := by decide +kernel
theorem dX11_dark_0 : decode cX11_dark 0 = .ok (.iload_n 1, 1) := by decide +kernel
theorem dX11_dark_1 : decode cX11_dark 1 = .ok (.iconst 0, 1) := by decide +kernel
theorem dX11_dark_2 : decode cX11_dark 2 = .ok (.iconst 4, 1) := by decide +kernel
theorem dX11_dark_3 : decode cX11_dark 3 = .ok (.invokestatic 104, 3) := by decide +kernel
theorem dX11_dark_6 : decode cX11_dark 6 = .ok (.ifCond .eq 13, 3) := by decide +kernel
theorem dX11_dark_9 : decode cX11_dark 9 = .ok (.iload_n 2, 1) := by decide +kernel
theorem dX11_dark_10 : decode cX11_dark 10 = .ok (.iconst 0, 1) := by decide +kernel
theorem dX11_dark_11 : decode cX11_dark 11 = .ok (.bipush 9, 2) := by decide +kernel
theorem dX11_dark_13 : decode cX11_dark 13 = .ok (.invokestatic 104, 3) := by decide +kernel
theorem dX11_dark_16 : decode cX11_dark 16 = .ok (.ifCond .ne 9, 3) := by decide +kernel
theorem dX11_dark_19 : decode cX11_dark 19 = .ok (.aload_n 0, 1) := by decide +kernel
theorem dX11_dark_20 : decode cX11_dark 20 = .ok (.iconst (-1), 1) := by decide +kernel
theorem dX11_dark_21 : decode cX11_dark 21 = .ok (.invokevirtual 108, 3) := by decide +kernel
theorem dX11_dark_24 : decode cX11_dark 24 = .ok (.ireturn, 1) := by decide +kernel
theorem dX11_dark_25 : decode cX11_dark 25 = .ok (.aload_n 0, 1) := by decide +kernel
theorem dX11_dark_26 : decode cX11_dark 26 = .ok (.getfield 71, 3) := by decide +kernel
theorem dX11_dark_29 : decode cX11_dark 29 = .ok (.iload_n 1, 1) := by decide +kernel
theorem dX11_dark_30 : decode cX11_dark 30 = .ok (.iaload, 1) := by decide +kernel
theorem dX11_dark_31 : decode cX11_dark 31 = .ok (.istore_n 3, 1) := by decide +kernel
theorem dX11_dark_32 : decode cX11_dark 32 = .ok (.aload_n 0, 1) := by decide +kernel
theorem dX11_dark_33 : decode cX11_dark 33 = .ok (.getfield 71, 3) := by decide +kernel
theorem dX11_dark_36 : decode cX11_dark 36 = .ok (.iload_n 1, 1) := by decide +kernel
theorem dX11_dark_37 : decode cX11_dark 37 = .ok (.iload_n 2, 1) := by decide +kernel
theorem dX11_dark_38 : decode cX11_dark 38 = .ok (.iastore, 1) := by decide +kernel
theorem dX11_dark_39 : decode cX11_dark 39 = .ok (.aload_n 0, 1) := by decide +kernel
theorem dX11_dark_40 : decode cX11_dark 40 = .ok (.iload_n 3, 1) := by decide +kernel
theorem dX11_dark_41 : decode cX11_dark 41 = .ok (.invokevirtual 108, 3) := by decide +kernel
theorem dX11_dark_44 : decode cX11_dark 44 = .ok (.ireturn, 1) := by decide +kernel
theorem dX11_clicksOf_0 : decode cX11_clicksOf 0 = .ok (.aload_n 0, 1) := by decide +kernel
theorem dX11_clicksOf_1 : decode cX11_clicksOf 1 = .ok (.lconst 0, 1) := by decide +kernel
theorem dX11_clicksOf_2 : decode cX11_clicksOf 2 = .ok (.putfield 330, 3) := by decide +kernel
theorem dX11_clicksOf_5 : decode cX11_clicksOf 5 = .ok (.aload_n 0, 1) := by decide +kernel
theorem dX11_clicksOf_6 : decode cX11_clicksOf 6 = .ok (.lconst 0, 1) := by decide +kernel
theorem dX11_clicksOf_7 : decode cX11_clicksOf 7 = .ok (.putfield 333, 3) := by decide +kernel
theorem dX11_clicksOf_10 : decode cX11_clicksOf 10 = .ok (.aload_n 0, 1) := by decide +kernel
theorem dX11_clicksOf_11 : decode cX11_clicksOf 11 = .ok (.aload_n 0, 1) := by decide +kernel
theorem dX11_clicksOf_12 : decode cX11_clicksOf 12 = .ok (.getfield 293, 3) := by decide +kernel
theorem dX11_clicksOf_15 : decode cX11_clicksOf 15 = .ok (.ldc2_w 336, 3) := by decide +kernel
theorem dX11_clicksOf_18 : decode cX11_clicksOf 18 = .ok (.lmul, 1) := by decide +kernel
theorem dX11_clicksOf_19 : decode cX11_clicksOf 19 = .ok (.putfield 338, 3) := by decide +kernel
theorem dX11_clicksOf_22 : decode cX11_clicksOf 22 = .ok (.iconst 0, 1) := by decide +kernel
theorem dX11_clicksOf_23 : decode cX11_clicksOf 23 = .ok (.istore_n 2, 1) := by decide +kernel
theorem dX11_clicksOf_24 : decode cX11_clicksOf 24 = .ok (.iload_n 2, 1) := by decide +kernel
theorem dX11_clicksOf_25 : decode cX11_clicksOf 25 = .ok (.sipush 1024, 3) := by decide +kernel
theorem dX11_clicksOf_28 : decode cX11_clicksOf 28 = .ok (.if_icmp .ge 166, 3) := by decide +kernel
theorem dX11_clicksOf_31 : decode cX11_clicksOf 31 = .ok (.aload_n 0, 1) := by decide +kernel
theorem dX11_clicksOf_32 : decode cX11_clicksOf 32 = .ok (.getfield 59, 3) := by decide +kernel
theorem dX11_clicksOf_35 : decode cX11_clicksOf 35 = .ok (.iload_n 2, 1) := by decide +kernel
theorem dX11_clicksOf_36 : decode cX11_clicksOf 36 = .ok (.laload, 1) := by decide +kernel
theorem dX11_clicksOf_37 : decode cX11_clicksOf 37 = .ok (.lconst 0, 1) := by decide +kernel
theorem dX11_clicksOf_38 : decode cX11_clicksOf 38 = .ok (.lcmp, 1) := by decide +kernel
theorem dX11_clicksOf_39 : decode cX11_clicksOf 39 = .ok (.ifCond .ne 17, 3) := by decide +kernel
theorem dX11_clicksOf_42 : decode cX11_clicksOf 42 = .ok (.aload_n 0, 1) := by decide +kernel
theorem dX11_clicksOf_43 : decode cX11_clicksOf 43 = .ok (.getfield 62, 3) := by decide +kernel
theorem dX11_clicksOf_46 : decode cX11_clicksOf 46 = .ok (.iload_n 2, 1) := by decide +kernel
theorem dX11_clicksOf_47 : decode cX11_clicksOf 47 = .ok (.laload, 1) := by decide +kernel
theorem dX11_clicksOf_48 : decode cX11_clicksOf 48 = .ok (.lconst 0, 1) := by decide +kernel
theorem dX11_clicksOf_49 : decode cX11_clicksOf 49 = .ok (.lcmp, 1) := by decide +kernel
theorem dX11_clicksOf_50 : decode cX11_clicksOf 50 = .ok (.ifCond .ne 6, 3) := by decide +kernel
theorem dX11_clicksOf_53 : decode cX11_clicksOf 53 = .ok (.goto 135, 3) := by decide +kernel
theorem dX11_clicksOf_56 : decode cX11_clicksOf 56 = .ok (.lconst 1, 1) := by decide +kernel
theorem dX11_clicksOf_57 : decode cX11_clicksOf 57 = .ok (.lstore_n 3, 1) := by decide +kernel
theorem dX11_clicksOf_58 : decode cX11_clicksOf 58 = .ok (.iload_n 2, 1) := by decide +kernel
theorem dX11_clicksOf_59 : decode cX11_clicksOf 59 = .ok (.istore 5, 2) := by decide +kernel
theorem dX11_clicksOf_61 : decode cX11_clicksOf 61 = .ok (.iconst 0, 1) := by decide +kernel
theorem dX11_clicksOf_62 : decode cX11_clicksOf 62 = .ok (.istore 6, 2) := by decide +kernel
theorem dX11_clicksOf_64 : decode cX11_clicksOf 64 = .ok (.iload 6, 2) := by decide +kernel
theorem dX11_clicksOf_66 : decode cX11_clicksOf 66 = .ok (.iconst 5, 1) := by decide +kernel
theorem dX11_clicksOf_67 : decode cX11_clicksOf 67 = .ok (.if_icmp .ge 87, 3) := by decide +kernel
theorem dX11_clicksOf_70 : decode cX11_clicksOf 70 = .ok (.iload_n 1, 1) := by decide +kernel
theorem dX11_clicksOf_71 : decode cX11_clicksOf 71 = .ok (.iload 6, 2) := by decide +kernel
theorem dX11_clicksOf_73 : decode cX11_clicksOf 73 = .ok (.ishr, 1) := by decide +kernel
theorem dX11_clicksOf_74 : decode cX11_clicksOf 74 = .ok (.iconst 1, 1) := by decide +kernel
theorem dX11_clicksOf_75 : decode cX11_clicksOf 75 = .ok (.iand, 1) := by decide +kernel
theorem dX11_clicksOf_76 : decode cX11_clicksOf 76 = .ok (.iconst 1, 1) := by decide +kernel
theorem dX11_clicksOf_77 : decode cX11_clicksOf 77 = .ok (.if_icmp .ne 7, 3) := by decide +kernel
theorem dX11_clicksOf_80 : decode cX11_clicksOf 80 = .ok (.iconst 1, 1) := by decide +kernel
theorem dX11_clicksOf_81 : decode cX11_clicksOf 81 = .ok (.goto 4, 3) := by decide +kernel
theorem dX11_clicksOf_84 : decode cX11_clicksOf 84 = .ok (.iconst 0, 1) := by decide +kernel
theorem dX11_clicksOf_85 : decode cX11_clicksOf 85 = .ok (.istore 7, 2) := by decide +kernel
theorem dX11_clicksOf_87 : decode cX11_clicksOf 87 = .ok (.iload 5, 2) := by decide +kernel
theorem dX11_clicksOf_89 : decode cX11_clicksOf 89 = .ok (.iconst 4, 1) := by decide +kernel
theorem dX11_clicksOf_90 : decode cX11_clicksOf 90 = .ok (.irem, 1) := by decide +kernel
theorem dX11_clicksOf_91 : decode cX11_clicksOf 91 = .ok (.ifCond .le 21, 3) := by decide +kernel
theorem dX11_clicksOf_94 : decode cX11_clicksOf 94 = .ok (.lload_n 3, 1) := by decide +kernel
theorem dX11_clicksOf_95 : decode cX11_clicksOf 95 = .ok (.iload 7, 2) := by decide +kernel
theorem dX11_clicksOf_97 : decode cX11_clicksOf 97 = .ok (.ifCond .eq 9, 3) := by decide +kernel
theorem dX11_clicksOf_100 : decode cX11_clicksOf 100 = .ok (.ldc2_w 341, 3) := by decide +kernel
theorem dX11_clicksOf_103 : decode cX11_clicksOf 103 = .ok (.goto 4, 3) := by decide +kernel
theorem dX11_clicksOf_106 : decode cX11_clicksOf 106 = .ok (.lconst 0, 1) := by decide +kernel
theorem dX11_clicksOf_107 : decode cX11_clicksOf 107 = .ok (.lmul, 1) := by decide +kernel
theorem dX11_clicksOf_108 : decode cX11_clicksOf 108 = .ok (.lstore_n 3, 1) := by decide +kernel
theorem dX11_clicksOf_109 : decode cX11_clicksOf 109 = .ok (.goto 33, 3) := by decide +kernel
theorem dX11_clicksOf_112 : decode cX11_clicksOf 112 = .ok (.lload_n 3, 1) := by decide +kernel
theorem dX11_clicksOf_113 : decode cX11_clicksOf 113 = .ok (.iload 7, 2) := by decide +kernel
theorem dX11_clicksOf_115 : decode cX11_clicksOf 115 = .ok (.ifCond .eq 14, 3) := by decide +kernel
theorem dX11_clicksOf_118 : decode cX11_clicksOf 118 = .ok (.aload_n 0, 1) := by decide +kernel
theorem dX11_clicksOf_119 : decode cX11_clicksOf 119 = .ok (.getfield 71, 3) := by decide +kernel
theorem dX11_clicksOf_122 : decode cX11_clicksOf 122 = .ok (.iload 6, 2) := by decide +kernel
theorem dX11_clicksOf_124 : decode cX11_clicksOf 124 = .ok (.iaload, 1) := by decide +kernel
theorem dX11_clicksOf_125 : decode cX11_clicksOf 125 = .ok (.i2l, 1) := by decide +kernel
theorem dX11_clicksOf_126 : decode cX11_clicksOf 126 = .ok (.goto 14, 3) := by decide +kernel
theorem dX11_clicksOf_129 : decode cX11_clicksOf 129 = .ok (.bipush 10, 2) := by decide +kernel
theorem dX11_clicksOf_131 : decode cX11_clicksOf 131 = .ok (.aload_n 0, 1) := by decide +kernel
theorem dX11_clicksOf_132 : decode cX11_clicksOf 132 = .ok (.getfield 71, 3) := by decide +kernel
theorem dX11_clicksOf_135 : decode cX11_clicksOf 135 = .ok (.iload 6, 2) := by decide +kernel
theorem dX11_clicksOf_137 : decode cX11_clicksOf 137 = .ok (.iaload, 1) := by decide +kernel
theorem dX11_clicksOf_138 : decode cX11_clicksOf 138 = .ok (.isub, 1) := by decide +kernel
theorem dX11_clicksOf_139 : decode cX11_clicksOf 139 = .ok (.i2l, 1) := by decide +kernel
theorem dX11_clicksOf_140 : decode cX11_clicksOf 140 = .ok (.lmul, 1) := by decide +kernel
theorem dX11_clicksOf_141 : decode cX11_clicksOf 141 = .ok (.lstore_n 3, 1) := by decide +kernel
theorem dX11_clicksOf_142 : decode cX11_clicksOf 142 = .ok (.iload 5, 2) := by decide +kernel
theorem dX11_clicksOf_144 : decode cX11_clicksOf 144 = .ok (.iconst 4, 1) := by decide +kernel
theorem dX11_clicksOf_145 : decode cX11_clicksOf 145 = .ok (.idiv, 1) := by decide +kernel
theorem dX11_clicksOf_146 : decode cX11_clicksOf 146 = .ok (.istore 5, 2) := by decide +kernel
theorem dX11_clicksOf_148 : decode cX11_clicksOf 148 = .ok (.iinc 6 1, 3) := by decide +kernel
theorem dX11_clicksOf_151 : decode cX11_clicksOf 151 = .ok (.goto (-87), 3) := by decide +kernel
theorem dX11_clicksOf_154 : decode cX11_clicksOf 154 = .ok (.aload_n 0, 1) := by decide +kernel
theorem dX11_clicksOf_155 : decode cX11_clicksOf 155 = .ok (.dup, 1) := by decide +kernel
theorem dX11_clicksOf_156 : decode cX11_clicksOf 156 = .ok (.getfield 330, 3) := by decide +kernel
theorem dX11_clicksOf_159 : decode cX11_clicksOf 159 = .ok (.lload_n 3, 1) := by decide +kernel
theorem dX11_clicksOf_160 : decode cX11_clicksOf 160 = .ok (.aload_n 0, 1) := by decide +kernel
theorem dX11_clicksOf_161 : decode cX11_clicksOf 161 = .ok (.getfield 59, 3) := by decide +kernel
theorem dX11_clicksOf_164 : decode cX11_clicksOf 164 = .ok (.iload_n 2, 1) := by decide +kernel
theorem dX11_clicksOf_165 : decode cX11_clicksOf 165 = .ok (.laload, 1) := by decide +kernel
theorem dX11_clicksOf_166 : decode cX11_clicksOf 166 = .ok (.lmul, 1) := by decide +kernel
theorem dX11_clicksOf_167 : decode cX11_clicksOf 167 = .ok (.ladd, 1) := by decide +kernel
theorem dX11_clicksOf_168 : decode cX11_clicksOf 168 = .ok (.putfield 330, 3) := by decide +kernel
theorem dX11_clicksOf_171 : decode cX11_clicksOf 171 = .ok (.aload_n 0, 1) := by decide +kernel
theorem dX11_clicksOf_172 : decode cX11_clicksOf 172 = .ok (.dup, 1) := by decide +kernel
theorem dX11_clicksOf_173 : decode cX11_clicksOf 173 = .ok (.getfield 333, 3) := by decide +kernel
theorem dX11_clicksOf_176 : decode cX11_clicksOf 176 = .ok (.lload_n 3, 1) := by decide +kernel
theorem dX11_clicksOf_177 : decode cX11_clicksOf 177 = .ok (.aload_n 0, 1) := by decide +kernel
theorem dX11_clicksOf_178 : decode cX11_clicksOf 178 = .ok (.getfield 62, 3) := by decide +kernel
theorem dX11_clicksOf_181 : decode cX11_clicksOf 181 = .ok (.iload_n 2, 1) := by decide +kernel
theorem dX11_clicksOf_182 : decode cX11_clicksOf 182 = .ok (.laload, 1) := by decide +kernel
theorem dX11_clicksOf_183 : decode cX11_clicksOf 183 = .ok (.lmul, 1) := by decide +kernel
theorem dX11_clicksOf_184 : decode cX11_clicksOf 184 = .ok (.ladd, 1) := by decide +kernel
theorem dX11_clicksOf_185 : decode cX11_clicksOf 185 = .ok (.putfield 333, 3) := by decide +kernel
theorem dX11_clicksOf_188 : decode cX11_clicksOf 188 = .ok (.iinc 2 1, 3) := by decide +kernel
theorem dX11_clicksOf_191 : decode cX11_clicksOf 191 = .ok (.goto (-167), 3) := by decide +kernel
theorem dX11_clicksOf_194 : decode cX11_clicksOf 194 = .ok (.return_, 1) := by decide +kernel
theorem dX11_clicks_0 : decode cX11_clicks 0 = .ok (.iload_n 3, 1) := by decide +kernel
theorem dX11_clicks_1 : decode cX11_clicks 1 = .ok (.iconst 0, 1) := by decide +kernel
theorem dX11_clicks_2 : decode cX11_clicks 2 = .ok (.iconst 2, 1) := by decide +kernel
theorem dX11_clicks_3 : decode cX11_clicks 3 = .ok (.invokestatic 104, 3) := by decide +kernel
theorem dX11_clicks_6 : decode cX11_clicks 6 = .ok (.ifCond .ne 7, 3) := by decide +kernel
theorem dX11_clicks_9 : decode cX11_clicks 9 = .ok (.ldc2_w 245, 3) := by decide +kernel
theorem dX11_clicks_12 : decode cX11_clicks 12 = .ok (.lreturn, 1) := by decide +kernel
theorem dX11_clicks_13 : decode cX11_clicks 13 = .ok (.iload_n 1, 1) := by decide +kernel
theorem dX11_clicks_14 : decode cX11_clicks 14 = .ok (.iconst 0, 1) := by decide +kernel
theorem dX11_clicks_15 : decode cX11_clicks 15 = .ok (.iconst 3, 1) := by decide +kernel
theorem dX11_clicks_16 : decode cX11_clicks 16 = .ok (.invokestatic 104, 3) := by decide +kernel
theorem dX11_clicks_19 : decode cX11_clicks 19 = .ok (.ifCond .eq 21, 3) := by decide +kernel
theorem dX11_clicks_22 : decode cX11_clicks 22 = .ok (.iload_n 2, 1) := by decide +kernel
theorem dX11_clicks_23 : decode cX11_clicks 23 = .ok (.iconst 0, 1) := by decide +kernel
theorem dX11_clicks_24 : decode cX11_clicks 24 = .ok (.bipush 31, 2) := by decide +kernel
theorem dX11_clicks_26 : decode cX11_clicks 26 = .ok (.invokestatic 104, 3) := by decide +kernel
theorem dX11_clicks_29 : decode cX11_clicks 29 = .ok (.ifCond .eq 11, 3) := by decide +kernel
theorem dX11_clicks_32 : decode cX11_clicks 32 = .ok (.aload_n 0, 1) := by decide +kernel
theorem dX11_clicks_33 : decode cX11_clicks 33 = .ok (.iload_n 1, 1) := by decide +kernel
theorem dX11_clicks_34 : decode cX11_clicks 34 = .ok (.invokevirtual 319, 3) := by decide +kernel
theorem dX11_clicks_37 : decode cX11_clicks 37 = .ok (.ifCond .ne 16, 3) := by decide +kernel
theorem dX11_clicks_40 : decode cX11_clicks 40 = .ok (.iload_n 3, 1) := by decide +kernel
theorem dX11_clicks_41 : decode cX11_clicks 41 = .ok (.iconst 2, 1) := by decide +kernel
theorem dX11_clicks_42 : decode cX11_clicks 42 = .ok (.if_icmp .ne 9, 3) := by decide +kernel
theorem dX11_clicks_45 : decode cX11_clicks 45 = .ok (.ldc2_w 245, 3) := by decide +kernel
theorem dX11_clicks_48 : decode cX11_clicks 48 = .ok (.goto 4, 3) := by decide +kernel
theorem dX11_clicks_51 : decode cX11_clicks 51 = .ok (.lconst 0, 1) := by decide +kernel
theorem dX11_clicks_52 : decode cX11_clicks 52 = .ok (.lreturn, 1) := by decide +kernel
theorem dX11_clicks_53 : decode cX11_clicks 53 = .ok (.aload_n 0, 1) := by decide +kernel
theorem dX11_clicks_54 : decode cX11_clicks 54 = .ok (.iload_n 2, 1) := by decide +kernel
theorem dX11_clicks_55 : decode cX11_clicks 55 = .ok (.invokevirtual 343, 3) := by decide +kernel
theorem dX11_clicks_58 : decode cX11_clicks 58 = .ok (.aload_n 0, 1) := by decide +kernel
theorem dX11_clicks_59 : decode cX11_clicks 59 = .ok (.getfield 330, 3) := by decide +kernel
theorem dX11_clicks_62 : decode cX11_clicks 62 = .ok (.aload_n 0, 1) := by decide +kernel
theorem dX11_clicks_63 : decode cX11_clicks 63 = .ok (.getfield 333, 3) := by decide +kernel
theorem dX11_clicks_66 : decode cX11_clicks 66 = .ok (.aload_n 0, 1) := by decide +kernel
theorem dX11_clicks_67 : decode cX11_clicks 67 = .ok (.getfield 338, 3) := by decide +kernel
theorem dX11_clicks_70 : decode cX11_clicks 70 = .ok (.iload_n 3, 1) := by decide +kernel
theorem dX11_clicks_71 : decode cX11_clicks 71 = .ok (.invokestatic 326, 3) := by decide +kernel
theorem dX11_clicks_74 : decode cX11_clicks 74 = .ok (.lreturn, 1) := by decide +kernel
theorem dX11_run_0 : decode cX11_run 0 = .ok (.iload_n 2, 1) := by decide +kernel
theorem dX11_run_1 : decode cX11_run 1 = .ok (.iconst 0, 1) := by decide +kernel
theorem dX11_run_2 : decode cX11_run 2 = .ok (.bipush 31, 2) := by decide +kernel
theorem dX11_run_4 : decode cX11_run 4 = .ok (.invokestatic 104, 3) := by decide +kernel
theorem dX11_run_7 : decode cX11_run 7 = .ok (.ifCond .eq 14, 3) := by decide +kernel
theorem dX11_run_10 : decode cX11_run 10 = .ok (.iload_n 3, 1) := by decide +kernel
theorem dX11_run_11 : decode cX11_run 11 = .ok (.iconst 0, 1) := by decide +kernel
theorem dX11_run_12 : decode cX11_run 12 = .ok (.sipush 999, 3) := by decide +kernel
theorem dX11_run_15 : decode cX11_run 15 = .ok (.invokestatic 104, 3) := by decide +kernel
theorem dX11_run_18 : decode cX11_run 18 = .ok (.ifCond .ne 9, 3) := by decide +kernel
theorem dX11_run_21 : decode cX11_run 21 = .ok (.aload_n 0, 1) := by decide +kernel
theorem dX11_run_22 : decode cX11_run 22 = .ok (.iconst (-1), 1) := by decide +kernel
theorem dX11_run_23 : decode cX11_run 23 = .ok (.invokevirtual 108, 3) := by decide +kernel
theorem dX11_run_26 : decode cX11_run 26 = .ok (.ireturn, 1) := by decide +kernel
theorem dX11_run_27 : decode cX11_run 27 = .ok (.iload_n 1, 1) := by decide +kernel
theorem dX11_run_28 : decode cX11_run 28 = .ok (.iconst 0, 1) := by decide +kernel
theorem dX11_run_29 : decode cX11_run 29 = .ok (.iconst 3, 1) := by decide +kernel
theorem dX11_run_30 : decode cX11_run 30 = .ok (.invokestatic 104, 3) := by decide +kernel
theorem dX11_run_33 : decode cX11_run 33 = .ok (.ifCond .ne 10, 3) := by decide +kernel
theorem dX11_run_36 : decode cX11_run 36 = .ok (.aload_n 0, 1) := by decide +kernel
theorem dX11_run_37 : decode cX11_run 37 = .ok (.bipush (-2), 2) := by decide +kernel
theorem dX11_run_39 : decode cX11_run 39 = .ok (.invokevirtual 108, 3) := by decide +kernel
theorem dX11_run_42 : decode cX11_run 42 = .ok (.ireturn, 1) := by decide +kernel
theorem dX11_run_43 : decode cX11_run 43 = .ok (.aload_n 0, 1) := by decide +kernel
theorem dX11_run_44 : decode cX11_run 44 = .ok (.getfield 346, 3) := by decide +kernel
theorem dX11_run_47 : decode cX11_run 47 = .ok (.sipush 200, 3) := by decide +kernel
theorem dX11_run_50 : decode cX11_run 50 = .ok (.if_icmp .ne 10, 3) := by decide +kernel
theorem dX11_run_53 : decode cX11_run 53 = .ok (.aload_n 0, 1) := by decide +kernel
theorem dX11_run_54 : decode cX11_run 54 = .ok (.bipush (-5), 2) := by decide +kernel
theorem dX11_run_56 : decode cX11_run 56 = .ok (.invokevirtual 108, 3) := by decide +kernel
theorem dX11_run_59 : decode cX11_run 59 = .ok (.ireturn, 1) := by decide +kernel
theorem dX11_run_60 : decode cX11_run 60 = .ok (.aload_n 0, 1) := by decide +kernel
theorem dX11_run_61 : decode cX11_run 61 = .ok (.getfield 74, 3) := by decide +kernel
theorem dX11_run_64 : decode cX11_run 64 = .ok (.aload_n 0, 1) := by decide +kernel
theorem dX11_run_65 : decode cX11_run 65 = .ok (.getfield 346, 3) := by decide +kernel
theorem dX11_run_68 : decode cX11_run 68 = .ok (.iload_n 1, 1) := by decide +kernel
theorem dX11_run_69 : decode cX11_run 69 = .ok (.iastore, 1) := by decide +kernel
theorem dX11_run_70 : decode cX11_run 70 = .ok (.aload_n 0, 1) := by decide +kernel
theorem dX11_run_71 : decode cX11_run 71 = .ok (.getfield 77, 3) := by decide +kernel
theorem dX11_run_74 : decode cX11_run 74 = .ok (.aload_n 0, 1) := by decide +kernel
theorem dX11_run_75 : decode cX11_run 75 = .ok (.getfield 346, 3) := by decide +kernel
theorem dX11_run_78 : decode cX11_run 78 = .ok (.iload_n 2, 1) := by decide +kernel
theorem dX11_run_79 : decode cX11_run 79 = .ok (.iastore, 1) := by decide +kernel
theorem dX11_run_80 : decode cX11_run 80 = .ok (.aload_n 0, 1) := by decide +kernel
theorem dX11_run_81 : decode cX11_run 81 = .ok (.getfield 80, 3) := by decide +kernel
theorem dX11_run_84 : decode cX11_run 84 = .ok (.aload_n 0, 1) := by decide +kernel
theorem dX11_run_85 : decode cX11_run 85 = .ok (.getfield 346, 3) := by decide +kernel
theorem dX11_run_88 : decode cX11_run 88 = .ok (.iload_n 3, 1) := by decide +kernel
theorem dX11_run_89 : decode cX11_run 89 = .ok (.iastore, 1) := by decide +kernel
theorem dX11_run_90 : decode cX11_run 90 = .ok (.aload_n 0, 1) := by decide +kernel
theorem dX11_run_91 : decode cX11_run 91 = .ok (.dup, 1) := by decide +kernel
theorem dX11_run_92 : decode cX11_run 92 = .ok (.getfield 346, 3) := by decide +kernel
theorem dX11_run_95 : decode cX11_run 95 = .ok (.iconst 1, 1) := by decide +kernel
theorem dX11_run_96 : decode cX11_run 96 = .ok (.iadd, 1) := by decide +kernel
theorem dX11_run_97 : decode cX11_run 97 = .ok (.putfield 346, 3) := by decide +kernel
theorem dX11_run_100 : decode cX11_run 100 = .ok (.aload_n 0, 1) := by decide +kernel
theorem dX11_run_101 : decode cX11_run 101 = .ok (.aload_n 0, 1) := by decide +kernel
theorem dX11_run_102 : decode cX11_run 102 = .ok (.getfield 346, 3) := by decide +kernel
theorem dX11_run_105 : decode cX11_run 105 = .ok (.invokevirtual 108, 3) := by decide +kernel
theorem dX11_run_108 : decode cX11_run 108 = .ok (.ireturn, 1) := by decide +kernel
theorem dX11_countedOf_0 : decode cX11_countedOf 0 = .ok (.iconst 0, 1) := by decide +kernel
theorem dX11_countedOf_1 : decode cX11_countedOf 1 = .ok (.istore 4, 2) := by decide +kernel
theorem dX11_countedOf_3 : decode cX11_countedOf 3 = .ok (.iconst 0, 1) := by decide +kernel
theorem dX11_countedOf_4 : decode cX11_countedOf 4 = .ok (.istore 5, 2) := by decide +kernel
theorem dX11_countedOf_6 : decode cX11_countedOf 6 = .ok (.iload 5, 2) := by decide +kernel
theorem dX11_countedOf_8 : decode cX11_countedOf 8 = .ok (.aload_n 0, 1) := by decide +kernel
theorem dX11_countedOf_9 : decode cX11_countedOf 9 = .ok (.getfield 346, 3) := by decide +kernel
theorem dX11_countedOf_12 : decode cX11_countedOf 12 = .ok (.if_icmp .ge 57, 3) := by decide +kernel
theorem dX11_countedOf_15 : decode cX11_countedOf 15 = .ok (.iload 4, 2) := by decide +kernel
theorem dX11_countedOf_17 : decode cX11_countedOf 17 = .ok (.aload_n 0, 1) := by decide +kernel
theorem dX11_countedOf_18 : decode cX11_countedOf 18 = .ok (.getfield 74, 3) := by decide +kernel
theorem dX11_countedOf_21 : decode cX11_countedOf 21 = .ok (.iload 5, 2) := by decide +kernel
theorem dX11_countedOf_23 : decode cX11_countedOf 23 = .ok (.iaload, 1) := by decide +kernel
theorem dX11_countedOf_24 : decode cX11_countedOf 24 = .ok (.iload_n 1, 1) := by decide +kernel
theorem dX11_countedOf_25 : decode cX11_countedOf 25 = .ok (.if_icmp .ne 34, 3) := by decide +kernel
theorem dX11_countedOf_28 : decode cX11_countedOf 28 = .ok (.aload_n 0, 1) := by decide +kernel
theorem dX11_countedOf_29 : decode cX11_countedOf 29 = .ok (.getfield 80, 3) := by decide +kernel
theorem dX11_countedOf_32 : decode cX11_countedOf 32 = .ok (.iload 5, 2) := by decide +kernel
theorem dX11_countedOf_34 : decode cX11_countedOf 34 = .ok (.iaload, 1) := by decide +kernel
theorem dX11_countedOf_35 : decode cX11_countedOf 35 = .ok (.iload_n 3, 1) := by decide +kernel
theorem dX11_countedOf_36 : decode cX11_countedOf 36 = .ok (.if_icmp .gt 23, 3) := by decide +kernel
theorem dX11_countedOf_39 : decode cX11_countedOf 39 = .ok (.iload_n 2, 1) := by decide +kernel
theorem dX11_countedOf_40 : decode cX11_countedOf 40 = .ok (.iconst (-1), 1) := by decide +kernel
theorem dX11_countedOf_41 : decode cX11_countedOf 41 = .ok (.if_icmp .eq 14, 3) := by decide +kernel
theorem dX11_countedOf_44 : decode cX11_countedOf 44 = .ok (.aload_n 0, 1) := by decide +kernel
theorem dX11_countedOf_45 : decode cX11_countedOf 45 = .ok (.getfield 77, 3) := by decide +kernel
theorem dX11_countedOf_48 : decode cX11_countedOf 48 = .ok (.iload 5, 2) := by decide +kernel
theorem dX11_countedOf_50 : decode cX11_countedOf 50 = .ok (.iaload, 1) := by decide +kernel
theorem dX11_countedOf_51 : decode cX11_countedOf 51 = .ok (.iload_n 2, 1) := by decide +kernel
theorem dX11_countedOf_52 : decode cX11_countedOf 52 = .ok (.if_icmp .ne 7, 3) := by decide +kernel
theorem dX11_countedOf_55 : decode cX11_countedOf 55 = .ok (.iconst 1, 1) := by decide +kernel
theorem dX11_countedOf_56 : decode cX11_countedOf 56 = .ok (.goto 4, 3) := by decide +kernel
theorem dX11_countedOf_59 : decode cX11_countedOf 59 = .ok (.iconst 0, 1) := by decide +kernel
theorem dX11_countedOf_60 : decode cX11_countedOf 60 = .ok (.iadd, 1) := by decide +kernel
theorem dX11_countedOf_61 : decode cX11_countedOf 61 = .ok (.istore 4, 2) := by decide +kernel
theorem dX11_countedOf_63 : decode cX11_countedOf 63 = .ok (.iinc 5 1, 3) := by decide +kernel
theorem dX11_countedOf_66 : decode cX11_countedOf 66 = .ok (.goto (-60), 3) := by decide +kernel
theorem dX11_countedOf_69 : decode cX11_countedOf 69 = .ok (.iload 4, 2) := by decide +kernel
theorem dX11_countedOf_71 : decode cX11_countedOf 71 = .ok (.ireturn, 1) := by decide +kernel
theorem dX11_counted_0 : decode cX11_counted 0 = .ok (.iload_n 1, 1) := by decide +kernel
theorem dX11_counted_1 : decode cX11_counted 1 = .ok (.iconst 0, 1) := by decide +kernel
theorem dX11_counted_2 : decode cX11_counted 2 = .ok (.iconst 3, 1) := by decide +kernel
theorem dX11_counted_3 : decode cX11_counted 3 = .ok (.invokestatic 104, 3) := by decide +kernel
theorem dX11_counted_6 : decode cX11_counted 6 = .ok (.ifCond .eq 34, 3) := by decide +kernel
theorem dX11_counted_9 : decode cX11_counted 9 = .ok (.iload_n 2, 1) := by decide +kernel
theorem dX11_counted_10 : decode cX11_counted 10 = .ok (.iconst (-1), 1) := by decide +kernel
theorem dX11_counted_11 : decode cX11_counted 11 = .ok (.bipush 31, 2) := by decide +kernel
theorem dX11_counted_13 : decode cX11_counted 13 = .ok (.invokestatic 104, 3) := by decide +kernel
theorem dX11_counted_16 : decode cX11_counted 16 = .ok (.ifCond .eq 24, 3) := by decide +kernel
theorem dX11_counted_19 : decode cX11_counted 19 = .ok (.iload_n 3, 1) := by decide +kernel
theorem dX11_counted_20 : decode cX11_counted 20 = .ok (.iconst 0, 1) := by decide +kernel
theorem dX11_counted_21 : decode cX11_counted 21 = .ok (.sipush 999, 3) := by decide +kernel
theorem dX11_counted_24 : decode cX11_counted 24 = .ok (.invokestatic 104, 3) := by decide +kernel
theorem dX11_counted_27 : decode cX11_counted 27 = .ok (.ifCond .eq 13, 3) := by decide +kernel
theorem dX11_counted_30 : decode cX11_counted 30 = .ok (.aload_n 0, 1) := by decide +kernel
theorem dX11_counted_31 : decode cX11_counted 31 = .ok (.iload_n 1, 1) := by decide +kernel
theorem dX11_counted_32 : decode cX11_counted 32 = .ok (.iload_n 2, 1) := by decide +kernel
theorem dX11_counted_33 : decode cX11_counted 33 = .ok (.iload_n 3, 1) := by decide +kernel
theorem dX11_counted_34 : decode cX11_counted 34 = .ok (.invokevirtual 348, 3) := by decide +kernel
theorem dX11_counted_37 : decode cX11_counted 37 = .ok (.goto 4, 3) := by decide +kernel
theorem dX11_counted_40 : decode cX11_counted 40 = .ok (.iconst (-1), 1) := by decide +kernel
theorem dX11_counted_41 : decode cX11_counted 41 = .ok (.ireturn, 1) := by decide +kernel
theorem dX11_wrong_0 : decode cX11_wrong 0 = .ok (.iload_n 1, 1) := by decide +kernel
theorem dX11_wrong_1 : decode cX11_wrong 1 = .ok (.iconst 0, 1) := by decide +kernel
theorem dX11_wrong_2 : decode cX11_wrong 2 = .ok (.iconst 3, 1) := by decide +kernel
theorem dX11_wrong_3 : decode cX11_wrong 3 = .ok (.invokestatic 104, 3) := by decide +kernel
theorem dX11_wrong_6 : decode cX11_wrong 6 = .ok (.ifCond .eq 22, 3) := by decide +kernel
theorem dX11_wrong_9 : decode cX11_wrong 9 = .ok (.iload_n 2, 1) := by decide +kernel
theorem dX11_wrong_10 : decode cX11_wrong 10 = .ok (.iconst 0, 1) := by decide +kernel
theorem dX11_wrong_11 : decode cX11_wrong 11 = .ok (.sipush 999, 3) := by decide +kernel
theorem dX11_wrong_14 : decode cX11_wrong 14 = .ok (.invokestatic 104, 3) := by decide +kernel
theorem dX11_wrong_17 : decode cX11_wrong 17 = .ok (.ifCond .eq 11, 3) := by decide +kernel
theorem dX11_wrong_20 : decode cX11_wrong 20 = .ok (.aload_n 0, 1) := by decide +kernel
theorem dX11_wrong_21 : decode cX11_wrong 21 = .ok (.iload_n 1, 1) := by decide +kernel
theorem dX11_wrong_22 : decode cX11_wrong 22 = .ok (.invokevirtual 319, 3) := by decide +kernel
theorem dX11_wrong_25 : decode cX11_wrong 25 = .ok (.ifCond .ne 5, 3) := by decide +kernel
theorem dX11_wrong_28 : decode cX11_wrong 28 = .ok (.iconst (-1), 1) := by decide +kernel
theorem dX11_wrong_29 : decode cX11_wrong 29 = .ok (.ireturn, 1) := by decide +kernel
theorem dX11_wrong_30 : decode cX11_wrong 30 = .ok (.iconst 0, 1) := by decide +kernel
theorem dX11_wrong_31 : decode cX11_wrong 31 = .ok (.istore_n 3, 1) := by decide +kernel
theorem dX11_wrong_32 : decode cX11_wrong 32 = .ok (.iconst 0, 1) := by decide +kernel
theorem dX11_wrong_33 : decode cX11_wrong 33 = .ok (.istore 4, 2) := by decide +kernel
theorem dX11_wrong_35 : decode cX11_wrong 35 = .ok (.iload 4, 2) := by decide +kernel
theorem dX11_wrong_37 : decode cX11_wrong 37 = .ok (.bipush 32, 2) := by decide +kernel
theorem dX11_wrong_39 : decode cX11_wrong 39 = .ok (.if_icmp .ge 44, 3) := by decide +kernel
theorem dX11_wrong_42 : decode cX11_wrong 42 = .ok (.aload_n 0, 1) := by decide +kernel
theorem dX11_wrong_43 : decode cX11_wrong 43 = .ok (.iload 4, 2) := by decide +kernel
theorem dX11_wrong_45 : decode cX11_wrong 45 = .ok (.invokevirtual 343, 3) := by decide +kernel
theorem dX11_wrong_48 : decode cX11_wrong 48 = .ok (.aload_n 0, 1) := by decide +kernel
theorem dX11_wrong_49 : decode cX11_wrong 49 = .ok (.getfield 330, 3) := by decide +kernel
theorem dX11_wrong_52 : decode cX11_wrong 52 = .ok (.lconst 0, 1) := by decide +kernel
theorem dX11_wrong_53 : decode cX11_wrong 53 = .ok (.lcmp, 1) := by decide +kernel
theorem dX11_wrong_54 : decode cX11_wrong 54 = .ok (.ifCond .ne 23, 3) := by decide +kernel
theorem dX11_wrong_57 : decode cX11_wrong 57 = .ok (.aload_n 0, 1) := by decide +kernel
theorem dX11_wrong_58 : decode cX11_wrong 58 = .ok (.getfield 333, 3) := by decide +kernel
theorem dX11_wrong_61 : decode cX11_wrong 61 = .ok (.lconst 0, 1) := by decide +kernel
theorem dX11_wrong_62 : decode cX11_wrong 62 = .ok (.lcmp, 1) := by decide +kernel
theorem dX11_wrong_63 : decode cX11_wrong 63 = .ok (.ifCond .ne 14, 3) := by decide +kernel
theorem dX11_wrong_66 : decode cX11_wrong 66 = .ok (.iload_n 3, 1) := by decide +kernel
theorem dX11_wrong_67 : decode cX11_wrong 67 = .ok (.aload_n 0, 1) := by decide +kernel
theorem dX11_wrong_68 : decode cX11_wrong 68 = .ok (.iload_n 1, 1) := by decide +kernel
theorem dX11_wrong_69 : decode cX11_wrong 69 = .ok (.iload 4, 2) := by decide +kernel
theorem dX11_wrong_71 : decode cX11_wrong 71 = .ok (.iload_n 2, 1) := by decide +kernel
theorem dX11_wrong_72 : decode cX11_wrong 72 = .ok (.invokevirtual 348, 3) := by decide +kernel
theorem dX11_wrong_75 : decode cX11_wrong 75 = .ok (.iadd, 1) := by decide +kernel
theorem dX11_wrong_76 : decode cX11_wrong 76 = .ok (.istore_n 3, 1) := by decide +kernel
theorem dX11_wrong_77 : decode cX11_wrong 77 = .ok (.iinc 4 1, 3) := by decide +kernel
theorem dX11_wrong_80 : decode cX11_wrong 80 = .ok (.goto (-45), 3) := by decide +kernel
theorem dX11_wrong_83 : decode cX11_wrong 83 = .ok (.iload_n 3, 1) := by decide +kernel
theorem dX11_wrong_84 : decode cX11_wrong 84 = .ok (.ireturn, 1) := by decide +kernel
theorem dX11_thousandths_0 : decode cX11_thousandths 0 = .ok (.lload_n 0, 1) := by decide +kernel
theorem dX11_thousandths_1 : decode cX11_thousandths 1 = .ok (.lstore 4, 2) := by decide +kernel
theorem dX11_thousandths_3 : decode cX11_thousandths 3 = .ok (.lload 4, 2) := by decide +kernel
theorem dX11_thousandths_5 : decode cX11_thousandths 5 = .ok (.lload_n 2, 1) := by decide +kernel
theorem dX11_thousandths_6 : decode cX11_thousandths 6 = .ok (.ldiv, 1) := by decide +kernel
theorem dX11_thousandths_7 : decode cX11_thousandths 7 = .ok (.lstore 6, 2) := by decide +kernel
theorem dX11_thousandths_9 : decode cX11_thousandths 9 = .ok (.lload 4, 2) := by decide +kernel
theorem dX11_thousandths_11 : decode cX11_thousandths 11 = .ok (.lload_n 2, 1) := by decide +kernel
theorem dX11_thousandths_12 : decode cX11_thousandths 12 = .ok (.lrem, 1) := by decide +kernel
theorem dX11_thousandths_13 : decode cX11_thousandths 13 = .ok (.lstore 4, 2) := by decide +kernel
theorem dX11_thousandths_15 : decode cX11_thousandths 15 = .ok (.iconst 0, 1) := by decide +kernel
theorem dX11_thousandths_16 : decode cX11_thousandths 16 = .ok (.istore 8, 2) := by decide +kernel
theorem dX11_thousandths_18 : decode cX11_thousandths 18 = .ok (.iload 8, 2) := by decide +kernel
theorem dX11_thousandths_20 : decode cX11_thousandths 20 = .ok (.iconst 3, 1) := by decide +kernel
theorem dX11_thousandths_21 : decode cX11_thousandths 21 = .ok (.if_icmp .ge 36, 3) := by decide +kernel
theorem dX11_thousandths_24 : decode cX11_thousandths 24 = .ok (.lload 4, 2) := by decide +kernel
theorem dX11_thousandths_26 : decode cX11_thousandths 26 = .ok (.ldc2_w 341, 3) := by decide +kernel
theorem dX11_thousandths_29 : decode cX11_thousandths 29 = .ok (.lmul, 1) := by decide +kernel
theorem dX11_thousandths_30 : decode cX11_thousandths 30 = .ok (.lstore 4, 2) := by decide +kernel
theorem dX11_thousandths_32 : decode cX11_thousandths 32 = .ok (.ldc2_w 341, 3) := by decide +kernel
theorem dX11_thousandths_35 : decode cX11_thousandths 35 = .ok (.lload 6, 2) := by decide +kernel
theorem dX11_thousandths_37 : decode cX11_thousandths 37 = .ok (.lmul, 1) := by decide +kernel
theorem dX11_thousandths_38 : decode cX11_thousandths 38 = .ok (.lload 4, 2) := by decide +kernel
theorem dX11_thousandths_40 : decode cX11_thousandths 40 = .ok (.lload_n 2, 1) := by decide +kernel
theorem dX11_thousandths_41 : decode cX11_thousandths 41 = .ok (.ldiv, 1) := by decide +kernel
theorem dX11_thousandths_42 : decode cX11_thousandths 42 = .ok (.ladd, 1) := by decide +kernel
theorem dX11_thousandths_43 : decode cX11_thousandths 43 = .ok (.lstore 6, 2) := by decide +kernel
theorem dX11_thousandths_45 : decode cX11_thousandths 45 = .ok (.lload 4, 2) := by decide +kernel
theorem dX11_thousandths_47 : decode cX11_thousandths 47 = .ok (.lload_n 2, 1) := by decide +kernel
theorem dX11_thousandths_48 : decode cX11_thousandths 48 = .ok (.lrem, 1) := by decide +kernel
theorem dX11_thousandths_49 : decode cX11_thousandths 49 = .ok (.lstore 4, 2) := by decide +kernel
theorem dX11_thousandths_51 : decode cX11_thousandths 51 = .ok (.iinc 8 1, 3) := by decide +kernel
theorem dX11_thousandths_54 : decode cX11_thousandths 54 = .ok (.goto (-36), 3) := by decide +kernel
theorem dX11_thousandths_57 : decode cX11_thousandths 57 = .ok (.lload 6, 2) := by decide +kernel
theorem dX11_thousandths_59 : decode cX11_thousandths 59 = .ok (.l2i, 1) := by decide +kernel
theorem dX11_thousandths_60 : decode cX11_thousandths 60 = .ok (.ireturn, 1) := by decide +kernel
theorem dX11_misfit_0 : decode cX11_misfit 0 = .ok (.iload_n 1, 1) := by decide +kernel
theorem dX11_misfit_1 : decode cX11_misfit 1 = .ok (.iconst 0, 1) := by decide +kernel
theorem dX11_misfit_2 : decode cX11_misfit 2 = .ok (.iconst 3, 1) := by decide +kernel
theorem dX11_misfit_3 : decode cX11_misfit 3 = .ok (.invokestatic 104, 3) := by decide +kernel
theorem dX11_misfit_6 : decode cX11_misfit 6 = .ok (.ifCond .eq 22, 3) := by decide +kernel
theorem dX11_misfit_9 : decode cX11_misfit 9 = .ok (.iload_n 2, 1) := by decide +kernel
theorem dX11_misfit_10 : decode cX11_misfit 10 = .ok (.iconst 0, 1) := by decide +kernel
theorem dX11_misfit_11 : decode cX11_misfit 11 = .ok (.sipush 999, 3) := by decide +kernel
theorem dX11_misfit_14 : decode cX11_misfit 14 = .ok (.invokestatic 104, 3) := by decide +kernel
theorem dX11_misfit_17 : decode cX11_misfit 17 = .ok (.ifCond .eq 11, 3) := by decide +kernel
theorem dX11_misfit_20 : decode cX11_misfit 20 = .ok (.aload_n 0, 1) := by decide +kernel
theorem dX11_misfit_21 : decode cX11_misfit 21 = .ok (.iload_n 1, 1) := by decide +kernel
theorem dX11_misfit_22 : decode cX11_misfit 22 = .ok (.invokevirtual 319, 3) := by decide +kernel
theorem dX11_misfit_25 : decode cX11_misfit 25 = .ok (.ifCond .ne 5, 3) := by decide +kernel
theorem dX11_misfit_28 : decode cX11_misfit 28 = .ok (.iconst (-1), 1) := by decide +kernel
theorem dX11_misfit_29 : decode cX11_misfit 29 = .ok (.ireturn, 1) := by decide +kernel
theorem dX11_misfit_30 : decode cX11_misfit 30 = .ok (.aload_n 0, 1) := by decide +kernel
theorem dX11_misfit_31 : decode cX11_misfit 31 = .ok (.iload_n 1, 1) := by decide +kernel
theorem dX11_misfit_32 : decode cX11_misfit 32 = .ok (.iconst (-1), 1) := by decide +kernel
theorem dX11_misfit_33 : decode cX11_misfit 33 = .ok (.iload_n 2, 1) := by decide +kernel
theorem dX11_misfit_34 : decode cX11_misfit 34 = .ok (.invokevirtual 348, 3) := by decide +kernel
theorem dX11_misfit_37 : decode cX11_misfit 37 = .ok (.istore_n 3, 1) := by decide +kernel
theorem dX11_misfit_38 : decode cX11_misfit 38 = .ok (.iload_n 3, 1) := by decide +kernel
theorem dX11_misfit_39 : decode cX11_misfit 39 = .ok (.ifCond .ne 5, 3) := by decide +kernel
theorem dX11_misfit_42 : decode cX11_misfit 42 = .ok (.iconst (-1), 1) := by decide +kernel
theorem dX11_misfit_43 : decode cX11_misfit 43 = .ok (.ireturn, 1) := by decide +kernel
theorem dX11_misfit_44 : decode cX11_misfit 44 = .ok (.iconst 0, 1) := by decide +kernel
theorem dX11_misfit_45 : decode cX11_misfit 45 = .ok (.istore 4, 2) := by decide +kernel
theorem dX11_misfit_47 : decode cX11_misfit 47 = .ok (.iconst 0, 1) := by decide +kernel
theorem dX11_misfit_48 : decode cX11_misfit 48 = .ok (.istore 5, 2) := by decide +kernel
theorem dX11_misfit_50 : decode cX11_misfit 50 = .ok (.iload 5, 2) := by decide +kernel
theorem dX11_misfit_52 : decode cX11_misfit 52 = .ok (.bipush 32, 2) := by decide +kernel
theorem dX11_misfit_54 : decode cX11_misfit 54 = .ok (.if_icmp .ge 141, 3) := by decide +kernel
theorem dX11_misfit_57 : decode cX11_misfit 57 = .ok (.aload_n 0, 1) := by decide +kernel
theorem dX11_misfit_58 : decode cX11_misfit 58 = .ok (.iload 5, 2) := by decide +kernel
theorem dX11_misfit_60 : decode cX11_misfit 60 = .ok (.invokevirtual 343, 3) := by decide +kernel
theorem dX11_misfit_63 : decode cX11_misfit 63 = .ok (.aload_n 0, 1) := by decide +kernel
theorem dX11_misfit_64 : decode cX11_misfit 64 = .ok (.getfield 330, 3) := by decide +kernel
theorem dX11_misfit_67 : decode cX11_misfit 67 = .ok (.aload_n 0, 1) := by decide +kernel
theorem dX11_misfit_68 : decode cX11_misfit 68 = .ok (.getfield 333, 3) := by decide +kernel
theorem dX11_misfit_71 : decode cX11_misfit 71 = .ok (.aload_n 0, 1) := by decide +kernel
theorem dX11_misfit_72 : decode cX11_misfit 72 = .ok (.getfield 338, 3) := by decide +kernel
theorem dX11_misfit_75 : decode cX11_misfit 75 = .ok (.iconst 0, 1) := by decide +kernel
theorem dX11_misfit_76 : decode cX11_misfit 76 = .ok (.invokestatic 326, 3) := by decide +kernel
theorem dX11_misfit_79 : decode cX11_misfit 79 = .ok (.lstore 6, 2) := by decide +kernel
theorem dX11_misfit_81 : decode cX11_misfit 81 = .ok (.aload_n 0, 1) := by decide +kernel
theorem dX11_misfit_82 : decode cX11_misfit 82 = .ok (.getfield 330, 3) := by decide +kernel
theorem dX11_misfit_85 : decode cX11_misfit 85 = .ok (.aload_n 0, 1) := by decide +kernel
theorem dX11_misfit_86 : decode cX11_misfit 86 = .ok (.getfield 333, 3) := by decide +kernel
theorem dX11_misfit_89 : decode cX11_misfit 89 = .ok (.aload_n 0, 1) := by decide +kernel
theorem dX11_misfit_90 : decode cX11_misfit 90 = .ok (.getfield 338, 3) := by decide +kernel
theorem dX11_misfit_93 : decode cX11_misfit 93 = .ok (.iconst 1, 1) := by decide +kernel
theorem dX11_misfit_94 : decode cX11_misfit 94 = .ok (.invokestatic 326, 3) := by decide +kernel
theorem dX11_misfit_97 : decode cX11_misfit 97 = .ok (.lstore 8, 2) := by decide +kernel
theorem dX11_misfit_99 : decode cX11_misfit 99 = .ok (.aload_n 0, 1) := by decide +kernel
theorem dX11_misfit_100 : decode cX11_misfit 100 = .ok (.getfield 330, 3) := by decide +kernel
theorem dX11_misfit_103 : decode cX11_misfit 103 = .ok (.aload_n 0, 1) := by decide +kernel
theorem dX11_misfit_104 : decode cX11_misfit 104 = .ok (.getfield 333, 3) := by decide +kernel
theorem dX11_misfit_107 : decode cX11_misfit 107 = .ok (.aload_n 0, 1) := by decide +kernel
theorem dX11_misfit_108 : decode cX11_misfit 108 = .ok (.getfield 338, 3) := by decide +kernel
theorem dX11_misfit_111 : decode cX11_misfit 111 = .ok (.iconst 2, 1) := by decide +kernel
theorem dX11_misfit_112 : decode cX11_misfit 112 = .ok (.invokestatic 326, 3) := by decide +kernel
theorem dX11_misfit_115 : decode cX11_misfit 115 = .ok (.lstore 10, 2) := by decide +kernel
theorem dX11_misfit_117 : decode cX11_misfit 117 = .ok (.lload 6, 2) := by decide +kernel
theorem dX11_misfit_119 : decode cX11_misfit 119 = .ok (.lload 8, 2) := by decide +kernel
theorem dX11_misfit_121 : decode cX11_misfit 121 = .ok (.ldc2_w 351, 3) := by decide +kernel
theorem dX11_misfit_124 : decode cX11_misfit 124 = .ok (.ldiv, 1) := by decide +kernel
theorem dX11_misfit_125 : decode cX11_misfit 125 = .ok (.ldc2_w 353, 3) := by decide +kernel
theorem dX11_misfit_128 : decode cX11_misfit 128 = .ok (.lmul, 1) := by decide +kernel
theorem dX11_misfit_129 : decode cX11_misfit 129 = .ok (.ladd, 1) := by decide +kernel
theorem dX11_misfit_130 : decode cX11_misfit 130 = .ok (.lload 8, 2) := by decide +kernel
theorem dX11_misfit_132 : decode cX11_misfit 132 = .ok (.ldc2_w 351, 3) := by decide +kernel
theorem dX11_misfit_135 : decode cX11_misfit 135 = .ok (.lrem, 1) := by decide +kernel
theorem dX11_misfit_136 : decode cX11_misfit 136 = .ok (.ldc2_w 353, 3) := by decide +kernel
theorem dX11_misfit_139 : decode cX11_misfit 139 = .ok (.lmul, 1) := by decide +kernel
theorem dX11_misfit_140 : decode cX11_misfit 140 = .ok (.ldc2_w 351, 3) := by decide +kernel
theorem dX11_misfit_143 : decode cX11_misfit 143 = .ok (.ldiv, 1) := by decide +kernel
theorem dX11_misfit_144 : decode cX11_misfit 144 = .ok (.ladd, 1) := by decide +kernel
theorem dX11_misfit_145 : decode cX11_misfit 145 = .ok (.lstore 12, 2) := by decide +kernel
theorem dX11_misfit_147 : decode cX11_misfit 147 = .ok (.sipush 1000, 3) := by decide +kernel
theorem dX11_misfit_150 : decode cX11_misfit 150 = .ok (.aload_n 0, 1) := by decide +kernel
theorem dX11_misfit_151 : decode cX11_misfit 151 = .ok (.iload_n 1, 1) := by decide +kernel
theorem dX11_misfit_152 : decode cX11_misfit 152 = .ok (.iload 5, 2) := by decide +kernel
theorem dX11_misfit_154 : decode cX11_misfit 154 = .ok (.iload_n 2, 1) := by decide +kernel
theorem dX11_misfit_155 : decode cX11_misfit 155 = .ok (.invokevirtual 348, 3) := by decide +kernel
theorem dX11_misfit_158 : decode cX11_misfit 158 = .ok (.imul, 1) := by decide +kernel
theorem dX11_misfit_159 : decode cX11_misfit 159 = .ok (.iload_n 3, 1) := by decide +kernel
theorem dX11_misfit_160 : decode cX11_misfit 160 = .ok (.idiv, 1) := by decide +kernel
theorem dX11_misfit_161 : decode cX11_misfit 161 = .ok (.lload 12, 2) := by decide +kernel
theorem dX11_misfit_163 : decode cX11_misfit 163 = .ok (.lload 10, 2) := by decide +kernel
theorem dX11_misfit_165 : decode cX11_misfit 165 = .ok (.invokestatic 355, 3) := by decide +kernel
theorem dX11_misfit_168 : decode cX11_misfit 168 = .ok (.isub, 1) := by decide +kernel
theorem dX11_misfit_169 : decode cX11_misfit 169 = .ok (.istore 14, 2) := by decide +kernel
theorem dX11_misfit_171 : decode cX11_misfit 171 = .ok (.iload 4, 2) := by decide +kernel
theorem dX11_misfit_173 : decode cX11_misfit 173 = .ok (.iload 14, 2) := by decide +kernel
theorem dX11_misfit_175 : decode cX11_misfit 175 = .ok (.ifCond .ge 9, 3) := by decide +kernel
theorem dX11_misfit_178 : decode cX11_misfit 178 = .ok (.iload 14, 2) := by decide +kernel
theorem dX11_misfit_180 : decode cX11_misfit 180 = .ok (.ineg, 1) := by decide +kernel
theorem dX11_misfit_181 : decode cX11_misfit 181 = .ok (.goto 5, 3) := by decide +kernel
theorem dX11_misfit_184 : decode cX11_misfit 184 = .ok (.iload 14, 2) := by decide +kernel
theorem dX11_misfit_186 : decode cX11_misfit 186 = .ok (.iadd, 1) := by decide +kernel
theorem dX11_misfit_187 : decode cX11_misfit 187 = .ok (.istore 4, 2) := by decide +kernel
theorem dX11_misfit_189 : decode cX11_misfit 189 = .ok (.iinc 5 1, 3) := by decide +kernel
theorem dX11_misfit_192 : decode cX11_misfit 192 = .ok (.goto (-142), 3) := by decide +kernel
theorem dX11_misfit_195 : decode cX11_misfit 195 = .ok (.iload 4, 2) := by decide +kernel
theorem dX11_misfit_197 : decode cX11_misfit 197 = .ok (.ireturn, 1) := by decide +kernel
theorem dX11_fits_0 : decode cX11_fits 0 = .ok (.iconst (-1), 1) := by decide +kernel
theorem dX11_fits_1 : decode cX11_fits 1 = .ok (.istore_n 2, 1) := by decide +kernel
theorem dX11_fits_2 : decode cX11_fits 2 = .ok (.iconst 0, 1) := by decide +kernel
theorem dX11_fits_3 : decode cX11_fits 3 = .ok (.istore_n 3, 1) := by decide +kernel
theorem dX11_fits_4 : decode cX11_fits 4 = .ok (.iload_n 3, 1) := by decide +kernel
theorem dX11_fits_5 : decode cX11_fits 5 = .ok (.iconst 4, 1) := by decide +kernel
theorem dX11_fits_6 : decode cX11_fits 6 = .ok (.if_icmp .ge 41, 3) := by decide +kernel
theorem dX11_fits_9 : decode cX11_fits 9 = .ok (.aload_n 0, 1) := by decide +kernel
theorem dX11_fits_10 : decode cX11_fits 10 = .ok (.iload_n 3, 1) := by decide +kernel
theorem dX11_fits_11 : decode cX11_fits 11 = .ok (.iload_n 1, 1) := by decide +kernel
theorem dX11_fits_12 : decode cX11_fits 12 = .ok (.invokevirtual 359, 3) := by decide +kernel
theorem dX11_fits_15 : decode cX11_fits 15 = .ok (.iconst (-1), 1) := by decide +kernel
theorem dX11_fits_16 : decode cX11_fits 16 = .ok (.if_icmp .eq 25, 3) := by decide +kernel
theorem dX11_fits_19 : decode cX11_fits 19 = .ok (.iload_n 2, 1) := by decide +kernel
theorem dX11_fits_20 : decode cX11_fits 20 = .ok (.iconst (-1), 1) := by decide +kernel
theorem dX11_fits_21 : decode cX11_fits 21 = .ok (.if_icmp .eq 18, 3) := by decide +kernel
theorem dX11_fits_24 : decode cX11_fits 24 = .ok (.aload_n 0, 1) := by decide +kernel
theorem dX11_fits_25 : decode cX11_fits 25 = .ok (.iload_n 3, 1) := by decide +kernel
theorem dX11_fits_26 : decode cX11_fits 26 = .ok (.iload_n 1, 1) := by decide +kernel
theorem dX11_fits_27 : decode cX11_fits 27 = .ok (.invokevirtual 359, 3) := by decide +kernel
theorem dX11_fits_30 : decode cX11_fits 30 = .ok (.aload_n 0, 1) := by decide +kernel
theorem dX11_fits_31 : decode cX11_fits 31 = .ok (.iload_n 2, 1) := by decide +kernel
theorem dX11_fits_32 : decode cX11_fits 32 = .ok (.iload_n 1, 1) := by decide +kernel
theorem dX11_fits_33 : decode cX11_fits 33 = .ok (.invokevirtual 359, 3) := by decide +kernel
theorem dX11_fits_36 : decode cX11_fits 36 = .ok (.if_icmp .ge 5, 3) := by decide +kernel
theorem dX11_fits_39 : decode cX11_fits 39 = .ok (.iload_n 3, 1) := by decide +kernel
theorem dX11_fits_40 : decode cX11_fits 40 = .ok (.istore_n 2, 1) := by decide +kernel
theorem dX11_fits_41 : decode cX11_fits 41 = .ok (.iinc 3 1, 3) := by decide +kernel
theorem dX11_fits_44 : decode cX11_fits 44 = .ok (.goto (-40), 3) := by decide +kernel
theorem dX11_fits_47 : decode cX11_fits 47 = .ok (.iload_n 2, 1) := by decide +kernel
theorem dX11_fits_48 : decode cX11_fits 48 = .ok (.ireturn, 1) := by decide +kernel
theorem dX11_pair_0 : decode cX11_pair 0 = .ok (.iload_n 0, 1) := by decide +kernel
theorem dX11_pair_1 : decode cX11_pair 1 = .ok (.iconst 3, 1) := by decide +kernel
theorem dX11_pair_2 : decode cX11_pair 2 = .ok (.iand, 1) := by decide +kernel
theorem dX11_pair_3 : decode cX11_pair 3 = .ok (.istore_n 1, 1) := by decide +kernel
theorem dX11_pair_4 : decode cX11_pair 4 = .ok (.iload_n 0, 1) := by decide +kernel
theorem dX11_pair_5 : decode cX11_pair 5 = .ok (.iconst 2, 1) := by decide +kernel
theorem dX11_pair_6 : decode cX11_pair 6 = .ok (.ishr, 1) := by decide +kernel
theorem dX11_pair_7 : decode cX11_pair 7 = .ok (.iconst 3, 1) := by decide +kernel
theorem dX11_pair_8 : decode cX11_pair 8 = .ok (.iand, 1) := by decide +kernel
theorem dX11_pair_9 : decode cX11_pair 9 = .ok (.istore_n 2, 1) := by decide +kernel
theorem dX11_pair_10 : decode cX11_pair 10 = .ok (.iload_n 1, 1) := by decide +kernel
theorem dX11_pair_11 : decode cX11_pair 11 = .ok (.iconst 1, 1) := by decide +kernel
theorem dX11_pair_12 : decode cX11_pair 12 = .ok (.if_icmp .eq 8, 3) := by decide +kernel
theorem dX11_pair_15 : decode cX11_pair 15 = .ok (.iload_n 1, 1) := by decide +kernel
theorem dX11_pair_16 : decode cX11_pair 16 = .ok (.iconst 2, 1) := by decide +kernel
theorem dX11_pair_17 : decode cX11_pair 17 = .ok (.if_icmp .ne 19, 3) := by decide +kernel
theorem dX11_pair_20 : decode cX11_pair 20 = .ok (.iload_n 2, 1) := by decide +kernel
theorem dX11_pair_21 : decode cX11_pair 21 = .ok (.iconst 1, 1) := by decide +kernel
theorem dX11_pair_22 : decode cX11_pair 22 = .ok (.if_icmp .eq 8, 3) := by decide +kernel
theorem dX11_pair_25 : decode cX11_pair 25 = .ok (.iload_n 2, 1) := by decide +kernel
theorem dX11_pair_26 : decode cX11_pair 26 = .ok (.iconst 2, 1) := by decide +kernel
theorem dX11_pair_27 : decode cX11_pair 27 = .ok (.if_icmp .ne 9, 3) := by decide +kernel
theorem dX11_pair_30 : decode cX11_pair 30 = .ok (.iload_n 0, 1) := by decide +kernel
theorem dX11_pair_31 : decode cX11_pair 31 = .ok (.bipush 16, 2) := by decide +kernel
theorem dX11_pair_33 : decode cX11_pair 33 = .ok (.if_icmp .lt 5, 3) := by decide +kernel
theorem dX11_pair_36 : decode cX11_pair 36 = .ok (.iconst (-1), 1) := by decide +kernel
theorem dX11_pair_37 : decode cX11_pair 37 = .ok (.ireturn, 1) := by decide +kernel
theorem dX11_pair_38 : decode cX11_pair 38 = .ok (.iload_n 1, 1) := by decide +kernel
theorem dX11_pair_39 : decode cX11_pair 39 = .ok (.iload_n 2, 1) := by decide +kernel
theorem dX11_pair_40 : decode cX11_pair 40 = .ok (.if_icmp .ne 7, 3) := by decide +kernel
theorem dX11_pair_43 : decode cX11_pair 43 = .ok (.iconst 1, 1) := by decide +kernel
theorem dX11_pair_44 : decode cX11_pair 44 = .ok (.goto 4, 3) := by decide +kernel
theorem dX11_pair_47 : decode cX11_pair 47 = .ok (.iconst 0, 1) := by decide +kernel
theorem dX11_pair_48 : decode cX11_pair 48 = .ok (.ireturn, 1) := by decide +kernel
theorem dX11_pairsOf_0 : decode cX11_pairsOf 0 = .ok (.iconst 0, 1) := by decide +kernel
theorem dX11_pairsOf_1 : decode cX11_pairsOf 1 = .ok (.istore 4, 2) := by decide +kernel
theorem dX11_pairsOf_3 : decode cX11_pairsOf 3 = .ok (.iconst 0, 1) := by decide +kernel
theorem dX11_pairsOf_4 : decode cX11_pairsOf 4 = .ok (.istore 5, 2) := by decide +kernel
theorem dX11_pairsOf_6 : decode cX11_pairsOf 6 = .ok (.iload 5, 2) := by decide +kernel
theorem dX11_pairsOf_8 : decode cX11_pairsOf 8 = .ok (.bipush 32, 2) := by decide +kernel
theorem dX11_pairsOf_10 : decode cX11_pairsOf 10 = .ok (.if_icmp .ge 31, 3) := by decide +kernel
theorem dX11_pairsOf_13 : decode cX11_pairsOf 13 = .ok (.iload 5, 2) := by decide +kernel
theorem dX11_pairsOf_15 : decode cX11_pairsOf 15 = .ok (.invokestatic 362, 3) := by decide +kernel
theorem dX11_pairsOf_18 : decode cX11_pairsOf 18 = .ok (.iload_n 3, 1) := by decide +kernel
theorem dX11_pairsOf_19 : decode cX11_pairsOf 19 = .ok (.if_icmp .ne 16, 3) := by decide +kernel
theorem dX11_pairsOf_22 : decode cX11_pairsOf 22 = .ok (.iload 4, 2) := by decide +kernel
theorem dX11_pairsOf_24 : decode cX11_pairsOf 24 = .ok (.aload_n 0, 1) := by decide +kernel
theorem dX11_pairsOf_25 : decode cX11_pairsOf 25 = .ok (.iload_n 1, 1) := by decide +kernel
theorem dX11_pairsOf_26 : decode cX11_pairsOf 26 = .ok (.iload 5, 2) := by decide +kernel
theorem dX11_pairsOf_28 : decode cX11_pairsOf 28 = .ok (.iload_n 2, 1) := by decide +kernel
theorem dX11_pairsOf_29 : decode cX11_pairsOf 29 = .ok (.invokevirtual 348, 3) := by decide +kernel
theorem dX11_pairsOf_32 : decode cX11_pairsOf 32 = .ok (.iadd, 1) := by decide +kernel
theorem dX11_pairsOf_33 : decode cX11_pairsOf 33 = .ok (.istore 4, 2) := by decide +kernel
theorem dX11_pairsOf_35 : decode cX11_pairsOf 35 = .ok (.iinc 5 1, 3) := by decide +kernel
theorem dX11_pairsOf_38 : decode cX11_pairsOf 38 = .ok (.goto (-32), 3) := by decide +kernel
theorem dX11_pairsOf_41 : decode cX11_pairsOf 41 = .ok (.iload 4, 2) := by decide +kernel
theorem dX11_pairsOf_43 : decode cX11_pairsOf 43 = .ok (.ireturn, 1) := by decide +kernel
theorem dX11_pairs_0 : decode cX11_pairs 0 = .ok (.iload_n 1, 1) := by decide +kernel
theorem dX11_pairs_1 : decode cX11_pairs 1 = .ok (.iconst 0, 1) := by decide +kernel
theorem dX11_pairs_2 : decode cX11_pairs 2 = .ok (.iconst 3, 1) := by decide +kernel
theorem dX11_pairs_3 : decode cX11_pairs 3 = .ok (.invokestatic 104, 3) := by decide +kernel
theorem dX11_pairs_6 : decode cX11_pairs 6 = .ok (.ifCond .eq 35, 3) := by decide +kernel
theorem dX11_pairs_9 : decode cX11_pairs 9 = .ok (.iload_n 2, 1) := by decide +kernel
theorem dX11_pairs_10 : decode cX11_pairs 10 = .ok (.iconst 0, 1) := by decide +kernel
theorem dX11_pairs_11 : decode cX11_pairs 11 = .ok (.sipush 999, 3) := by decide +kernel
theorem dX11_pairs_14 : decode cX11_pairs 14 = .ok (.invokestatic 104, 3) := by decide +kernel
theorem dX11_pairs_17 : decode cX11_pairs 17 = .ok (.ifCond .eq 24, 3) := by decide +kernel
theorem dX11_pairs_20 : decode cX11_pairs 20 = .ok (.iload_n 3, 1) := by decide +kernel
theorem dX11_pairs_21 : decode cX11_pairs 21 = .ok (.iconst 0, 1) := by decide +kernel
theorem dX11_pairs_22 : decode cX11_pairs 22 = .ok (.iconst 1, 1) := by decide +kernel
theorem dX11_pairs_23 : decode cX11_pairs 23 = .ok (.invokestatic 104, 3) := by decide +kernel
theorem dX11_pairs_26 : decode cX11_pairs 26 = .ok (.ifCond .eq 15, 3) := by decide +kernel
theorem dX11_pairs_29 : decode cX11_pairs 29 = .ok (.aload_n 0, 1) := by decide +kernel
theorem dX11_pairs_30 : decode cX11_pairs 30 = .ok (.iload_n 1, 1) := by decide +kernel
theorem dX11_pairs_31 : decode cX11_pairs 31 = .ok (.iload_n 2, 1) := by decide +kernel
theorem dX11_pairs_32 : decode cX11_pairs 32 = .ok (.iconst 1, 1) := by decide +kernel
theorem dX11_pairs_33 : decode cX11_pairs 33 = .ok (.iload_n 3, 1) := by decide +kernel
theorem dX11_pairs_34 : decode cX11_pairs 34 = .ok (.isub, 1) := by decide +kernel
theorem dX11_pairs_35 : decode cX11_pairs 35 = .ok (.invokevirtual 365, 3) := by decide +kernel
theorem dX11_pairs_38 : decode cX11_pairs 38 = .ok (.goto 4, 3) := by decide +kernel
theorem dX11_pairs_41 : decode cX11_pairs 41 = .ok (.iconst (-1), 1) := by decide +kernel
theorem dX11_pairs_42 : decode cX11_pairs 42 = .ok (.ireturn, 1) := by decide +kernel
theorem dX11_notes_0 : decode cX11_notes 0 = .ok (.iload_n 1, 1) := by decide +kernel
theorem dX11_notes_1 : decode cX11_notes 1 = .ok (.iconst 0, 1) := by decide +kernel
theorem dX11_notes_2 : decode cX11_notes 2 = .ok (.sipush 999, 3) := by decide +kernel
theorem dX11_notes_5 : decode cX11_notes 5 = .ok (.invokestatic 104, 3) := by decide +kernel
theorem dX11_notes_8 : decode cX11_notes 8 = .ok (.ifCond .eq 12, 3) := by decide +kernel
theorem dX11_notes_11 : decode cX11_notes 11 = .ok (.iload_n 2, 1) := by decide +kernel
theorem dX11_notes_12 : decode cX11_notes 12 = .ok (.iconst 0, 1) := by decide +kernel
theorem dX11_notes_13 : decode cX11_notes 13 = .ok (.iconst 2, 1) := by decide +kernel
theorem dX11_notes_14 : decode cX11_notes 14 = .ok (.invokestatic 104, 3) := by decide +kernel
theorem dX11_notes_17 : decode cX11_notes 17 = .ok (.ifCond .ne 7, 3) := by decide +kernel
theorem dX11_notes_20 : decode cX11_notes 20 = .ok (.ldc2_w 368, 3) := by decide +kernel
theorem dX11_notes_23 : decode cX11_notes 23 = .ok (.lreturn, 1) := by decide +kernel
theorem dX11_notes_24 : decode cX11_notes 24 = .ok (.lconst 1, 1) := by decide +kernel
theorem dX11_notes_25 : decode cX11_notes 25 = .ok (.lstore_n 3, 1) := by decide +kernel
theorem dX11_notes_26 : decode cX11_notes 26 = .ok (.iconst 0, 1) := by decide +kernel
theorem dX11_notes_27 : decode cX11_notes 27 = .ok (.istore 5, 2) := by decide +kernel
theorem dX11_notes_29 : decode cX11_notes 29 = .ok (.iload 5, 2) := by decide +kernel
theorem dX11_notes_31 : decode cX11_notes 31 = .ok (.iconst 4, 1) := by decide +kernel
theorem dX11_notes_32 : decode cX11_notes 32 = .ok (.if_icmp .ge 30, 3) := by decide +kernel
theorem dX11_notes_35 : decode cX11_notes 35 = .ok (.lload_n 3, 1) := by decide +kernel
theorem dX11_notes_36 : decode cX11_notes 36 = .ok (.aload_n 0, 1) := by decide +kernel
theorem dX11_notes_37 : decode cX11_notes 37 = .ok (.iload 5, 2) := by decide +kernel
theorem dX11_notes_39 : decode cX11_notes 39 = .ok (.iload_n 1, 1) := by decide +kernel
theorem dX11_notes_40 : decode cX11_notes 40 = .ok (.iconst 1, 1) := by decide +kernel
theorem dX11_notes_41 : decode cX11_notes 41 = .ok (.invokevirtual 365, 3) := by decide +kernel
theorem dX11_notes_44 : decode cX11_notes 44 = .ok (.aload_n 0, 1) := by decide +kernel
theorem dX11_notes_45 : decode cX11_notes 45 = .ok (.iload 5, 2) := by decide +kernel
theorem dX11_notes_47 : decode cX11_notes 47 = .ok (.iload_n 1, 1) := by decide +kernel
theorem dX11_notes_48 : decode cX11_notes 48 = .ok (.iconst 0, 1) := by decide +kernel
theorem dX11_notes_49 : decode cX11_notes 49 = .ok (.invokevirtual 365, 3) := by decide +kernel
theorem dX11_notes_52 : decode cX11_notes 52 = .ok (.iadd, 1) := by decide +kernel
theorem dX11_notes_53 : decode cX11_notes 53 = .ok (.i2l, 1) := by decide +kernel
theorem dX11_notes_54 : decode cX11_notes 54 = .ok (.lmul, 1) := by decide +kernel
theorem dX11_notes_55 : decode cX11_notes 55 = .ok (.lstore_n 3, 1) := by decide +kernel
theorem dX11_notes_56 : decode cX11_notes 56 = .ok (.iinc 5 1, 3) := by decide +kernel
theorem dX11_notes_59 : decode cX11_notes 59 = .ok (.goto (-30), 3) := by decide +kernel
theorem dX11_notes_62 : decode cX11_notes 62 = .ok (.lload_n 3, 1) := by decide +kernel
theorem dX11_notes_63 : decode cX11_notes 63 = .ok (.lconst 0, 1) := by decide +kernel
theorem dX11_notes_64 : decode cX11_notes 64 = .ok (.lcmp, 1) := by decide +kernel
theorem dX11_notes_65 : decode cX11_notes 65 = .ok (.ifCond .ne 7, 3) := by decide +kernel
theorem dX11_notes_68 : decode cX11_notes 68 = .ok (.ldc2_w 368, 3) := by decide +kernel
theorem dX11_notes_71 : decode cX11_notes 71 = .ok (.lreturn, 1) := by decide +kernel
theorem dX11_notes_72 : decode cX11_notes 72 = .ok (.lconst 0, 1) := by decide +kernel
theorem dX11_notes_73 : decode cX11_notes 73 = .ok (.lstore 5, 2) := by decide +kernel
theorem dX11_notes_75 : decode cX11_notes 75 = .ok (.iconst 0, 1) := by decide +kernel
theorem dX11_notes_76 : decode cX11_notes 76 = .ok (.istore 7, 2) := by decide +kernel
theorem dX11_notes_78 : decode cX11_notes 78 = .ok (.iconst 0, 1) := by decide +kernel
theorem dX11_notes_79 : decode cX11_notes 79 = .ok (.istore 8, 2) := by decide +kernel
theorem dX11_notes_81 : decode cX11_notes 81 = .ok (.iload 8, 2) := by decide +kernel
theorem dX11_notes_83 : decode cX11_notes 83 = .ok (.bipush 16, 2) := by decide +kernel
theorem dX11_notes_85 : decode cX11_notes 85 = .ok (.if_icmp .ge 146, 3) := by decide +kernel
theorem dX11_notes_88 : decode cX11_notes 88 = .ok (.lconst 0, 1) := by decide +kernel
theorem dX11_notes_89 : decode cX11_notes 89 = .ok (.lstore 9, 2) := by decide +kernel
theorem dX11_notes_91 : decode cX11_notes 91 = .ok (.iconst 0, 1) := by decide +kernel
theorem dX11_notes_92 : decode cX11_notes 92 = .ok (.istore 11, 2) := by decide +kernel
theorem dX11_notes_94 : decode cX11_notes 94 = .ok (.iconst 0, 1) := by decide +kernel
theorem dX11_notes_95 : decode cX11_notes 95 = .ok (.istore 12, 2) := by decide +kernel
theorem dX11_notes_97 : decode cX11_notes 97 = .ok (.iload 12, 2) := by decide +kernel
theorem dX11_notes_99 : decode cX11_notes 99 = .ok (.iconst 4, 1) := by decide +kernel
theorem dX11_notes_100 : decode cX11_notes 100 = .ok (.if_icmp .ge 95, 3) := by decide +kernel
theorem dX11_notes_103 : decode cX11_notes 103 = .ok (.aload_n 0, 1) := by decide +kernel
theorem dX11_notes_104 : decode cX11_notes 104 = .ok (.iload 12, 2) := by decide +kernel
theorem dX11_notes_106 : decode cX11_notes 106 = .ok (.iload_n 1, 1) := by decide +kernel
theorem dX11_notes_107 : decode cX11_notes 107 = .ok (.iconst 1, 1) := by decide +kernel
theorem dX11_notes_108 : decode cX11_notes 108 = .ok (.invokevirtual 365, 3) := by decide +kernel
theorem dX11_notes_111 : decode cX11_notes 111 = .ok (.istore 13, 2) := by decide +kernel
theorem dX11_notes_113 : decode cX11_notes 113 = .ok (.aload_n 0, 1) := by decide +kernel
theorem dX11_notes_114 : decode cX11_notes 114 = .ok (.iload 12, 2) := by decide +kernel
theorem dX11_notes_116 : decode cX11_notes 116 = .ok (.iload_n 1, 1) := by decide +kernel
theorem dX11_notes_117 : decode cX11_notes 117 = .ok (.iconst 0, 1) := by decide +kernel
theorem dX11_notes_118 : decode cX11_notes 118 = .ok (.invokevirtual 365, 3) := by decide +kernel
theorem dX11_notes_121 : decode cX11_notes 121 = .ok (.istore 14, 2) := by decide +kernel
theorem dX11_notes_123 : decode cX11_notes 123 = .ok (.iload 8, 2) := by decide +kernel
theorem dX11_notes_125 : decode cX11_notes 125 = .ok (.iload 12, 2) := by decide +kernel
theorem dX11_notes_127 : decode cX11_notes 127 = .ok (.ishr, 1) := by decide +kernel
theorem dX11_notes_128 : decode cX11_notes 128 = .ok (.iconst 1, 1) := by decide +kernel
theorem dX11_notes_129 : decode cX11_notes 129 = .ok (.iand, 1) := by decide +kernel
theorem dX11_notes_130 : decode cX11_notes 130 = .ok (.iconst 1, 1) := by decide +kernel
theorem dX11_notes_131 : decode cX11_notes 131 = .ok (.if_icmp .ne 7, 3) := by decide +kernel
theorem dX11_notes_134 : decode cX11_notes 134 = .ok (.iconst 1, 1) := by decide +kernel
theorem dX11_notes_135 : decode cX11_notes 135 = .ok (.goto 4, 3) := by decide +kernel
theorem dX11_notes_138 : decode cX11_notes 138 = .ok (.iconst 0, 1) := by decide +kernel
theorem dX11_notes_139 : decode cX11_notes 139 = .ok (.istore 15, 2) := by decide +kernel
theorem dX11_notes_141 : decode cX11_notes 141 = .ok (.iload 11, 2) := by decide +kernel
theorem dX11_notes_143 : decode cX11_notes 143 = .ok (.iload 15, 2) := by decide +kernel
theorem dX11_notes_145 : decode cX11_notes 145 = .ok (.ifCond .eq 7, 3) := by decide +kernel
theorem dX11_notes_148 : decode cX11_notes 148 = .ok (.iconst 1, 1) := by decide +kernel
theorem dX11_notes_149 : decode cX11_notes 149 = .ok (.goto 4, 3) := by decide +kernel
theorem dX11_notes_152 : decode cX11_notes 152 = .ok (.iconst 0, 1) := by decide +kernel
theorem dX11_notes_153 : decode cX11_notes 153 = .ok (.iadd, 1) := by decide +kernel
theorem dX11_notes_154 : decode cX11_notes 154 = .ok (.istore 11, 2) := by decide +kernel
theorem dX11_notes_156 : decode cX11_notes 156 = .ok (.lload 9, 2) := by decide +kernel
theorem dX11_notes_158 : decode cX11_notes 158 = .ok (.iload 15, 2) := by decide +kernel
theorem dX11_notes_160 : decode cX11_notes 160 = .ok (.ifCond .eq 9, 3) := by decide +kernel
theorem dX11_notes_163 : decode cX11_notes 163 = .ok (.ldc2_w 245, 3) := by decide +kernel
theorem dX11_notes_166 : decode cX11_notes 166 = .ok (.goto 4, 3) := by decide +kernel
theorem dX11_notes_169 : decode cX11_notes 169 = .ok (.lconst 1, 1) := by decide +kernel
theorem dX11_notes_170 : decode cX11_notes 170 = .ok (.iload 13, 2) := by decide +kernel
theorem dX11_notes_172 : decode cX11_notes 172 = .ok (.iload 14, 2) := by decide +kernel
theorem dX11_notes_174 : decode cX11_notes 174 = .ok (.isub, 1) := by decide +kernel
theorem dX11_notes_175 : decode cX11_notes 175 = .ok (.i2l, 1) := by decide +kernel
theorem dX11_notes_176 : decode cX11_notes 176 = .ok (.lmul, 1) := by decide +kernel
theorem dX11_notes_177 : decode cX11_notes 177 = .ok (.lload_n 3, 1) := by decide +kernel
theorem dX11_notes_178 : decode cX11_notes 178 = .ok (.iload 13, 2) := by decide +kernel
theorem dX11_notes_180 : decode cX11_notes 180 = .ok (.iload 14, 2) := by decide +kernel
theorem dX11_notes_182 : decode cX11_notes 182 = .ok (.iadd, 1) := by decide +kernel
theorem dX11_notes_183 : decode cX11_notes 183 = .ok (.i2l, 1) := by decide +kernel
theorem dX11_notes_184 : decode cX11_notes 184 = .ok (.ldiv, 1) := by decide +kernel
theorem dX11_notes_185 : decode cX11_notes 185 = .ok (.lmul, 1) := by decide +kernel
theorem dX11_notes_186 : decode cX11_notes 186 = .ok (.ladd, 1) := by decide +kernel
theorem dX11_notes_187 : decode cX11_notes 187 = .ok (.lstore 9, 2) := by decide +kernel
theorem dX11_notes_189 : decode cX11_notes 189 = .ok (.iinc 12 1, 3) := by decide +kernel
theorem dX11_notes_192 : decode cX11_notes 192 = .ok (.goto (-95), 3) := by decide +kernel
theorem dX11_notes_195 : decode cX11_notes 195 = .ok (.iload 11, 2) := by decide +kernel
theorem dX11_notes_197 : decode cX11_notes 197 = .ok (.iconst 2, 1) := by decide +kernel
theorem dX11_notes_198 : decode cX11_notes 198 = .ok (.irem, 1) := by decide +kernel
theorem dX11_notes_199 : decode cX11_notes 199 = .ok (.ifCond .eq 26, 3) := by decide +kernel
theorem dX11_notes_202 : decode cX11_notes 202 = .ok (.iload 7, 2) := by decide +kernel
theorem dX11_notes_204 : decode cX11_notes 204 = .ok (.ifCond .eq 14, 3) := by decide +kernel
theorem dX11_notes_207 : decode cX11_notes 207 = .ok (.lload 9, 2) := by decide +kernel
theorem dX11_notes_209 : decode cX11_notes 209 = .ok (.lload 5, 2) := by decide +kernel
theorem dX11_notes_211 : decode cX11_notes 211 = .ok (.lcmp, 1) := by decide +kernel
theorem dX11_notes_212 : decode cX11_notes 212 = .ok (.ifCond .gt 6, 3) := by decide +kernel
theorem dX11_notes_215 : decode cX11_notes 215 = .ok (.goto 10, 3) := by decide +kernel
theorem dX11_notes_218 : decode cX11_notes 218 = .ok (.lload 9, 2) := by decide +kernel
theorem dX11_notes_220 : decode cX11_notes 220 = .ok (.lstore 5, 2) := by decide +kernel
theorem dX11_notes_222 : decode cX11_notes 222 = .ok (.iconst 1, 1) := by decide +kernel
theorem dX11_notes_223 : decode cX11_notes 223 = .ok (.istore 7, 2) := by decide +kernel
theorem dX11_notes_225 : decode cX11_notes 225 = .ok (.iinc 8 1, 3) := by decide +kernel
theorem dX11_notes_228 : decode cX11_notes 228 = .ok (.goto (-147), 3) := by decide +kernel
theorem dX11_notes_231 : decode cX11_notes 231 = .ok (.lload 5, 2) := by decide +kernel
theorem dX11_notes_233 : decode cX11_notes 233 = .ok (.lload_n 3, 1) := by decide +kernel
theorem dX11_notes_234 : decode cX11_notes 234 = .ok (.invokestatic 307, 3) := by decide +kernel
theorem dX11_notes_237 : decode cX11_notes 237 = .ok (.lstore 8, 2) := by decide +kernel
theorem dX11_notes_239 : decode cX11_notes 239 = .ok (.iload_n 2, 1) := by decide +kernel
theorem dX11_notes_240 : decode cX11_notes 240 = .ok (.ifCond .ne 11, 3) := by decide +kernel
theorem dX11_notes_243 : decode cX11_notes 243 = .ok (.lload 5, 2) := by decide +kernel
theorem dX11_notes_245 : decode cX11_notes 245 = .ok (.lload 8, 2) := by decide +kernel
theorem dX11_notes_247 : decode cX11_notes 247 = .ok (.ldiv, 1) := by decide +kernel
theorem dX11_notes_248 : decode cX11_notes 248 = .ok (.goto 31, 3) := by decide +kernel
theorem dX11_notes_251 : decode cX11_notes 251 = .ok (.iload_n 2, 1) := by decide +kernel
theorem dX11_notes_252 : decode cX11_notes 252 = .ok (.iconst 1, 1) := by decide +kernel
theorem dX11_notes_253 : decode cX11_notes 253 = .ok (.if_icmp .ne 10, 3) := by decide +kernel
theorem dX11_notes_256 : decode cX11_notes 256 = .ok (.lload_n 3, 1) := by decide +kernel
theorem dX11_notes_257 : decode cX11_notes 257 = .ok (.lload 8, 2) := by decide +kernel
theorem dX11_notes_259 : decode cX11_notes 259 = .ok (.ldiv, 1) := by decide +kernel
theorem dX11_notes_260 : decode cX11_notes 260 = .ok (.goto 19, 3) := by decide +kernel
theorem dX11_notes_263 : decode cX11_notes 263 = .ok (.lload 5, 2) := by decide +kernel
theorem dX11_notes_265 : decode cX11_notes 265 = .ok (.ldc2_w 247, 3) := by decide +kernel
theorem dX11_notes_268 : decode cX11_notes 268 = .ok (.lload_n 3, 1) := by decide +kernel
theorem dX11_notes_269 : decode cX11_notes 269 = .ok (.lmul, 1) := by decide +kernel
theorem dX11_notes_270 : decode cX11_notes 270 = .ok (.lcmp, 1) := by decide +kernel
theorem dX11_notes_271 : decode cX11_notes 271 = .ok (.ifCond .le 7, 3) := by decide +kernel
theorem dX11_notes_274 : decode cX11_notes 274 = .ok (.lconst 1, 1) := by decide +kernel
theorem dX11_notes_275 : decode cX11_notes 275 = .ok (.goto 4, 3) := by decide +kernel
theorem dX11_notes_278 : decode cX11_notes 278 = .ok (.lconst 0, 1) := by decide +kernel
theorem dX11_notes_279 : decode cX11_notes 279 = .ok (.lreturn, 1) := by decide +kernel
theorem dX11_squares_0 : decode cX11_squares 0 = .ok (.lload_n 1, 1) := by decide +kernel
theorem dX11_squares_1 : decode cX11_squares 1 = .ok (.bipush 25, 2) := by decide +kernel
theorem dX11_squares_3 : decode cX11_squares 3 = .ok (.lshr, 1) := by decide +kernel
theorem dX11_squares_4 : decode cX11_squares 4 = .ok (.lstore_n 3, 1) := by decide +kernel
theorem dX11_squares_5 : decode cX11_squares 5 = .ok (.lload_n 1, 1) := by decide +kernel
theorem dX11_squares_6 : decode cX11_squares 6 = .ok (.ldc2_w 370, 3) := by decide +kernel
theorem dX11_squares_9 : decode cX11_squares 9 = .ok (.land, 1) := by decide +kernel
theorem dX11_squares_10 : decode cX11_squares 10 = .ok (.lstore 5, 2) := by decide +kernel
theorem dX11_squares_12 : decode cX11_squares 12 = .ok (.ldc2_w 247, 3) := by decide +kernel
theorem dX11_squares_15 : decode cX11_squares 15 = .ok (.lload_n 3, 1) := by decide +kernel
theorem dX11_squares_16 : decode cX11_squares 16 = .ok (.lmul, 1) := by decide +kernel
theorem dX11_squares_17 : decode cX11_squares 17 = .ok (.lload 5, 2) := by decide +kernel
theorem dX11_squares_19 : decode cX11_squares 19 = .ok (.lmul, 1) := by decide +kernel
theorem dX11_squares_20 : decode cX11_squares 20 = .ok (.lstore 7, 2) := by decide +kernel
theorem dX11_squares_22 : decode cX11_squares 22 = .ok (.aload_n 0, 1) := by decide +kernel
theorem dX11_squares_23 : decode cX11_squares 23 = .ok (.lload 5, 2) := by decide +kernel
theorem dX11_squares_25 : decode cX11_squares 25 = .ok (.lload 5, 2) := by decide +kernel
theorem dX11_squares_27 : decode cX11_squares 27 = .ok (.lmul, 1) := by decide +kernel
theorem dX11_squares_28 : decode cX11_squares 28 = .ok (.lload 7, 2) := by decide +kernel
theorem dX11_squares_30 : decode cX11_squares 30 = .ok (.ldc2_w 370, 3) := by decide +kernel
theorem dX11_squares_33 : decode cX11_squares 33 = .ok (.land, 1) := by decide +kernel
theorem dX11_squares_34 : decode cX11_squares 34 = .ok (.bipush 25, 2) := by decide +kernel
theorem dX11_squares_36 : decode cX11_squares 36 = .ok (.lshl, 1) := by decide +kernel
theorem dX11_squares_37 : decode cX11_squares 37 = .ok (.ladd, 1) := by decide +kernel
theorem dX11_squares_38 : decode cX11_squares 38 = .ok (.putfield 372, 3) := by decide +kernel
theorem dX11_squares_41 : decode cX11_squares 41 = .ok (.aload_n 0, 1) := by decide +kernel
theorem dX11_squares_42 : decode cX11_squares 42 = .ok (.lload_n 3, 1) := by decide +kernel
theorem dX11_squares_43 : decode cX11_squares 43 = .ok (.lload_n 3, 1) := by decide +kernel
theorem dX11_squares_44 : decode cX11_squares 44 = .ok (.lmul, 1) := by decide +kernel
theorem dX11_squares_45 : decode cX11_squares 45 = .ok (.lload 7, 2) := by decide +kernel
theorem dX11_squares_47 : decode cX11_squares 47 = .ok (.bipush 25, 2) := by decide +kernel
theorem dX11_squares_49 : decode cX11_squares 49 = .ok (.lshr, 1) := by decide +kernel
theorem dX11_squares_50 : decode cX11_squares 50 = .ok (.ladd, 1) := by decide +kernel
theorem dX11_squares_51 : decode cX11_squares 51 = .ok (.aload_n 0, 1) := by decide +kernel
theorem dX11_squares_52 : decode cX11_squares 52 = .ok (.getfield 372, 3) := by decide +kernel
theorem dX11_squares_55 : decode cX11_squares 55 = .ok (.bipush 50, 2) := by decide +kernel
theorem dX11_squares_57 : decode cX11_squares 57 = .ok (.lshr, 1) := by decide +kernel
theorem dX11_squares_58 : decode cX11_squares 58 = .ok (.ladd, 1) := by decide +kernel
theorem dX11_squares_59 : decode cX11_squares 59 = .ok (.putfield 375, 3) := by decide +kernel
theorem dX11_squares_62 : decode cX11_squares 62 = .ok (.aload_n 0, 1) := by decide +kernel
theorem dX11_squares_63 : decode cX11_squares 63 = .ok (.dup, 1) := by decide +kernel
theorem dX11_squares_64 : decode cX11_squares 64 = .ok (.getfield 372, 3) := by decide +kernel
theorem dX11_squares_67 : decode cX11_squares 67 = .ok (.ldc2_w 378, 3) := by decide +kernel
theorem dX11_squares_70 : decode cX11_squares 70 = .ok (.land, 1) := by decide +kernel
theorem dX11_squares_71 : decode cX11_squares 71 = .ok (.putfield 372, 3) := by decide +kernel
theorem dX11_squares_74 : decode cX11_squares 74 = .ok (.return_, 1) := by decide +kernel
theorem dX11_isAbove_0 : decode cX11_isAbove 0 = .ok (.lload_n 1, 1) := by decide +kernel
theorem dX11_isAbove_1 : decode cX11_isAbove 1 = .ok (.lconst 0, 1) := by decide +kernel
theorem dX11_isAbove_2 : decode cX11_isAbove 2 = .ok (.lcmp, 1) := by decide +kernel
theorem dX11_isAbove_3 : decode cX11_isAbove 3 = .ok (.ifCond .lt 27, 3) := by decide +kernel
theorem dX11_isAbove_6 : decode cX11_isAbove 6 = .ok (.lload_n 3, 1) := by decide +kernel
theorem dX11_isAbove_7 : decode cX11_isAbove 7 = .ok (.lconst 0, 1) := by decide +kernel
theorem dX11_isAbove_8 : decode cX11_isAbove 8 = .ok (.lcmp, 1) := by decide +kernel
theorem dX11_isAbove_9 : decode cX11_isAbove 9 = .ok (.ifCond .lt 21, 3) := by decide +kernel
theorem dX11_isAbove_12 : decode cX11_isAbove 12 = .ok (.lload_n 1, 1) := by decide +kernel
theorem dX11_isAbove_13 : decode cX11_isAbove 13 = .ok (.lconst 0, 1) := by decide +kernel
theorem dX11_isAbove_14 : decode cX11_isAbove 14 = .ok (.lcmp, 1) := by decide +kernel
theorem dX11_isAbove_15 : decode cX11_isAbove 15 = .ok (.ifCond .gt 9, 3) := by decide +kernel
theorem dX11_isAbove_18 : decode cX11_isAbove 18 = .ok (.lload_n 3, 1) := by decide +kernel
theorem dX11_isAbove_19 : decode cX11_isAbove 19 = .ok (.lconst 0, 1) := by decide +kernel
theorem dX11_isAbove_20 : decode cX11_isAbove 20 = .ok (.lcmp, 1) := by decide +kernel
theorem dX11_isAbove_21 : decode cX11_isAbove 21 = .ok (.ifCond .le 7, 3) := by decide +kernel
theorem dX11_isAbove_24 : decode cX11_isAbove 24 = .ok (.iconst 1, 1) := by decide +kernel
theorem dX11_isAbove_25 : decode cX11_isAbove 25 = .ok (.goto 4, 3) := by decide +kernel
theorem dX11_isAbove_28 : decode cX11_isAbove 28 = .ok (.iconst 0, 1) := by decide +kernel
theorem dX11_isAbove_29 : decode cX11_isAbove 29 = .ok (.ireturn, 1) := by decide +kernel
theorem dX11_isAbove_30 : decode cX11_isAbove 30 = .ok (.lload_n 1, 1) := by decide +kernel
theorem dX11_isAbove_31 : decode cX11_isAbove 31 = .ok (.lconst 0, 1) := by decide +kernel
theorem dX11_isAbove_32 : decode cX11_isAbove 32 = .ok (.lcmp, 1) := by decide +kernel
theorem dX11_isAbove_33 : decode cX11_isAbove 33 = .ok (.ifCond .gt 11, 3) := by decide +kernel
theorem dX11_isAbove_36 : decode cX11_isAbove 36 = .ok (.lload_n 3, 1) := by decide +kernel
theorem dX11_isAbove_37 : decode cX11_isAbove 37 = .ok (.lconst 0, 1) := by decide +kernel
theorem dX11_isAbove_38 : decode cX11_isAbove 38 = .ok (.lcmp, 1) := by decide +kernel
theorem dX11_isAbove_39 : decode cX11_isAbove 39 = .ok (.ifCond .gt 5, 3) := by decide +kernel
theorem dX11_isAbove_42 : decode cX11_isAbove 42 = .ok (.iconst 0, 1) := by decide +kernel
theorem dX11_isAbove_43 : decode cX11_isAbove 43 = .ok (.ireturn, 1) := by decide +kernel
theorem dX11_isAbove_44 : decode cX11_isAbove 44 = .ok (.aload_n 0, 1) := by decide +kernel
theorem dX11_isAbove_45 : decode cX11_isAbove 45 = .ok (.lload_n 1, 1) := by decide +kernel
theorem dX11_isAbove_46 : decode cX11_isAbove 46 = .ok (.lconst 0, 1) := by decide +kernel
theorem dX11_isAbove_47 : decode cX11_isAbove 47 = .ok (.lcmp, 1) := by decide +kernel
theorem dX11_isAbove_48 : decode cX11_isAbove 48 = .ok (.ifCond .ge 8, 3) := by decide +kernel
theorem dX11_isAbove_51 : decode cX11_isAbove 51 = .ok (.lload_n 1, 1) := by decide +kernel
theorem dX11_isAbove_52 : decode cX11_isAbove 52 = .ok (.lneg, 1) := by decide +kernel
theorem dX11_isAbove_53 : decode cX11_isAbove 53 = .ok (.goto 4, 3) := by decide +kernel
theorem dX11_isAbove_56 : decode cX11_isAbove 56 = .ok (.lload_n 1, 1) := by decide +kernel
theorem dX11_isAbove_57 : decode cX11_isAbove 57 = .ok (.invokevirtual 380, 3) := by decide +kernel
theorem dX11_isAbove_60 : decode cX11_isAbove 60 = .ok (.aload_n 0, 1) := by decide +kernel
theorem dX11_isAbove_61 : decode cX11_isAbove 61 = .ok (.getfield 375, 3) := by decide +kernel
theorem dX11_isAbove_64 : decode cX11_isAbove 64 = .ok (.lstore 5, 2) := by decide +kernel
theorem dX11_isAbove_66 : decode cX11_isAbove 66 = .ok (.aload_n 0, 1) := by decide +kernel
theorem dX11_isAbove_67 : decode cX11_isAbove 67 = .ok (.getfield 372, 3) := by decide +kernel
theorem dX11_isAbove_70 : decode cX11_isAbove 70 = .ok (.lstore 7, 2) := by decide +kernel
theorem dX11_isAbove_72 : decode cX11_isAbove 72 = .ok (.aload_n 0, 1) := by decide +kernel
theorem dX11_isAbove_73 : decode cX11_isAbove 73 = .ok (.lload_n 3, 1) := by decide +kernel
theorem dX11_isAbove_74 : decode cX11_isAbove 74 = .ok (.lconst 0, 1) := by decide +kernel
theorem dX11_isAbove_75 : decode cX11_isAbove 75 = .ok (.lcmp, 1) := by decide +kernel
theorem dX11_isAbove_76 : decode cX11_isAbove 76 = .ok (.ifCond .ge 8, 3) := by decide +kernel
theorem dX11_isAbove_79 : decode cX11_isAbove 79 = .ok (.lload_n 3, 1) := by decide +kernel
theorem dX11_isAbove_80 : decode cX11_isAbove 80 = .ok (.lneg, 1) := by decide +kernel
theorem dX11_isAbove_81 : decode cX11_isAbove 81 = .ok (.goto 4, 3) := by decide +kernel
theorem dX11_isAbove_84 : decode cX11_isAbove 84 = .ok (.lload_n 3, 1) := by decide +kernel
theorem dX11_isAbove_85 : decode cX11_isAbove 85 = .ok (.invokevirtual 380, 3) := by decide +kernel
theorem dX11_isAbove_88 : decode cX11_isAbove 88 = .ok (.ldc2_w 247, 3) := by decide +kernel
theorem dX11_isAbove_91 : decode cX11_isAbove 91 = .ok (.aload_n 0, 1) := by decide +kernel
theorem dX11_isAbove_92 : decode cX11_isAbove 92 = .ok (.getfield 372, 3) := by decide +kernel
theorem dX11_isAbove_95 : decode cX11_isAbove 95 = .ok (.lmul, 1) := by decide +kernel
theorem dX11_isAbove_96 : decode cX11_isAbove 96 = .ok (.lstore 9, 2) := by decide +kernel
theorem dX11_isAbove_98 : decode cX11_isAbove 98 = .ok (.ldc2_w 247, 3) := by decide +kernel
theorem dX11_isAbove_101 : decode cX11_isAbove 101 = .ok (.aload_n 0, 1) := by decide +kernel
theorem dX11_isAbove_102 : decode cX11_isAbove 102 = .ok (.getfield 375, 3) := by decide +kernel
theorem dX11_isAbove_105 : decode cX11_isAbove 105 = .ok (.lmul, 1) := by decide +kernel
theorem dX11_isAbove_106 : decode cX11_isAbove 106 = .ok (.lload 9, 2) := by decide +kernel
theorem dX11_isAbove_108 : decode cX11_isAbove 108 = .ok (.bipush 50, 2) := by decide +kernel
theorem dX11_isAbove_110 : decode cX11_isAbove 110 = .ok (.lshr, 1) := by decide +kernel
theorem dX11_isAbove_111 : decode cX11_isAbove 111 = .ok (.ladd, 1) := by decide +kernel
theorem dX11_isAbove_112 : decode cX11_isAbove 112 = .ok (.lstore 11, 2) := by decide +kernel
theorem dX11_isAbove_114 : decode cX11_isAbove 114 = .ok (.lload 9, 2) := by decide +kernel
theorem dX11_isAbove_116 : decode cX11_isAbove 116 = .ok (.ldc2_w 378, 3) := by decide +kernel
theorem dX11_isAbove_119 : decode cX11_isAbove 119 = .ok (.land, 1) := by decide +kernel
theorem dX11_isAbove_120 : decode cX11_isAbove 120 = .ok (.lstore 9, 2) := by decide +kernel
theorem dX11_isAbove_122 : decode cX11_isAbove 122 = .ok (.lload 5, 2) := by decide +kernel
theorem dX11_isAbove_124 : decode cX11_isAbove 124 = .ok (.lload 11, 2) := by decide +kernel
theorem dX11_isAbove_126 : decode cX11_isAbove 126 = .ok (.lcmp, 1) := by decide +kernel
theorem dX11_isAbove_127 : decode cX11_isAbove 127 = .ok (.ifCond .eq 19, 3) := by decide +kernel
theorem dX11_isAbove_130 : decode cX11_isAbove 130 = .ok (.lload 5, 2) := by decide +kernel
theorem dX11_isAbove_132 : decode cX11_isAbove 132 = .ok (.lload 11, 2) := by decide +kernel
theorem dX11_isAbove_134 : decode cX11_isAbove 134 = .ok (.lcmp, 1) := by decide +kernel
theorem dX11_isAbove_135 : decode cX11_isAbove 135 = .ok (.ifCond .le 7, 3) := by decide +kernel
theorem dX11_isAbove_138 : decode cX11_isAbove 138 = .ok (.iconst 1, 1) := by decide +kernel
theorem dX11_isAbove_139 : decode cX11_isAbove 139 = .ok (.goto 20, 3) := by decide +kernel
theorem dX11_isAbove_142 : decode cX11_isAbove 142 = .ok (.iconst 0, 1) := by decide +kernel
theorem dX11_isAbove_143 : decode cX11_isAbove 143 = .ok (.goto 16, 3) := by decide +kernel
theorem dX11_isAbove_146 : decode cX11_isAbove 146 = .ok (.lload 7, 2) := by decide +kernel
theorem dX11_isAbove_148 : decode cX11_isAbove 148 = .ok (.lload 9, 2) := by decide +kernel
theorem dX11_isAbove_150 : decode cX11_isAbove 150 = .ok (.lcmp, 1) := by decide +kernel
theorem dX11_isAbove_151 : decode cX11_isAbove 151 = .ok (.ifCond .le 7, 3) := by decide +kernel
theorem dX11_isAbove_154 : decode cX11_isAbove 154 = .ok (.iconst 1, 1) := by decide +kernel
theorem dX11_isAbove_155 : decode cX11_isAbove 155 = .ok (.goto 4, 3) := by decide +kernel
theorem dX11_isAbove_158 : decode cX11_isAbove 158 = .ok (.iconst 0, 1) := by decide +kernel
theorem dX11_isAbove_159 : decode cX11_isAbove 159 = .ok (.istore 13, 2) := by decide +kernel
theorem dX11_isAbove_161 : decode cX11_isAbove 161 = .ok (.iload 13, 2) := by decide +kernel
theorem dX11_isAbove_163 : decode cX11_isAbove 163 = .ok (.ifCond .eq 17, 3) := by decide +kernel
theorem dX11_isAbove_166 : decode cX11_isAbove 166 = .ok (.lload_n 1, 1) := by decide +kernel
theorem dX11_isAbove_167 : decode cX11_isAbove 167 = .ok (.lconst 0, 1) := by decide +kernel
theorem dX11_isAbove_168 : decode cX11_isAbove 168 = .ok (.lcmp, 1) := by decide +kernel
theorem dX11_isAbove_169 : decode cX11_isAbove 169 = .ok (.ifCond .le 7, 3) := by decide +kernel
theorem dX11_isAbove_172 : decode cX11_isAbove 172 = .ok (.iconst 1, 1) := by decide +kernel
theorem dX11_isAbove_173 : decode cX11_isAbove 173 = .ok (.goto 18, 3) := by decide +kernel
theorem dX11_isAbove_176 : decode cX11_isAbove 176 = .ok (.iconst 0, 1) := by decide +kernel
theorem dX11_isAbove_177 : decode cX11_isAbove 177 = .ok (.goto 14, 3) := by decide +kernel
theorem dX11_isAbove_180 : decode cX11_isAbove 180 = .ok (.lload_n 3, 1) := by decide +kernel
theorem dX11_isAbove_181 : decode cX11_isAbove 181 = .ok (.lconst 0, 1) := by decide +kernel
theorem dX11_isAbove_182 : decode cX11_isAbove 182 = .ok (.lcmp, 1) := by decide +kernel
theorem dX11_isAbove_183 : decode cX11_isAbove 183 = .ok (.ifCond .le 7, 3) := by decide +kernel
theorem dX11_isAbove_186 : decode cX11_isAbove 186 = .ok (.iconst 1, 1) := by decide +kernel
theorem dX11_isAbove_187 : decode cX11_isAbove 187 = .ok (.goto 4, 3) := by decide +kernel
theorem dX11_isAbove_190 : decode cX11_isAbove 190 = .ok (.iconst 0, 1) := by decide +kernel
theorem dX11_isAbove_191 : decode cX11_isAbove 191 = .ok (.ireturn, 1) := by decide +kernel
theorem dX11_looks_0 : decode cX11_looks 0 = .ok (.aload_n 0, 1) := by decide +kernel
theorem dX11_looks_1 : decode cX11_looks 1 = .ok (.getfield 83, 3) := by decide +kernel
theorem dX11_looks_4 : decode cX11_looks 4 = .ok (.iconst 0, 1) := by decide +kernel
theorem dX11_looks_5 : decode cX11_looks 5 = .ok (.iload_n 1, 1) := by decide +kernel
theorem dX11_looks_6 : decode cX11_looks 6 = .ok (.aload_n 0, 1) := by decide +kernel
theorem dX11_looks_7 : decode cX11_looks 7 = .ok (.getfield 112, 3) := by decide +kernel
theorem dX11_looks_10 : decode cX11_looks 10 = .ok (.invokestatic 274, 3) := by decide +kernel
theorem dX11_looks_13 : decode cX11_looks 13 = .ok (.istore_n 3, 1) := by decide +kernel
theorem dX11_looks_14 : decode cX11_looks 14 = .ok (.iload_n 3, 1) := by decide +kernel
theorem dX11_looks_15 : decode cX11_looks 15 = .ok (.ldc_w 279, 3) := by decide +kernel
theorem dX11_looks_18 : decode cX11_looks 18 = .ok (.if_icmp .le 4, 3) := by decide +kernel
theorem dX11_looks_21 : decode cX11_looks 21 = .ok (.return_, 1) := by decide +kernel
theorem dX11_looks_22 : decode cX11_looks 22 = .ok (.aload_n 0, 1) := by decide +kernel
theorem dX11_looks_23 : decode cX11_looks 23 = .ok (.aload_n 0, 1) := by decide +kernel
theorem dX11_looks_24 : decode cX11_looks 24 = .ok (.getfield 83, 3) := by decide +kernel
theorem dX11_looks_27 : decode cX11_looks 27 = .ok (.iconst 0, 1) := by decide +kernel
theorem dX11_looks_28 : decode cX11_looks 28 = .ok (.iload_n 1, 1) := by decide +kernel
theorem dX11_looks_29 : decode cX11_looks 29 = .ok (.iload_n 3, 1) := by decide +kernel
theorem dX11_looks_30 : decode cX11_looks 30 = .ok (.invokevirtual 311, 3) := by decide +kernel
theorem dX11_looks_33 : decode cX11_looks 33 = .ok (.aload_n 0, 1) := by decide +kernel
theorem dX11_looks_34 : decode cX11_looks 34 = .ok (.getfield 59, 3) := by decide +kernel
theorem dX11_looks_37 : decode cX11_looks 37 = .ok (.iload_n 2, 1) := by decide +kernel
theorem dX11_looks_38 : decode cX11_looks 38 = .ok (.laload, 1) := by decide +kernel
theorem dX11_looks_39 : decode cX11_looks 39 = .ok (.aload_n 0, 1) := by decide +kernel
theorem dX11_looks_40 : decode cX11_looks 40 = .ok (.getfield 62, 3) := by decide +kernel
theorem dX11_looks_43 : decode cX11_looks 43 = .ok (.iload_n 2, 1) := by decide +kernel
theorem dX11_looks_44 : decode cX11_looks 44 = .ok (.laload, 1) := by decide +kernel
theorem dX11_looks_45 : decode cX11_looks 45 = .ok (.aload_n 0, 1) := by decide +kernel
theorem dX11_looks_46 : decode cX11_looks 46 = .ok (.getfield 293, 3) := by decide +kernel
theorem dX11_looks_49 : decode cX11_looks 49 = .ok (.iconst 0, 1) := by decide +kernel
theorem dX11_looks_50 : decode cX11_looks 50 = .ok (.invokestatic 326, 3) := by decide +kernel
theorem dX11_looks_53 : decode cX11_looks 53 = .ok (.lstore 4, 2) := by decide +kernel
theorem dX11_looks_55 : decode cX11_looks 55 = .ok (.aload_n 0, 1) := by decide +kernel
theorem dX11_looks_56 : decode cX11_looks 56 = .ok (.getfield 59, 3) := by decide +kernel
theorem dX11_looks_59 : decode cX11_looks 59 = .ok (.iload_n 2, 1) := by decide +kernel
theorem dX11_looks_60 : decode cX11_looks 60 = .ok (.laload, 1) := by decide +kernel
theorem dX11_looks_61 : decode cX11_looks 61 = .ok (.aload_n 0, 1) := by decide +kernel
theorem dX11_looks_62 : decode cX11_looks 62 = .ok (.getfield 62, 3) := by decide +kernel
theorem dX11_looks_65 : decode cX11_looks 65 = .ok (.iload_n 2, 1) := by decide +kernel
theorem dX11_looks_66 : decode cX11_looks 66 = .ok (.laload, 1) := by decide +kernel
theorem dX11_looks_67 : decode cX11_looks 67 = .ok (.aload_n 0, 1) := by decide +kernel
theorem dX11_looks_68 : decode cX11_looks 68 = .ok (.getfield 293, 3) := by decide +kernel
theorem dX11_looks_71 : decode cX11_looks 71 = .ok (.iconst 1, 1) := by decide +kernel
theorem dX11_looks_72 : decode cX11_looks 72 = .ok (.invokestatic 326, 3) := by decide +kernel
theorem dX11_looks_75 : decode cX11_looks 75 = .ok (.lstore 6, 2) := by decide +kernel
theorem dX11_looks_77 : decode cX11_looks 77 = .ok (.aload_n 0, 1) := by decide +kernel
theorem dX11_looks_78 : decode cX11_looks 78 = .ok (.getfield 59, 3) := by decide +kernel
theorem dX11_looks_81 : decode cX11_looks 81 = .ok (.iload_n 2, 1) := by decide +kernel
theorem dX11_looks_82 : decode cX11_looks 82 = .ok (.laload, 1) := by decide +kernel
theorem dX11_looks_83 : decode cX11_looks 83 = .ok (.aload_n 0, 1) := by decide +kernel
theorem dX11_looks_84 : decode cX11_looks 84 = .ok (.getfield 62, 3) := by decide +kernel
theorem dX11_looks_87 : decode cX11_looks 87 = .ok (.iload_n 2, 1) := by decide +kernel
theorem dX11_looks_88 : decode cX11_looks 88 = .ok (.laload, 1) := by decide +kernel
theorem dX11_looks_89 : decode cX11_looks 89 = .ok (.aload_n 0, 1) := by decide +kernel
theorem dX11_looks_90 : decode cX11_looks 90 = .ok (.getfield 293, 3) := by decide +kernel
theorem dX11_looks_93 : decode cX11_looks 93 = .ok (.iconst 2, 1) := by decide +kernel
theorem dX11_looks_94 : decode cX11_looks 94 = .ok (.invokestatic 326, 3) := by decide +kernel
theorem dX11_looks_97 : decode cX11_looks 97 = .ok (.lstore 8, 2) := by decide +kernel
theorem dX11_looks_99 : decode cX11_looks 99 = .ok (.aload_n 0, 1) := by decide +kernel
theorem dX11_looks_100 : decode cX11_looks 100 = .ok (.getfield 384, 3) := by decide +kernel
theorem dX11_looks_103 : decode cX11_looks 103 = .ok (.iconst (-1), 1) := by decide +kernel
theorem dX11_looks_104 : decode cX11_looks 104 = .ok (.if_icmp .eq 61, 3) := by decide +kernel
theorem dX11_looks_107 : decode cX11_looks 107 = .ok (.aload_n 0, 1) := by decide +kernel
theorem dX11_looks_108 : decode cX11_looks 108 = .ok (.lload 4, 2) := by decide +kernel
theorem dX11_looks_110 : decode cX11_looks 110 = .ok (.aload_n 0, 1) := by decide +kernel
theorem dX11_looks_111 : decode cX11_looks 111 = .ok (.getfield 387, 3) := by decide +kernel
theorem dX11_looks_114 : decode cX11_looks 114 = .ok (.lload 8, 2) := by decide +kernel
theorem dX11_looks_116 : decode cX11_looks 116 = .ok (.ldiv, 1) := by decide +kernel
theorem dX11_looks_117 : decode cX11_looks 117 = .ok (.lmul, 1) := by decide +kernel
theorem dX11_looks_118 : decode cX11_looks 118 = .ok (.aload_n 0, 1) := by decide +kernel
theorem dX11_looks_119 : decode cX11_looks 119 = .ok (.getfield 390, 3) := by decide +kernel
theorem dX11_looks_122 : decode cX11_looks 122 = .ok (.aload_n 0, 1) := by decide +kernel
theorem dX11_looks_123 : decode cX11_looks 123 = .ok (.getfield 387, 3) := by decide +kernel
theorem dX11_looks_126 : decode cX11_looks 126 = .ok (.aload_n 0, 1) := by decide +kernel
theorem dX11_looks_127 : decode cX11_looks 127 = .ok (.getfield 393, 3) := by decide +kernel
theorem dX11_looks_130 : decode cX11_looks 130 = .ok (.ldiv, 1) := by decide +kernel
theorem dX11_looks_131 : decode cX11_looks 131 = .ok (.lmul, 1) := by decide +kernel
theorem dX11_looks_132 : decode cX11_looks 132 = .ok (.lsub, 1) := by decide +kernel
theorem dX11_looks_133 : decode cX11_looks 133 = .ok (.lload 6, 2) := by decide +kernel
theorem dX11_looks_135 : decode cX11_looks 135 = .ok (.aload_n 0, 1) := by decide +kernel
theorem dX11_looks_136 : decode cX11_looks 136 = .ok (.getfield 387, 3) := by decide +kernel
theorem dX11_looks_139 : decode cX11_looks 139 = .ok (.lload 8, 2) := by decide +kernel
theorem dX11_looks_141 : decode cX11_looks 141 = .ok (.ldiv, 1) := by decide +kernel
theorem dX11_looks_142 : decode cX11_looks 142 = .ok (.lmul, 1) := by decide +kernel
theorem dX11_looks_143 : decode cX11_looks 143 = .ok (.aload_n 0, 1) := by decide +kernel
theorem dX11_looks_144 : decode cX11_looks 144 = .ok (.getfield 396, 3) := by decide +kernel
theorem dX11_looks_147 : decode cX11_looks 147 = .ok (.aload_n 0, 1) := by decide +kernel
theorem dX11_looks_148 : decode cX11_looks 148 = .ok (.getfield 387, 3) := by decide +kernel
theorem dX11_looks_151 : decode cX11_looks 151 = .ok (.aload_n 0, 1) := by decide +kernel
theorem dX11_looks_152 : decode cX11_looks 152 = .ok (.getfield 393, 3) := by decide +kernel
theorem dX11_looks_155 : decode cX11_looks 155 = .ok (.ldiv, 1) := by decide +kernel
theorem dX11_looks_156 : decode cX11_looks 156 = .ok (.lmul, 1) := by decide +kernel
theorem dX11_looks_157 : decode cX11_looks 157 = .ok (.lsub, 1) := by decide +kernel
theorem dX11_looks_158 : decode cX11_looks 158 = .ok (.invokevirtual 399, 3) := by decide +kernel
theorem dX11_looks_161 : decode cX11_looks 161 = .ok (.ifCond .ne 4, 3) := by decide +kernel
theorem dX11_looks_164 : decode cX11_looks 164 = .ok (.return_, 1) := by decide +kernel
theorem dX11_looks_165 : decode cX11_looks 165 = .ok (.aload_n 0, 1) := by decide +kernel
theorem dX11_looks_166 : decode cX11_looks 166 = .ok (.iload_n 1, 1) := by decide +kernel
theorem dX11_looks_167 : decode cX11_looks 167 = .ok (.putfield 384, 3) := by decide +kernel
theorem dX11_looks_170 : decode cX11_looks 170 = .ok (.aload_n 0, 1) := by decide +kernel
theorem dX11_looks_171 : decode cX11_looks 171 = .ok (.lload 4, 2) := by decide +kernel
theorem dX11_looks_173 : decode cX11_looks 173 = .ok (.putfield 390, 3) := by decide +kernel
theorem dX11_looks_176 : decode cX11_looks 176 = .ok (.aload_n 0, 1) := by decide +kernel
theorem dX11_looks_177 : decode cX11_looks 177 = .ok (.lload 6, 2) := by decide +kernel
theorem dX11_looks_179 : decode cX11_looks 179 = .ok (.putfield 396, 3) := by decide +kernel
theorem dX11_looks_182 : decode cX11_looks 182 = .ok (.aload_n 0, 1) := by decide +kernel
theorem dX11_looks_183 : decode cX11_looks 183 = .ok (.lload 8, 2) := by decide +kernel
theorem dX11_looks_185 : decode cX11_looks 185 = .ok (.putfield 393, 3) := by decide +kernel
theorem dX11_looks_188 : decode cX11_looks 188 = .ok (.iconst 0, 1) := by decide +kernel
theorem dX11_looks_189 : decode cX11_looks 189 = .ok (.istore 10, 2) := by decide +kernel
theorem dX11_looks_191 : decode cX11_looks 191 = .ok (.iload 10, 2) := by decide +kernel
theorem dX11_looks_193 : decode cX11_looks 193 = .ok (.iload_n 1, 1) := by decide +kernel
theorem dX11_looks_194 : decode cX11_looks 194 = .ok (.if_icmp .ge 23, 3) := by decide +kernel
theorem dX11_looks_197 : decode cX11_looks 197 = .ok (.aload_n 0, 1) := by decide +kernel
theorem dX11_looks_198 : decode cX11_looks 198 = .ok (.getfield 89, 3) := by decide +kernel
theorem dX11_looks_201 : decode cX11_looks 201 = .ok (.iload 10, 2) := by decide +kernel
theorem dX11_looks_203 : decode cX11_looks 203 = .ok (.aload_n 0, 1) := by decide +kernel
theorem dX11_looks_204 : decode cX11_looks 204 = .ok (.getfield 86, 3) := by decide +kernel
theorem dX11_looks_207 : decode cX11_looks 207 = .ok (.iload 10, 2) := by decide +kernel
theorem dX11_looks_209 : decode cX11_looks 209 = .ok (.iaload, 1) := by decide +kernel
theorem dX11_looks_210 : decode cX11_looks 210 = .ok (.iastore, 1) := by decide +kernel
theorem dX11_looks_211 : decode cX11_looks 211 = .ok (.iinc 10 1, 3) := by decide +kernel
theorem dX11_looks_214 : decode cX11_looks 214 = .ok (.goto (-23), 3) := by decide +kernel
theorem dX11_looks_217 : decode cX11_looks 217 = .ok (.return_, 1) := by decide +kernel
theorem dX11_tries_0 : decode cX11_tries 0 = .ok (.iload_n 1, 1) := by decide +kernel
theorem dX11_tries_1 : decode cX11_tries 1 = .ok (.iload_n 2, 1) := by decide +kernel
theorem dX11_tries_2 : decode cX11_tries 2 = .ok (.if_icmp .ne 10, 3) := by decide +kernel
theorem dX11_tries_5 : decode cX11_tries 5 = .ok (.aload_n 0, 1) := by decide +kernel
theorem dX11_tries_6 : decode cX11_tries 6 = .ok (.iload_n 2, 1) := by decide +kernel
theorem dX11_tries_7 : decode cX11_tries 7 = .ok (.iload_n 3, 1) := by decide +kernel
theorem dX11_tries_8 : decode cX11_tries 8 = .ok (.invokevirtual 403, 3) := by decide +kernel
theorem dX11_tries_11 : decode cX11_tries 11 = .ok (.return_, 1) := by decide +kernel
theorem dX11_tries_12 : decode cX11_tries 12 = .ok (.iconst 0, 1) := by decide +kernel
theorem dX11_tries_13 : decode cX11_tries 13 = .ok (.istore 4, 2) := by decide +kernel
theorem dX11_tries_15 : decode cX11_tries 15 = .ok (.iload 4, 2) := by decide +kernel
theorem dX11_tries_17 : decode cX11_tries 17 = .ok (.aload_n 0, 1) := by decide +kernel
theorem dX11_tries_18 : decode cX11_tries 18 = .ok (.getfield 212, 3) := by decide +kernel
theorem dX11_tries_21 : decode cX11_tries 21 = .ok (.if_icmp .ge 67, 3) := by decide +kernel
theorem dX11_tries_24 : decode cX11_tries 24 = .ok (.aload_n 0, 1) := by decide +kernel
theorem dX11_tries_25 : decode cX11_tries 25 = .ok (.getfield 86, 3) := by decide +kernel
theorem dX11_tries_28 : decode cX11_tries 28 = .ok (.iload_n 1, 1) := by decide +kernel
theorem dX11_tries_29 : decode cX11_tries 29 = .ok (.iload 4, 2) := by decide +kernel
theorem dX11_tries_31 : decode cX11_tries 31 = .ok (.iastore, 1) := by decide +kernel
theorem dX11_tries_32 : decode cX11_tries 32 = .ok (.iconst 0, 1) := by decide +kernel
theorem dX11_tries_33 : decode cX11_tries 33 = .ok (.istore 5, 2) := by decide +kernel
theorem dX11_tries_35 : decode cX11_tries 35 = .ok (.iload 5, 2) := by decide +kernel
theorem dX11_tries_37 : decode cX11_tries 37 = .ok (.bipush 8, 2) := by decide +kernel
theorem dX11_tries_39 : decode cX11_tries 39 = .ok (.if_icmp .ge 34, 3) := by decide +kernel
theorem dX11_tries_42 : decode cX11_tries 42 = .ok (.aload_n 0, 1) := by decide +kernel
theorem dX11_tries_43 : decode cX11_tries 43 = .ok (.getfield 83, 3) := by decide +kernel
theorem dX11_tries_46 : decode cX11_tries 46 = .ok (.bipush 8, 2) := by decide +kernel
theorem dX11_tries_48 : decode cX11_tries 48 = .ok (.iload_n 1, 1) := by decide +kernel
theorem dX11_tries_49 : decode cX11_tries 49 = .ok (.imul, 1) := by decide +kernel
theorem dX11_tries_50 : decode cX11_tries 50 = .ok (.iload 5, 2) := by decide +kernel
theorem dX11_tries_52 : decode cX11_tries 52 = .ok (.iadd, 1) := by decide +kernel
theorem dX11_tries_53 : decode cX11_tries 53 = .ok (.aload_n 0, 1) := by decide +kernel
theorem dX11_tries_54 : decode cX11_tries 54 = .ok (.getfield 19, 3) := by decide +kernel
theorem dX11_tries_57 : decode cX11_tries 57 = .ok (.bipush 8, 2) := by decide +kernel
theorem dX11_tries_59 : decode cX11_tries 59 = .ok (.iload 4, 2) := by decide +kernel
theorem dX11_tries_61 : decode cX11_tries 61 = .ok (.imul, 1) := by decide +kernel
theorem dX11_tries_62 : decode cX11_tries 62 = .ok (.iload 5, 2) := by decide +kernel
theorem dX11_tries_64 : decode cX11_tries 64 = .ok (.iadd, 1) := by decide +kernel
theorem dX11_tries_65 : decode cX11_tries 65 = .ok (.iaload, 1) := by decide +kernel
theorem dX11_tries_66 : decode cX11_tries 66 = .ok (.iastore, 1) := by decide +kernel
theorem dX11_tries_67 : decode cX11_tries 67 = .ok (.iinc 5 1, 3) := by decide +kernel
theorem dX11_tries_70 : decode cX11_tries 70 = .ok (.goto (-35), 3) := by decide +kernel
theorem dX11_tries_73 : decode cX11_tries 73 = .ok (.aload_n 0, 1) := by decide +kernel
theorem dX11_tries_74 : decode cX11_tries 74 = .ok (.iload_n 1, 1) := by decide +kernel
theorem dX11_tries_75 : decode cX11_tries 75 = .ok (.iconst 1, 1) := by decide +kernel
theorem dX11_tries_76 : decode cX11_tries 76 = .ok (.iadd, 1) := by decide +kernel
theorem dX11_tries_77 : decode cX11_tries 77 = .ok (.iload_n 2, 1) := by decide +kernel
theorem dX11_tries_78 : decode cX11_tries 78 = .ok (.iload_n 3, 1) := by decide +kernel
theorem dX11_tries_79 : decode cX11_tries 79 = .ok (.invokevirtual 407, 3) := by decide +kernel
theorem dX11_tries_82 : decode cX11_tries 82 = .ok (.iinc 4 1, 3) := by decide +kernel
theorem dX11_tries_85 : decode cX11_tries 85 = .ok (.goto (-70), 3) := by decide +kernel
theorem dX11_tries_88 : decode cX11_tries 88 = .ok (.return_, 1) := by decide +kernel
theorem dX11_plan_0 : decode cX11_plan 0 = .ok (.iload_n 1, 1) := by decide +kernel
theorem dX11_plan_1 : decode cX11_plan 1 = .ok (.iconst 0, 1) := by decide +kernel
theorem dX11_plan_2 : decode cX11_plan 2 = .ok (.iconst 3, 1) := by decide +kernel
theorem dX11_plan_3 : decode cX11_plan 3 = .ok (.invokestatic 104, 3) := by decide +kernel
theorem dX11_plan_6 : decode cX11_plan 6 = .ok (.ifCond .eq 24, 3) := by decide +kernel
theorem dX11_plan_9 : decode cX11_plan 9 = .ok (.iload_n 2, 1) := by decide +kernel
theorem dX11_plan_10 : decode cX11_plan 10 = .ok (.iload_n 3, 1) := by decide +kernel
theorem dX11_plan_11 : decode cX11_plan 11 = .ok (.iload 4, 2) := by decide +kernel
theorem dX11_plan_13 : decode cX11_plan 13 = .ok (.iload 5, 2) := by decide +kernel
theorem dX11_plan_15 : decode cX11_plan 15 = .ok (.iload 6, 2) := by decide +kernel
theorem dX11_plan_17 : decode cX11_plan 17 = .ok (.invokestatic 315, 3) := by decide +kernel
theorem dX11_plan_20 : decode cX11_plan 20 = .ok (.ifCond .eq 10, 3) := by decide +kernel
theorem dX11_plan_23 : decode cX11_plan 23 = .ok (.aload_n 0, 1) := by decide +kernel
theorem dX11_plan_24 : decode cX11_plan 24 = .ok (.getfield 112, 3) := by decide +kernel
theorem dX11_plan_27 : decode cX11_plan 27 = .ok (.ifCond .ne 5, 3) := by decide +kernel
theorem dX11_plan_30 : decode cX11_plan 30 = .ok (.iconst (-1), 1) := by decide +kernel
theorem dX11_plan_31 : decode cX11_plan 31 = .ok (.ireturn, 1) := by decide +kernel
theorem dX11_plan_32 : decode cX11_plan 32 = .ok (.aload_n 0, 1) := by decide +kernel
theorem dX11_plan_33 : decode cX11_plan 33 = .ok (.aload_n 0, 1) := by decide +kernel
theorem dX11_plan_34 : decode cX11_plan 34 = .ok (.getfield 112, 3) := by decide +kernel
theorem dX11_plan_37 : decode cX11_plan 37 = .ok (.iconst 1, 1) := by decide +kernel
theorem dX11_plan_38 : decode cX11_plan 38 = .ok (.if_icmp .ne 9, 3) := by decide +kernel
theorem dX11_plan_41 : decode cX11_plan 41 = .ok (.ldc2_w 411, 3) := by decide +kernel
theorem dX11_plan_44 : decode cX11_plan 44 = .ok (.goto 20, 3) := by decide +kernel
theorem dX11_plan_47 : decode cX11_plan 47 = .ok (.aload_n 0, 1) := by decide +kernel
theorem dX11_plan_48 : decode cX11_plan 48 = .ok (.getfield 112, 3) := by decide +kernel
theorem dX11_plan_51 : decode cX11_plan 51 = .ok (.iconst 2, 1) := by decide +kernel
theorem dX11_plan_52 : decode cX11_plan 52 = .ok (.if_icmp .ne 9, 3) := by decide +kernel
theorem dX11_plan_55 : decode cX11_plan 55 = .ok (.ldc2_w 413, 3) := by decide +kernel
theorem dX11_plan_58 : decode cX11_plan 58 = .ok (.goto 6, 3) := by decide +kernel
theorem dX11_plan_61 : decode cX11_plan 61 = .ok (.ldc2_w 415, 3) := by decide +kernel
theorem dX11_plan_64 : decode cX11_plan 64 = .ok (.putfield 387, 3) := by decide +kernel
theorem dX11_plan_67 : decode cX11_plan 67 = .ok (.aload_n 0, 1) := by decide +kernel
theorem dX11_plan_68 : decode cX11_plan 68 = .ok (.iconst (-1), 1) := by decide +kernel
theorem dX11_plan_69 : decode cX11_plan 69 = .ok (.putfield 384, 3) := by decide +kernel
theorem dX11_plan_72 : decode cX11_plan 72 = .ok (.iconst 0, 1) := by decide +kernel
theorem dX11_plan_73 : decode cX11_plan 73 = .ok (.istore 7, 2) := by decide +kernel
theorem dX11_plan_75 : decode cX11_plan 75 = .ok (.iload 7, 2) := by decide +kernel
theorem dX11_plan_77 : decode cX11_plan 77 = .ok (.iload_n 1, 1) := by decide +kernel
theorem dX11_plan_78 : decode cX11_plan 78 = .ok (.if_icmp .gt 27, 3) := by decide +kernel
theorem dX11_plan_81 : decode cX11_plan 81 = .ok (.aload_n 0, 1) := by decide +kernel
theorem dX11_plan_82 : decode cX11_plan 82 = .ok (.iconst 0, 1) := by decide +kernel
theorem dX11_plan_83 : decode cX11_plan 83 = .ok (.iload 7, 2) := by decide +kernel
theorem dX11_plan_85 : decode cX11_plan 85 = .ok (.iload_n 2, 1) := by decide +kernel
theorem dX11_plan_86 : decode cX11_plan 86 = .ok (.iload_n 3, 1) := by decide +kernel
theorem dX11_plan_87 : decode cX11_plan 87 = .ok (.iload 4, 2) := by decide +kernel
theorem dX11_plan_89 : decode cX11_plan 89 = .ok (.iload 5, 2) := by decide +kernel
theorem dX11_plan_91 : decode cX11_plan 91 = .ok (.iload 6, 2) := by decide +kernel
theorem dX11_plan_93 : decode cX11_plan 93 = .ok (.invokestatic 322, 3) := by decide +kernel
theorem dX11_plan_96 : decode cX11_plan 96 = .ok (.invokevirtual 407, 3) := by decide +kernel
theorem dX11_plan_99 : decode cX11_plan 99 = .ok (.iinc 7 1, 3) := by decide +kernel
theorem dX11_plan_102 : decode cX11_plan 102 = .ok (.goto (-27), 3) := by decide +kernel
theorem dX11_plan_105 : decode cX11_plan 105 = .ok (.aload_n 0, 1) := by decide +kernel
theorem dX11_plan_106 : decode cX11_plan 106 = .ok (.aload_n 0, 1) := by decide +kernel
theorem dX11_plan_107 : decode cX11_plan 107 = .ok (.getfield 384, 3) := by decide +kernel
theorem dX11_plan_110 : decode cX11_plan 110 = .ok (.putfield 98, 3) := by decide +kernel
theorem dX11_plan_113 : decode cX11_plan 113 = .ok (.aload_n 0, 1) := by decide +kernel
theorem dX11_plan_114 : decode cX11_plan 114 = .ok (.aload_n 0, 1) := by decide +kernel
theorem dX11_plan_115 : decode cX11_plan 115 = .ok (.getfield 390, 3) := by decide +kernel
theorem dX11_plan_118 : decode cX11_plan 118 = .ok (.putfield 417, 3) := by decide +kernel
theorem dX11_plan_121 : decode cX11_plan 121 = .ok (.aload_n 0, 1) := by decide +kernel
theorem dX11_plan_122 : decode cX11_plan 122 = .ok (.aload_n 0, 1) := by decide +kernel
theorem dX11_plan_123 : decode cX11_plan 123 = .ok (.getfield 396, 3) := by decide +kernel
theorem dX11_plan_126 : decode cX11_plan 126 = .ok (.putfield 420, 3) := by decide +kernel
theorem dX11_plan_129 : decode cX11_plan 129 = .ok (.aload_n 0, 1) := by decide +kernel
theorem dX11_plan_130 : decode cX11_plan 130 = .ok (.aload_n 0, 1) := by decide +kernel
theorem dX11_plan_131 : decode cX11_plan 131 = .ok (.getfield 393, 3) := by decide +kernel
theorem dX11_plan_134 : decode cX11_plan 134 = .ok (.putfield 423, 3) := by decide +kernel
theorem dX11_plan_137 : decode cX11_plan 137 = .ok (.iconst 0, 1) := by decide +kernel
theorem dX11_plan_138 : decode cX11_plan 138 = .ok (.istore 7, 2) := by decide +kernel
theorem dX11_plan_140 : decode cX11_plan 140 = .ok (.iload 7, 2) := by decide +kernel
theorem dX11_plan_142 : decode cX11_plan 142 = .ok (.aload_n 0, 1) := by decide +kernel
theorem dX11_plan_143 : decode cX11_plan 143 = .ok (.getfield 384, 3) := by decide +kernel
theorem dX11_plan_146 : decode cX11_plan 146 = .ok (.if_icmp .ge 70, 3) := by decide +kernel
theorem dX11_plan_149 : decode cX11_plan 149 = .ok (.aload_n 0, 1) := by decide +kernel
theorem dX11_plan_150 : decode cX11_plan 150 = .ok (.getfield 95, 3) := by decide +kernel
theorem dX11_plan_153 : decode cX11_plan 153 = .ok (.iload 7, 2) := by decide +kernel
theorem dX11_plan_155 : decode cX11_plan 155 = .ok (.aload_n 0, 1) := by decide +kernel
theorem dX11_plan_156 : decode cX11_plan 156 = .ok (.getfield 89, 3) := by decide +kernel
theorem dX11_plan_159 : decode cX11_plan 159 = .ok (.iload 7, 2) := by decide +kernel
theorem dX11_plan_161 : decode cX11_plan 161 = .ok (.iaload, 1) := by decide +kernel
theorem dX11_plan_162 : decode cX11_plan 162 = .ok (.iastore, 1) := by decide +kernel
theorem dX11_plan_163 : decode cX11_plan 163 = .ok (.iconst 0, 1) := by decide +kernel
theorem dX11_plan_164 : decode cX11_plan 164 = .ok (.istore 8, 2) := by decide +kernel
theorem dX11_plan_166 : decode cX11_plan 166 = .ok (.iload 8, 2) := by decide +kernel
theorem dX11_plan_168 : decode cX11_plan 168 = .ok (.bipush 8, 2) := by decide +kernel
theorem dX11_plan_170 : decode cX11_plan 170 = .ok (.if_icmp .ge 40, 3) := by decide +kernel
theorem dX11_plan_173 : decode cX11_plan 173 = .ok (.aload_n 0, 1) := by decide +kernel
theorem dX11_plan_174 : decode cX11_plan 174 = .ok (.getfield 92, 3) := by decide +kernel
theorem dX11_plan_177 : decode cX11_plan 177 = .ok (.bipush 8, 2) := by decide +kernel
theorem dX11_plan_179 : decode cX11_plan 179 = .ok (.iload 7, 2) := by decide +kernel
theorem dX11_plan_181 : decode cX11_plan 181 = .ok (.imul, 1) := by decide +kernel
theorem dX11_plan_182 : decode cX11_plan 182 = .ok (.iload 8, 2) := by decide +kernel
theorem dX11_plan_184 : decode cX11_plan 184 = .ok (.iadd, 1) := by decide +kernel
theorem dX11_plan_185 : decode cX11_plan 185 = .ok (.aload_n 0, 1) := by decide +kernel
theorem dX11_plan_186 : decode cX11_plan 186 = .ok (.getfield 19, 3) := by decide +kernel
theorem dX11_plan_189 : decode cX11_plan 189 = .ok (.bipush 8, 2) := by decide +kernel
theorem dX11_plan_191 : decode cX11_plan 191 = .ok (.aload_n 0, 1) := by decide +kernel
theorem dX11_plan_192 : decode cX11_plan 192 = .ok (.getfield 89, 3) := by decide +kernel
theorem dX11_plan_195 : decode cX11_plan 195 = .ok (.iload 7, 2) := by decide +kernel
theorem dX11_plan_197 : decode cX11_plan 197 = .ok (.iaload, 1) := by decide +kernel
theorem dX11_plan_198 : decode cX11_plan 198 = .ok (.imul, 1) := by decide +kernel
theorem dX11_plan_199 : decode cX11_plan 199 = .ok (.iload 8, 2) := by decide +kernel
theorem dX11_plan_201 : decode cX11_plan 201 = .ok (.iadd, 1) := by decide +kernel
theorem dX11_plan_202 : decode cX11_plan 202 = .ok (.iaload, 1) := by decide +kernel
theorem dX11_plan_203 : decode cX11_plan 203 = .ok (.iastore, 1) := by decide +kernel
theorem dX11_plan_204 : decode cX11_plan 204 = .ok (.iinc 8 1, 3) := by decide +kernel
theorem dX11_plan_207 : decode cX11_plan 207 = .ok (.goto (-41), 3) := by decide +kernel
theorem dX11_plan_210 : decode cX11_plan 210 = .ok (.iinc 7 1, 3) := by decide +kernel
theorem dX11_plan_213 : decode cX11_plan 213 = .ok (.goto (-73), 3) := by decide +kernel
theorem dX11_plan_216 : decode cX11_plan 216 = .ok (.aload_n 0, 1) := by decide +kernel
theorem dX11_plan_217 : decode cX11_plan 217 = .ok (.getfield 98, 3) := by decide +kernel
theorem dX11_plan_220 : decode cX11_plan 220 = .ok (.ireturn, 1) := by decide +kernel
theorem dX11_planned_0 : decode cX11_planned 0 = .ok (.aload_n 0, 1) := by decide +kernel
theorem dX11_planned_1 : decode cX11_planned 1 = .ok (.getfield 98, 3) := by decide +kernel
theorem dX11_planned_4 : decode cX11_planned 4 = .ok (.iconst (-1), 1) := by decide +kernel
theorem dX11_planned_5 : decode cX11_planned 5 = .ok (.if_icmp .eq 18, 3) := by decide +kernel
theorem dX11_planned_8 : decode cX11_planned 8 = .ok (.iload_n 1, 1) := by decide +kernel
theorem dX11_planned_9 : decode cX11_planned 9 = .ok (.bipush (-3), 2) := by decide +kernel
theorem dX11_planned_11 : decode cX11_planned 11 = .ok (.aload_n 0, 1) := by decide +kernel
theorem dX11_planned_12 : decode cX11_planned 12 = .ok (.getfield 98, 3) := by decide +kernel
theorem dX11_planned_15 : decode cX11_planned 15 = .ok (.iconst 1, 1) := by decide +kernel
theorem dX11_planned_16 : decode cX11_planned 16 = .ok (.isub, 1) := by decide +kernel
theorem dX11_planned_17 : decode cX11_planned 17 = .ok (.invokestatic 104, 3) := by decide +kernel
theorem dX11_planned_20 : decode cX11_planned 20 = .ok (.ifCond .ne 7, 3) := by decide +kernel
theorem dX11_planned_23 : decode cX11_planned 23 = .ok (.ldc2_w 368, 3) := by decide +kernel
theorem dX11_planned_26 : decode cX11_planned 26 = .ok (.lreturn, 1) := by decide +kernel
theorem dX11_planned_27 : decode cX11_planned 27 = .ok (.iload_n 1, 1) := by decide +kernel
theorem dX11_planned_28 : decode cX11_planned 28 = .ok (.iconst (-1), 1) := by decide +kernel
theorem dX11_planned_29 : decode cX11_planned 29 = .ok (.if_icmp .ne 10, 3) := by decide +kernel
theorem dX11_planned_32 : decode cX11_planned 32 = .ok (.aload_n 0, 1) := by decide +kernel
theorem dX11_planned_33 : decode cX11_planned 33 = .ok (.getfield 417, 3) := by decide +kernel
theorem dX11_planned_36 : decode cX11_planned 36 = .ok (.goto 36, 3) := by decide +kernel
theorem dX11_planned_39 : decode cX11_planned 39 = .ok (.iload_n 1, 1) := by decide +kernel
theorem dX11_planned_40 : decode cX11_planned 40 = .ok (.bipush (-2), 2) := by decide +kernel
theorem dX11_planned_42 : decode cX11_planned 42 = .ok (.if_icmp .ne 10, 3) := by decide +kernel
theorem dX11_planned_45 : decode cX11_planned 45 = .ok (.aload_n 0, 1) := by decide +kernel
theorem dX11_planned_46 : decode cX11_planned 46 = .ok (.getfield 420, 3) := by decide +kernel
theorem dX11_planned_49 : decode cX11_planned 49 = .ok (.goto 23, 3) := by decide +kernel
theorem dX11_planned_52 : decode cX11_planned 52 = .ok (.iload_n 1, 1) := by decide +kernel
theorem dX11_planned_53 : decode cX11_planned 53 = .ok (.bipush (-3), 2) := by decide +kernel
theorem dX11_planned_55 : decode cX11_planned 55 = .ok (.if_icmp .ne 10, 3) := by decide +kernel
theorem dX11_planned_58 : decode cX11_planned 58 = .ok (.aload_n 0, 1) := by decide +kernel
theorem dX11_planned_59 : decode cX11_planned 59 = .ok (.getfield 423, 3) := by decide +kernel
theorem dX11_planned_62 : decode cX11_planned 62 = .ok (.goto 10, 3) := by decide +kernel
theorem dX11_planned_65 : decode cX11_planned 65 = .ok (.aload_n 0, 1) := by decide +kernel
theorem dX11_planned_66 : decode cX11_planned 66 = .ok (.getfield 95, 3) := by decide +kernel
theorem dX11_planned_69 : decode cX11_planned 69 = .ok (.iload_n 1, 1) := by decide +kernel
theorem dX11_planned_70 : decode cX11_planned 70 = .ok (.iaload, 1) := by decide +kernel
theorem dX11_planned_71 : decode cX11_planned 71 = .ok (.i2l, 1) := by decide +kernel
theorem dX11_planned_72 : decode cX11_planned 72 = .ok (.lreturn, 1) := by decide +kernel
theorem dX11_build_0 : decode cX11_build 0 = .ok (.iload_n 1, 1) := by decide +kernel
theorem dX11_build_1 : decode cX11_build 1 = .ok (.iconst 0, 1) := by decide +kernel
theorem dX11_build_2 : decode cX11_build 2 = .ok (.iconst 3, 1) := by decide +kernel
theorem dX11_build_3 : decode cX11_build 3 = .ok (.invokestatic 104, 3) := by decide +kernel
theorem dX11_build_6 : decode cX11_build 6 = .ok (.ifCond .ne 10, 3) := by decide +kernel
theorem dX11_build_9 : decode cX11_build 9 = .ok (.aload_n 0, 1) := by decide +kernel
theorem dX11_build_10 : decode cX11_build 10 = .ok (.bipush (-2), 2) := by decide +kernel
theorem dX11_build_12 : decode cX11_build 12 = .ok (.invokevirtual 108, 3) := by decide +kernel
theorem dX11_build_15 : decode cX11_build 15 = .ok (.ireturn, 1) := by decide +kernel
theorem dX11_build_16 : decode cX11_build 16 = .ok (.aload_n 0, 1) := by decide +kernel
theorem dX11_build_17 : decode cX11_build 17 = .ok (.getfield 98, 3) := by decide +kernel
theorem dX11_build_20 : decode cX11_build 20 = .ok (.iconst (-1), 1) := by decide +kernel
theorem dX11_build_21 : decode cX11_build 21 = .ok (.if_icmp .ne 10, 3) := by decide +kernel
theorem dX11_build_24 : decode cX11_build 24 = .ok (.aload_n 0, 1) := by decide +kernel
theorem dX11_build_25 : decode cX11_build 25 = .ok (.bipush (-6), 2) := by decide +kernel
theorem dX11_build_27 : decode cX11_build 27 = .ok (.invokevirtual 108, 3) := by decide +kernel
theorem dX11_build_30 : decode cX11_build 30 = .ok (.ireturn, 1) := by decide +kernel
theorem dX11_build_31 : decode cX11_build 31 = .ok (.aload_n 0, 1) := by decide +kernel
theorem dX11_build_32 : decode cX11_build 32 = .ok (.getfield 16, 3) := by decide +kernel
theorem dX11_build_35 : decode cX11_build 35 = .ok (.iload_n 1, 1) := by decide +kernel
theorem dX11_build_36 : decode cX11_build 36 = .ok (.aload_n 0, 1) := by decide +kernel
theorem dX11_build_37 : decode cX11_build 37 = .ok (.getfield 98, 3) := by decide +kernel
theorem dX11_build_40 : decode cX11_build 40 = .ok (.iastore, 1) := by decide +kernel
theorem dX11_build_41 : decode cX11_build 41 = .ok (.iconst 0, 1) := by decide +kernel
theorem dX11_build_42 : decode cX11_build 42 = .ok (.istore_n 2, 1) := by decide +kernel
theorem dX11_build_43 : decode cX11_build 43 = .ok (.iload_n 2, 1) := by decide +kernel
theorem dX11_build_44 : decode cX11_build 44 = .ok (.bipush 8, 2) := by decide +kernel
theorem dX11_build_46 : decode cX11_build 46 = .ok (.aload_n 0, 1) := by decide +kernel
theorem dX11_build_47 : decode cX11_build 47 = .ok (.getfield 98, 3) := by decide +kernel
theorem dX11_build_50 : decode cX11_build 50 = .ok (.imul, 1) := by decide +kernel
theorem dX11_build_51 : decode cX11_build 51 = .ok (.if_icmp .ge 27, 3) := by decide +kernel
theorem dX11_build_54 : decode cX11_build 54 = .ok (.aload_n 0, 1) := by decide +kernel
theorem dX11_build_55 : decode cX11_build 55 = .ok (.getfield 13, 3) := by decide +kernel
theorem dX11_build_58 : decode cX11_build 58 = .ok (.sipush 128, 3) := by decide +kernel
theorem dX11_build_61 : decode cX11_build 61 = .ok (.iload_n 1, 1) := by decide +kernel
theorem dX11_build_62 : decode cX11_build 62 = .ok (.imul, 1) := by decide +kernel
theorem dX11_build_63 : decode cX11_build 63 = .ok (.iload_n 2, 1) := by decide +kernel
theorem dX11_build_64 : decode cX11_build 64 = .ok (.iadd, 1) := by decide +kernel
theorem dX11_build_65 : decode cX11_build 65 = .ok (.aload_n 0, 1) := by decide +kernel
theorem dX11_build_66 : decode cX11_build 66 = .ok (.getfield 92, 3) := by decide +kernel
theorem dX11_build_69 : decode cX11_build 69 = .ok (.iload_n 2, 1) := by decide +kernel
theorem dX11_build_70 : decode cX11_build 70 = .ok (.iaload, 1) := by decide +kernel
theorem dX11_build_71 : decode cX11_build 71 = .ok (.iastore, 1) := by decide +kernel
theorem dX11_build_72 : decode cX11_build 72 = .ok (.iinc 2 1, 3) := by decide +kernel
theorem dX11_build_75 : decode cX11_build 75 = .ok (.goto (-32), 3) := by decide +kernel
theorem dX11_build_78 : decode cX11_build 78 = .ok (.aload_n 0, 1) := by decide +kernel
theorem dX11_build_79 : decode cX11_build 79 = .ok (.aload_n 0, 1) := by decide +kernel
theorem dX11_build_80 : decode cX11_build 80 = .ok (.getfield 98, 3) := by decide +kernel
theorem dX11_build_83 : decode cX11_build 83 = .ok (.invokevirtual 108, 3) := by decide +kernel
theorem dX11_build_86 : decode cX11_build 86 = .ok (.ireturn, 1) := by decide +kernel
theorem dX11_count_0 : decode cX11_count 0 = .ok (.iload_n 1, 1) := by decide +kernel
theorem dX11_count_1 : decode cX11_count 1 = .ok (.iconst 1, 1) := by decide +kernel
theorem dX11_count_2 : decode cX11_count 2 = .ok (.iconst 4, 1) := by decide +kernel
theorem dX11_count_3 : decode cX11_count 3 = .ok (.invokestatic 104, 3) := by decide +kernel
theorem dX11_count_6 : decode cX11_count 6 = .ok (.ifCond .eq 12, 3) := by decide +kernel
theorem dX11_count_9 : decode cX11_count 9 = .ok (.aload_n 0, 1) := by decide +kernel
theorem dX11_count_10 : decode cX11_count 10 = .ok (.getfield 16, 3) := by decide +kernel
theorem dX11_count_13 : decode cX11_count 13 = .ok (.iload_n 1, 1) := by decide +kernel
theorem dX11_count_14 : decode cX11_count 14 = .ok (.iconst 1, 1) := by decide +kernel
theorem dX11_count_15 : decode cX11_count 15 = .ok (.isub, 1) := by decide +kernel
theorem dX11_count_16 : decode cX11_count 16 = .ok (.iaload, 1) := by decide +kernel
theorem dX11_count_17 : decode cX11_count 17 = .ok (.ireturn, 1) := by decide +kernel
theorem dX11_count_18 : decode cX11_count 18 = .ok (.iload_n 1, 1) := by decide +kernel
theorem dX11_count_19 : decode cX11_count 19 = .ok (.ifCond .ne 10, 3) := by decide +kernel
theorem dX11_count_22 : decode cX11_count 22 = .ok (.aload_n 0, 1) := by decide +kernel
theorem dX11_count_23 : decode cX11_count 23 = .ok (.getfield 112, 3) := by decide +kernel
theorem dX11_count_26 : decode cX11_count 26 = .ok (.goto 42, 3) := by decide +kernel
theorem dX11_count_29 : decode cX11_count 29 = .ok (.iload_n 1, 1) := by decide +kernel
theorem dX11_count_30 : decode cX11_count 30 = .ok (.iconst 5, 1) := by decide +kernel
theorem dX11_count_31 : decode cX11_count 31 = .ok (.if_icmp .ne 10, 3) := by decide +kernel
theorem dX11_count_34 : decode cX11_count 34 = .ok (.aload_n 0, 1) := by decide +kernel
theorem dX11_count_35 : decode cX11_count 35 = .ok (.getfield 212, 3) := by decide +kernel
theorem dX11_count_38 : decode cX11_count 38 = .ok (.goto 30, 3) := by decide +kernel
theorem dX11_count_41 : decode cX11_count 41 = .ok (.iload_n 1, 1) := by decide +kernel
theorem dX11_count_42 : decode cX11_count 42 = .ok (.bipush 6, 2) := by decide +kernel
theorem dX11_count_44 : decode cX11_count 44 = .ok (.if_icmp .ne 10, 3) := by decide +kernel
theorem dX11_count_47 : decode cX11_count 47 = .ok (.aload_n 0, 1) := by decide +kernel
theorem dX11_count_48 : decode cX11_count 48 = .ok (.getfield 346, 3) := by decide +kernel
theorem dX11_count_51 : decode cX11_count 51 = .ok (.goto 17, 3) := by decide +kernel
theorem dX11_count_54 : decode cX11_count 54 = .ok (.iload_n 1, 1) := by decide +kernel
theorem dX11_count_55 : decode cX11_count 55 = .ok (.bipush 7, 2) := by decide +kernel
theorem dX11_count_57 : decode cX11_count 57 = .ok (.if_icmp .ne 10, 3) := by decide +kernel
theorem dX11_count_60 : decode cX11_count 60 = .ok (.aload_n 0, 1) := by decide +kernel
theorem dX11_count_61 : decode cX11_count 61 = .ok (.getfield 115, 3) := by decide +kernel
theorem dX11_count_64 : decode cX11_count 64 = .ok (.goto 4, 3) := by decide +kernel
theorem dX11_count_67 : decode cX11_count 67 = .ok (.iconst (-1), 1) := by decide +kernel
theorem dX11_count_68 : decode cX11_count 68 = .ok (.ireturn, 1) := by decide +kernel
theorem dX11_status_0 : decode cX11_status 0 = .ok (.aload_n 0, 1) := by decide +kernel
theorem dX11_status_1 : decode cX11_status 1 = .ok (.getfield 101, 3) := by decide +kernel
theorem dX11_status_4 : decode cX11_status 4 = .ok (.ireturn, 1) := by decide +kernel
theorem dJ6_bitCount_0f7a4_0 : decode cJ6_bitCount_0f7a4 0 = .ok (.iload_n 0, 1) := by decide +kernel
theorem dJ6_bitCount_0f7a4_1 : decode cJ6_bitCount_0f7a4 1 = .ok (.iload_n 0, 1) := by decide +kernel
theorem dJ6_bitCount_0f7a4_2 : decode cJ6_bitCount_0f7a4 2 = .ok (.iconst 1, 1) := by decide +kernel
theorem dJ6_bitCount_0f7a4_3 : decode cJ6_bitCount_0f7a4 3 = .ok (.iushr, 1) := by decide +kernel
theorem dJ6_bitCount_0f7a4_4 : decode cJ6_bitCount_0f7a4 4 = .ok (.ldc_w 265, 3) := by decide +kernel
theorem dJ6_bitCount_0f7a4_7 : decode cJ6_bitCount_0f7a4 7 = .ok (.iand, 1) := by decide +kernel
theorem dJ6_bitCount_0f7a4_8 : decode cJ6_bitCount_0f7a4 8 = .ok (.isub, 1) := by decide +kernel
theorem dJ6_bitCount_0f7a4_9 : decode cJ6_bitCount_0f7a4 9 = .ok (.istore_n 0, 1) := by decide +kernel
theorem dJ6_bitCount_0f7a4_10 : decode cJ6_bitCount_0f7a4 10 = .ok (.iload_n 0, 1) := by decide +kernel
theorem dJ6_bitCount_0f7a4_11 : decode cJ6_bitCount_0f7a4 11 = .ok (.ldc_w 266, 3) := by decide +kernel
theorem dJ6_bitCount_0f7a4_14 : decode cJ6_bitCount_0f7a4 14 = .ok (.iand, 1) := by decide +kernel
theorem dJ6_bitCount_0f7a4_15 : decode cJ6_bitCount_0f7a4 15 = .ok (.iload_n 0, 1) := by decide +kernel
theorem dJ6_bitCount_0f7a4_16 : decode cJ6_bitCount_0f7a4 16 = .ok (.iconst 2, 1) := by decide +kernel
theorem dJ6_bitCount_0f7a4_17 : decode cJ6_bitCount_0f7a4 17 = .ok (.iushr, 1) := by decide +kernel
theorem dJ6_bitCount_0f7a4_18 : decode cJ6_bitCount_0f7a4 18 = .ok (.ldc_w 266, 3) := by decide +kernel
theorem dJ6_bitCount_0f7a4_21 : decode cJ6_bitCount_0f7a4 21 = .ok (.iand, 1) := by decide +kernel
theorem dJ6_bitCount_0f7a4_22 : decode cJ6_bitCount_0f7a4 22 = .ok (.iadd, 1) := by decide +kernel
theorem dJ6_bitCount_0f7a4_23 : decode cJ6_bitCount_0f7a4 23 = .ok (.istore_n 0, 1) := by decide +kernel
theorem dJ6_bitCount_0f7a4_24 : decode cJ6_bitCount_0f7a4 24 = .ok (.iload_n 0, 1) := by decide +kernel
theorem dJ6_bitCount_0f7a4_25 : decode cJ6_bitCount_0f7a4 25 = .ok (.iload_n 0, 1) := by decide +kernel
theorem dJ6_bitCount_0f7a4_26 : decode cJ6_bitCount_0f7a4 26 = .ok (.iconst 4, 1) := by decide +kernel
theorem dJ6_bitCount_0f7a4_27 : decode cJ6_bitCount_0f7a4 27 = .ok (.iushr, 1) := by decide +kernel
theorem dJ6_bitCount_0f7a4_28 : decode cJ6_bitCount_0f7a4 28 = .ok (.iadd, 1) := by decide +kernel
theorem dJ6_bitCount_0f7a4_29 : decode cJ6_bitCount_0f7a4 29 = .ok (.ldc_w 267, 3) := by decide +kernel
theorem dJ6_bitCount_0f7a4_32 : decode cJ6_bitCount_0f7a4 32 = .ok (.iand, 1) := by decide +kernel
theorem dJ6_bitCount_0f7a4_33 : decode cJ6_bitCount_0f7a4 33 = .ok (.istore_n 0, 1) := by decide +kernel
theorem dJ6_bitCount_0f7a4_34 : decode cJ6_bitCount_0f7a4 34 = .ok (.iload_n 0, 1) := by decide +kernel
theorem dJ6_bitCount_0f7a4_35 : decode cJ6_bitCount_0f7a4 35 = .ok (.iload_n 0, 1) := by decide +kernel
theorem dJ6_bitCount_0f7a4_36 : decode cJ6_bitCount_0f7a4 36 = .ok (.bipush 8, 2) := by decide +kernel
theorem dJ6_bitCount_0f7a4_38 : decode cJ6_bitCount_0f7a4 38 = .ok (.iushr, 1) := by decide +kernel
theorem dJ6_bitCount_0f7a4_39 : decode cJ6_bitCount_0f7a4 39 = .ok (.iadd, 1) := by decide +kernel
theorem dJ6_bitCount_0f7a4_40 : decode cJ6_bitCount_0f7a4 40 = .ok (.istore_n 0, 1) := by decide +kernel
theorem dJ6_bitCount_0f7a4_41 : decode cJ6_bitCount_0f7a4 41 = .ok (.iload_n 0, 1) := by decide +kernel
theorem dJ6_bitCount_0f7a4_42 : decode cJ6_bitCount_0f7a4 42 = .ok (.iload_n 0, 1) := by decide +kernel
theorem dJ6_bitCount_0f7a4_43 : decode cJ6_bitCount_0f7a4 43 = .ok (.bipush 16, 2) := by decide +kernel
theorem dJ6_bitCount_0f7a4_45 : decode cJ6_bitCount_0f7a4 45 = .ok (.iushr, 1) := by decide +kernel
theorem dJ6_bitCount_0f7a4_46 : decode cJ6_bitCount_0f7a4 46 = .ok (.iadd, 1) := by decide +kernel
theorem dJ6_bitCount_0f7a4_47 : decode cJ6_bitCount_0f7a4 47 = .ok (.istore_n 0, 1) := by decide +kernel
theorem dJ6_bitCount_0f7a4_48 : decode cJ6_bitCount_0f7a4 48 = .ok (.iload_n 0, 1) := by decide +kernel
theorem dJ6_bitCount_0f7a4_49 : decode cJ6_bitCount_0f7a4 49 = .ok (.bipush 63, 2) := by decide +kernel
theorem dJ6_bitCount_0f7a4_51 : decode cJ6_bitCount_0f7a4 51 = .ok (.iand, 1) := by decide +kernel
theorem dJ6_bitCount_0f7a4_52 : decode cJ6_bitCount_0f7a4 52 = .ok (.ireturn, 1) := by decide +kernel
theorem dJ9_abs_0f7a4_0 : decode cJ9_abs_0f7a4 0 = .ok (.iload_n 0, 1) := by decide +kernel
theorem dJ9_abs_0f7a4_1 : decode cJ9_abs_0f7a4 1 = .ok (.ifCond .ge 8, 3) := by decide +kernel
theorem dJ9_abs_0f7a4_4 : decode cJ9_abs_0f7a4 4 = .ok (.iload_n 0, 1) := by decide +kernel
theorem dJ9_abs_0f7a4_5 : decode cJ9_abs_0f7a4 5 = .ok (.ineg, 1) := by decide +kernel
theorem dJ9_abs_0f7a4_6 : decode cJ9_abs_0f7a4 6 = .ok (.goto 4, 3) := by decide +kernel
theorem dJ9_abs_0f7a4_9 : decode cJ9_abs_0f7a4 9 = .ok (.iload_n 0, 1) := by decide +kernel
theorem dJ9_abs_0f7a4_10 : decode cJ9_abs_0f7a4 10 = .ok (.ireturn, 1) := by decide +kernel
theorem dJ9_abs_067f4_0 : decode cJ9_abs_067f4 0 = .ok (.lload_n 0, 1) := by decide +kernel
theorem dJ9_abs_067f4_1 : decode cJ9_abs_067f4 1 = .ok (.lconst 0, 1) := by decide +kernel
theorem dJ9_abs_067f4_2 : decode cJ9_abs_067f4 2 = .ok (.lcmp, 1) := by decide +kernel
theorem dJ9_abs_067f4_3 : decode cJ9_abs_067f4 3 = .ok (.ifCond .ge 8, 3) := by decide +kernel
theorem dJ9_abs_067f4_6 : decode cJ9_abs_067f4 6 = .ok (.lload_n 0, 1) := by decide +kernel
theorem dJ9_abs_067f4_7 : decode cJ9_abs_067f4 7 = .ok (.lneg, 1) := by decide +kernel
theorem dJ9_abs_067f4_8 : decode cJ9_abs_067f4 8 = .ok (.goto 4, 3) := by decide +kernel
theorem dJ9_abs_067f4_11 : decode cJ9_abs_067f4 11 = .ok (.lload_n 0, 1) := by decide +kernel
theorem dJ9_abs_067f4_12 : decode cJ9_abs_067f4 12 = .ok (.lreturn, 1) := by decide +kernel
theorem dJ9_max_7cf53_0 : decode cJ9_max_7cf53 0 = .ok (.iload_n 0, 1) := by decide +kernel
theorem dJ9_max_7cf53_1 : decode cJ9_max_7cf53 1 = .ok (.iload_n 1, 1) := by decide +kernel
theorem dJ9_max_7cf53_2 : decode cJ9_max_7cf53 2 = .ok (.if_icmp .lt 7, 3) := by decide +kernel
theorem dJ9_max_7cf53_5 : decode cJ9_max_7cf53 5 = .ok (.iload_n 0, 1) := by decide +kernel
theorem dJ9_max_7cf53_6 : decode cJ9_max_7cf53 6 = .ok (.goto 4, 3) := by decide +kernel
theorem dJ9_max_7cf53_9 : decode cJ9_max_7cf53 9 = .ok (.iload_n 1, 1) := by decide +kernel
theorem dJ9_max_7cf53_10 : decode cJ9_max_7cf53 10 = .ok (.ireturn, 1) := by decide +kernel
theorem dJ9_max_f86c9_0 : decode cJ9_max_f86c9 0 = .ok (.lload_n 0, 1) := by decide +kernel
theorem dJ9_max_f86c9_1 : decode cJ9_max_f86c9 1 = .ok (.lload_n 2, 1) := by decide +kernel
theorem dJ9_max_f86c9_2 : decode cJ9_max_f86c9 2 = .ok (.lcmp, 1) := by decide +kernel
theorem dJ9_max_f86c9_3 : decode cJ9_max_f86c9 3 = .ok (.ifCond .lt 7, 3) := by decide +kernel
theorem dJ9_max_f86c9_6 : decode cJ9_max_f86c9 6 = .ok (.lload_n 0, 1) := by decide +kernel
theorem dJ9_max_f86c9_7 : decode cJ9_max_f86c9 7 = .ok (.goto 4, 3) := by decide +kernel
theorem dJ9_max_f86c9_10 : decode cJ9_max_f86c9 10 = .ok (.lload_n 2, 1) := by decide +kernel
theorem dJ9_max_f86c9_11 : decode cJ9_max_f86c9 11 = .ok (.lreturn, 1) := by decide +kernel
theorem dJ9_min_7cf53_0 : decode cJ9_min_7cf53 0 = .ok (.iload_n 0, 1) := by decide +kernel
theorem dJ9_min_7cf53_1 : decode cJ9_min_7cf53 1 = .ok (.iload_n 1, 1) := by decide +kernel
theorem dJ9_min_7cf53_2 : decode cJ9_min_7cf53 2 = .ok (.if_icmp .gt 7, 3) := by decide +kernel
theorem dJ9_min_7cf53_5 : decode cJ9_min_7cf53 5 = .ok (.iload_n 0, 1) := by decide +kernel
theorem dJ9_min_7cf53_6 : decode cJ9_min_7cf53 6 = .ok (.goto 4, 3) := by decide +kernel
theorem dJ9_min_7cf53_9 : decode cJ9_min_7cf53 9 = .ok (.iload_n 1, 1) := by decide +kernel
theorem dJ9_min_7cf53_10 : decode cJ9_min_7cf53 10 = .ok (.ireturn, 1) := by decide +kernel
theorem dJ0_length_8abf5_0 : decode cJ0_length_8abf5 0 = .ok (.aload_n 0, 1) := by decide +kernel
theorem dJ0_length_8abf5_1 : decode cJ0_length_8abf5 1 = .ok (.getfield 9, 3) := by decide +kernel
theorem dJ0_length_8abf5_4 : decode cJ0_length_8abf5 4 = .ok (.arraylength, 1) := by decide +kernel
theorem dJ0_length_8abf5_5 : decode cJ0_length_8abf5 5 = .ok (.aload_n 0, 1) := by decide +kernel
theorem dJ0_length_8abf5_6 : decode cJ0_length_8abf5 6 = .ok (.invokevirtual 335, 3) := by decide +kernel
theorem dJ0_length_8abf5_9 : decode cJ0_length_8abf5 9 = .ok (.ishr, 1) := by decide +kernel
theorem dJ0_length_8abf5_10 : decode cJ0_length_8abf5 10 = .ok (.ireturn, 1) := by decide +kernel
theorem dJ0_charAt_5068e_0 : decode cJ0_charAt_5068e 0 = .ok (.aload_n 0, 1) := by decide +kernel
theorem dJ0_charAt_5068e_1 : decode cJ0_charAt_5068e 1 = .ok (.invokevirtual 492, 3) := by decide +kernel
theorem dJ0_charAt_5068e_4 : decode cJ0_charAt_5068e 4 = .ok (.ifCond .eq 12, 3) := by decide +kernel
theorem dJ0_charAt_5068e_7 : decode cJ0_charAt_5068e 7 = .ok (.aload_n 0, 1) := by decide +kernel
theorem dJ0_charAt_5068e_8 : decode cJ0_charAt_5068e 8 = .ok (.getfield 9, 3) := by decide +kernel
theorem dJ0_charAt_5068e_11 : decode cJ0_charAt_5068e 11 = .ok (.iload_n 1, 1) := by decide +kernel
theorem dJ0_charAt_5068e_12 : decode cJ0_charAt_5068e 12 = .ok (.invokestatic 495, 3) := by decide +kernel
theorem dJ0_charAt_5068e_15 : decode cJ0_charAt_5068e 15 = .ok (.ireturn, 1) := by decide +kernel
theorem dJ0_charAt_5068e_16 : decode cJ0_charAt_5068e 16 = .ok (.aload_n 0, 1) := by decide +kernel
theorem dJ0_charAt_5068e_17 : decode cJ0_charAt_5068e 17 = .ok (.getfield 9, 3) := by decide +kernel
theorem dJ0_charAt_5068e_20 : decode cJ0_charAt_5068e 20 = .ok (.iload_n 1, 1) := by decide +kernel
theorem dJ0_charAt_5068e_21 : decode cJ0_charAt_5068e 21 = .ok (.invokestatic 498, 3) := by decide +kernel
theorem dJ0_charAt_5068e_24 : decode cJ0_charAt_5068e 24 = .ok (.ireturn, 1) := by decide +kernel
theorem dJ0_coder_7d493_0 : decode cJ0_coder_7d493 0 = .ok (.getstatic 38, 3) := by decide +kernel
theorem dJ0_coder_7d493_3 : decode cJ0_coder_7d493 3 = .ok (.ifCond .eq 10, 3) := by decide +kernel
theorem dJ0_coder_7d493_6 : decode cJ0_coder_7d493 6 = .ok (.aload_n 0, 1) := by decide +kernel
theorem dJ0_coder_7d493_7 : decode cJ0_coder_7d493 7 = .ok (.getfield 15, 3) := by decide +kernel
theorem dJ0_coder_7d493_10 : decode cJ0_coder_7d493 10 = .ok (.goto 4, 3) := by decide +kernel
theorem dJ0_coder_7d493_13 : decode cJ0_coder_7d493 13 = .ok (.iconst 1, 1) := by decide +kernel
theorem dJ0_coder_7d493_14 : decode cJ0_coder_7d493 14 = .ok (.ireturn, 1) := by decide +kernel
theorem dJ0_isLatin1_aae02_0 : decode cJ0_isLatin1_aae02 0 = .ok (.getstatic 38, 3) := by decide +kernel
theorem dJ0_isLatin1_aae02_3 : decode cJ0_isLatin1_aae02 3 = .ok (.ifCond .eq 14, 3) := by decide +kernel
theorem dJ0_isLatin1_aae02_6 : decode cJ0_isLatin1_aae02 6 = .ok (.aload_n 0, 1) := by decide +kernel
theorem dJ0_isLatin1_aae02_7 : decode cJ0_isLatin1_aae02 7 = .ok (.getfield 15, 3) := by decide +kernel
theorem dJ0_isLatin1_aae02_10 : decode cJ0_isLatin1_aae02 10 = .ok (.ifCond .ne 7, 3) := by decide +kernel
theorem dJ0_isLatin1_aae02_13 : decode cJ0_isLatin1_aae02 13 = .ok (.iconst 1, 1) := by decide +kernel
theorem dJ0_isLatin1_aae02_14 : decode cJ0_isLatin1_aae02 14 = .ok (.goto 4, 3) := by decide +kernel
theorem dJ0_isLatin1_aae02_17 : decode cJ0_isLatin1_aae02 17 = .ok (.iconst 0, 1) := by decide +kernel
theorem dJ0_isLatin1_aae02_18 : decode cJ0_isLatin1_aae02 18 = .ok (.ireturn, 1) := by decide +kernel
theorem dJ0_checkIndex_df160_0 : decode cJ0_checkIndex_df160 0 = .ok (.iload_n 0, 1) := by decide +kernel
theorem dJ0_checkIndex_df160_1 : decode cJ0_checkIndex_df160 1 = .ok (.iload_n 1, 1) := by decide +kernel
theorem dJ0_checkIndex_df160_2 : decode cJ0_checkIndex_df160 2 = .ok (.getstatic 1053, 3) := by decide +kernel
theorem dJ0_checkIndex_df160_5 : decode cJ0_checkIndex_df160 5 = .ok (.invokestatic 1059, 3) := by decide +kernel
theorem dJ0_checkIndex_df160_8 : decode cJ0_checkIndex_df160 8 = .ok (.pop, 1) := by decide +kernel
theorem dJ0_checkIndex_df160_9 : decode cJ0_checkIndex_df160 9 = .ok (.return_, 1) := by decide +kernel
theorem dJ1_charAt_3b067_0 : decode cJ1_charAt_3b067 0 = .ok (.iload_n 1, 1) := by decide +kernel
theorem dJ1_charAt_3b067_1 : decode cJ1_charAt_3b067 1 = .ok (.aload_n 0, 1) := by decide +kernel
theorem dJ1_charAt_3b067_2 : decode cJ1_charAt_3b067 2 = .ok (.arraylength, 1) := by decide +kernel
theorem dJ1_charAt_3b067_3 : decode cJ1_charAt_3b067 3 = .ok (.invokestatic 9, 3) := by decide +kernel
theorem dJ1_charAt_3b067_6 : decode cJ1_charAt_3b067 6 = .ok (.aload_n 0, 1) := by decide +kernel
theorem dJ1_charAt_3b067_7 : decode cJ1_charAt_3b067 7 = .ok (.iload_n 1, 1) := by decide +kernel
theorem dJ1_charAt_3b067_8 : decode cJ1_charAt_3b067 8 = .ok (.baload, 1) := by decide +kernel
theorem dJ1_charAt_3b067_9 : decode cJ1_charAt_3b067 9 = .ok (.sipush 255, 3) := by decide +kernel
theorem dJ1_charAt_3b067_12 : decode cJ1_charAt_3b067 12 = .ok (.iand, 1) := by decide +kernel
theorem dJ1_charAt_3b067_13 : decode cJ1_charAt_3b067 13 = .ok (.i2c, 1) := by decide +kernel
theorem dJ1_charAt_3b067_14 : decode cJ1_charAt_3b067 14 = .ok (.ireturn, 1) := by decide +kernel
theorem dJ2_getChar_3b067_0 : decode cJ2_getChar_3b067 0 = .ok (.getstatic 44, 3) := by decide +kernel
theorem dJ2_getChar_3b067_3 : decode cJ2_getChar_3b067 3 = .ok (.ifCond .ne 25, 3) := by decide +kernel
theorem dJ2_getChar_3b067_6 : decode cJ2_getChar_3b067 6 = .ok (.iload_n 1, 1) := by decide +kernel
theorem dJ2_getChar_3b067_7 : decode cJ2_getChar_3b067 7 = .ok (.ifCond .lt 11, 3) := by decide +kernel
theorem dJ2_getChar_3b067_10 : decode cJ2_getChar_3b067 10 = .ok (.iload_n 1, 1) := by decide +kernel
theorem dJ2_getChar_3b067_11 : decode cJ2_getChar_3b067 11 = .ok (.aload_n 0, 1) := by decide +kernel
theorem dJ2_getChar_3b067_12 : decode cJ2_getChar_3b067 12 = .ok (.invokestatic 48, 3) := by decide +kernel
theorem dJ2_getChar_3b067_15 : decode cJ2_getChar_3b067 15 = .ok (.if_icmp .lt 13, 3) := by decide +kernel
theorem dJ2_getChar_3b067_18 : decode cJ2_getChar_3b067 18 = .ok (.new 52, 3) := by decide +kernel
theorem dJ2_getChar_3b067_21 : decode cJ2_getChar_3b067 21 = .ok (.dup, 1) := by decide +kernel
theorem dJ2_getChar_3b067_22 : decode cJ2_getChar_3b067 22 = .ok (.ldc 54, 2) := by decide +kernel
theorem dJ2_getChar_3b067_24 : decode cJ2_getChar_3b067 24 = .ok (.invokespecial 56, 3) := by decide +kernel
theorem dJ2_getChar_3b067_27 : decode cJ2_getChar_3b067 27 = .ok (.athrow, 1) := by decide +kernel
theorem dJ2_getChar_3b067_28 : decode cJ2_getChar_3b067 28 = .ok (.iload_n 1, 1) := by decide +kernel
theorem dJ2_getChar_3b067_29 : decode cJ2_getChar_3b067 29 = .ok (.iconst 1, 1) := by decide +kernel
theorem dJ2_getChar_3b067_30 : decode cJ2_getChar_3b067 30 = .ok (.ishl, 1) := by decide +kernel
theorem dJ2_getChar_3b067_31 : decode cJ2_getChar_3b067 31 = .ok (.istore_n 1, 1) := by decide +kernel
theorem dJ2_getChar_3b067_32 : decode cJ2_getChar_3b067 32 = .ok (.aload_n 0, 1) := by decide +kernel
theorem dJ2_getChar_3b067_33 : decode cJ2_getChar_3b067 33 = .ok (.iload_n 1, 1) := by decide +kernel
theorem dJ2_getChar_3b067_34 : decode cJ2_getChar_3b067 34 = .ok (.iinc 1 1, 3) := by decide +kernel
theorem dJ2_getChar_3b067_37 : decode cJ2_getChar_3b067 37 = .ok (.baload, 1) := by decide +kernel
theorem dJ2_getChar_3b067_38 : decode cJ2_getChar_3b067 38 = .ok (.sipush 255, 3) := by decide +kernel
theorem dJ2_getChar_3b067_41 : decode cJ2_getChar_3b067 41 = .ok (.iand, 1) := by decide +kernel
theorem dJ2_getChar_3b067_42 : decode cJ2_getChar_3b067 42 = .ok (.getstatic 59, 3) := by decide +kernel
theorem dJ2_getChar_3b067_45 : decode cJ2_getChar_3b067 45 = .ok (.ishl, 1) := by decide +kernel
theorem dJ2_getChar_3b067_46 : decode cJ2_getChar_3b067 46 = .ok (.aload_n 0, 1) := by decide +kernel
theorem dJ2_getChar_3b067_47 : decode cJ2_getChar_3b067 47 = .ok (.iload_n 1, 1) := by decide +kernel
theorem dJ2_getChar_3b067_48 : decode cJ2_getChar_3b067 48 = .ok (.baload, 1) := by decide +kernel
theorem dJ2_getChar_3b067_49 : decode cJ2_getChar_3b067 49 = .ok (.sipush 255, 3) := by decide +kernel
theorem dJ2_getChar_3b067_52 : decode cJ2_getChar_3b067 52 = .ok (.iand, 1) := by decide +kernel
theorem dJ2_getChar_3b067_53 : decode cJ2_getChar_3b067 53 = .ok (.getstatic 63, 3) := by decide +kernel
theorem dJ2_getChar_3b067_56 : decode cJ2_getChar_3b067 56 = .ok (.ishl, 1) := by decide +kernel
theorem dJ2_getChar_3b067_57 : decode cJ2_getChar_3b067 57 = .ok (.ior, 1) := by decide +kernel
theorem dJ2_getChar_3b067_58 : decode cJ2_getChar_3b067 58 = .ok (.i2c, 1) := by decide +kernel
theorem dJ2_getChar_3b067_59 : decode cJ2_getChar_3b067 59 = .ok (.ireturn, 1) := by decide +kernel
theorem dJ2_length_9d52b_0 : decode cJ2_length_9d52b 0 = .ok (.aload_n 0, 1) := by decide +kernel
theorem dJ2_length_9d52b_1 : decode cJ2_length_9d52b 1 = .ok (.arraylength, 1) := by decide +kernel
theorem dJ2_length_9d52b_2 : decode cJ2_length_9d52b 2 = .ok (.iconst 1, 1) := by decide +kernel
theorem dJ2_length_9d52b_3 : decode cJ2_length_9d52b 3 = .ok (.ishr, 1) := by decide +kernel
theorem dJ2_length_9d52b_4 : decode cJ2_length_9d52b 4 = .ok (.ireturn, 1) := by decide +kernel
theorem dJ2_charAt_3b067_0 : decode cJ2_charAt_3b067 0 = .ok (.iload_n 1, 1) := by decide +kernel
theorem dJ2_charAt_3b067_1 : decode cJ2_charAt_3b067 1 = .ok (.aload_n 0, 1) := by decide +kernel
theorem dJ2_charAt_3b067_2 : decode cJ2_charAt_3b067 2 = .ok (.invokestatic 67, 3) := by decide +kernel
theorem dJ2_charAt_3b067_5 : decode cJ2_charAt_3b067 5 = .ok (.aload_n 0, 1) := by decide +kernel
theorem dJ2_charAt_3b067_6 : decode cJ2_charAt_3b067 6 = .ok (.iload_n 1, 1) := by decide +kernel
theorem dJ2_charAt_3b067_7 : decode cJ2_charAt_3b067 7 = .ok (.invokestatic 71, 3) := by decide +kernel
theorem dJ2_charAt_3b067_10 : decode cJ2_charAt_3b067 10 = .ok (.ireturn, 1) := by decide +kernel
theorem dJ2_checkIndex_2214a_0 : decode cJ2_checkIndex_2214a 0 = .ok (.iload_n 0, 1) := by decide +kernel
theorem dJ2_checkIndex_2214a_1 : decode cJ2_checkIndex_2214a 1 = .ok (.aload_n 1, 1) := by decide +kernel
theorem dJ2_checkIndex_2214a_2 : decode cJ2_checkIndex_2214a 2 = .ok (.invokestatic 48, 3) := by decide +kernel
theorem dJ2_checkIndex_2214a_5 : decode cJ2_checkIndex_2214a 5 = .ok (.invokestatic 414, 3) := by decide +kernel
theorem dJ2_checkIndex_2214a_8 : decode cJ2_checkIndex_2214a 8 = .ok (.return_, 1) := by decide +kernel
theorem dJ3_checkIndex_8e157_0 : decode cJ3_checkIndex_8e157 0 = .ok (.iload_n 0, 1) := by decide +kernel
theorem dJ3_checkIndex_8e157_1 : decode cJ3_checkIndex_8e157 1 = .ok (.ifCond .lt 8, 3) := by decide +kernel
theorem dJ3_checkIndex_8e157_4 : decode cJ3_checkIndex_8e157 4 = .ok (.iload_n 0, 1) := by decide +kernel
theorem dJ3_checkIndex_8e157_5 : decode cJ3_checkIndex_8e157 5 = .ok (.iload_n 1, 1) := by decide +kernel
theorem dJ3_checkIndex_8e157_6 : decode cJ3_checkIndex_8e157 6 = .ok (.if_icmp .lt 10, 3) := by decide +kernel
theorem dJ3_checkIndex_8e157_9 : decode cJ3_checkIndex_8e157 9 = .ok (.aload_n 2, 1) := by decide +kernel
theorem dJ3_checkIndex_8e157_10 : decode cJ3_checkIndex_8e157 10 = .ok (.iload_n 0, 1) := by decide +kernel
theorem dJ3_checkIndex_8e157_11 : decode cJ3_checkIndex_8e157 11 = .ok (.iload_n 1, 1) := by decide +kernel
theorem dJ3_checkIndex_8e157_12 : decode cJ3_checkIndex_8e157 12 = .ok (.invokestatic 95, 3) := by decide +kernel
theorem dJ3_checkIndex_8e157_15 : decode cJ3_checkIndex_8e157 15 = .ok (.athrow, 1) := by decide +kernel
theorem dJ3_checkIndex_8e157_16 : decode cJ3_checkIndex_8e157 16 = .ok (.iload_n 0, 1) := by decide +kernel
theorem dJ3_checkIndex_8e157_17 : decode cJ3_checkIndex_8e157 17 = .ok (.ireturn, 1) := by decide +kernel
theorem dL_law_0 : decode cL_law 0 = .ok (.new 7, 3) := by decide +kernel
theorem dL_law_3 : decode cL_law 3 = .ok (.dup, 1) := by decide +kernel
theorem dL_law_4 : decode cL_law 4 = .ok (.invokespecial 9, 3) := by decide +kernel
theorem dL_law_7 : decode cL_law 7 = .ok (.astore_n 1, 1) := by decide +kernel
theorem dL_law_8 : decode cL_law 8 = .ok (.new 10, 3) := by decide +kernel
theorem dL_law_11 : decode cL_law 11 = .ok (.dup, 1) := by decide +kernel
theorem dL_law_12 : decode cL_law 12 = .ok (.invokespecial 12, 3) := by decide +kernel
theorem dL_law_15 : decode cL_law 15 = .ok (.astore_n 2, 1) := by decide +kernel
theorem dL_law_16 : decode cL_law 16 = .ok (.iconst 0, 1) := by decide +kernel
theorem dL_law_17 : decode cL_law 17 = .ok (.istore_n 3, 1) := by decide +kernel
theorem dL_law_18 : decode cL_law 18 = .ok (.iload_n 3, 1) := by decide +kernel
theorem dL_law_19 : decode cL_law 19 = .ok (.aload_n 0, 1) := by decide +kernel
theorem dL_law_20 : decode cL_law 20 = .ok (.arraylength, 1) := by decide +kernel
theorem dL_law_21 : decode cL_law 21 = .ok (.bipush 8, 2) := by decide +kernel
theorem dL_law_23 : decode cL_law 23 = .ok (.isub, 1) := by decide +kernel
theorem dL_law_24 : decode cL_law 24 = .ok (.if_icmp .gt 948, 3) := by decide +kernel
theorem dL_law_27 : decode cL_law 27 = .ok (.aload_n 0, 1) := by decide +kernel
theorem dL_law_28 : decode cL_law 28 = .ok (.iload_n 3, 1) := by decide +kernel
theorem dL_law_29 : decode cL_law 29 = .ok (.iaload, 1) := by decide +kernel
theorem dL_law_30 : decode cL_law 30 = .ok (.bipush 31, 2) := by decide +kernel
theorem dL_law_32 : decode cL_law 32 = .ok (.iand, 1) := by decide +kernel
theorem dL_law_33 : decode cL_law 33 = .ok (.tableswitch 933 0 23 #[111, 134, 147, 210, 233, 256, 269, 282, 305, 358, 446, 479, 523, 566, 609, 642, 675, 698, 741, 775, 850, 874, 897, 920], 111) := by decide +kernel
theorem dL_law_144 : decode cL_law 144 = .ok (.aload_n 1, 1) := by decide +kernel
theorem dL_law_145 : decode cL_law 145 = .ok (.aload_n 0, 1) := by decide +kernel
theorem dL_law_146 : decode cL_law 146 = .ok (.iload_n 3, 1) := by decide +kernel
theorem dL_law_147 : decode cL_law 147 = .ok (.iconst 1, 1) := by decide +kernel
theorem dL_law_148 : decode cL_law 148 = .ok (.iadd, 1) := by decide +kernel
theorem dL_law_149 : decode cL_law 149 = .ok (.iaload, 1) := by decide +kernel
theorem dL_law_150 : decode cL_law 150 = .ok (.invokevirtual 13, 3) := by decide +kernel
theorem dL_law_153 : decode cL_law 153 = .ok (.aload_n 2, 1) := by decide +kernel
theorem dL_law_154 : decode cL_law 154 = .ok (.aload_n 0, 1) := by decide +kernel
theorem dL_law_155 : decode cL_law 155 = .ok (.iload_n 3, 1) := by decide +kernel
theorem dL_law_156 : decode cL_law 156 = .ok (.iconst 1, 1) := by decide +kernel
theorem dL_law_157 : decode cL_law 157 = .ok (.iadd, 1) := by decide +kernel
theorem dL_law_158 : decode cL_law 158 = .ok (.iaload, 1) := by decide +kernel
theorem dL_law_159 : decode cL_law 159 = .ok (.invokevirtual 17, 3) := by decide +kernel
theorem dL_law_162 : decode cL_law 162 = .ok (.if_icmp .eq 804, 3) := by decide +kernel
theorem dL_law_165 : decode cL_law 165 = .ok (.iconst 0, 1) := by decide +kernel
theorem dL_law_166 : decode cL_law 166 = .ok (.ireturn, 1) := by decide +kernel
theorem dL_law_167 : decode cL_law 167 = .ok (.aload_n 1, 1) := by decide +kernel
theorem dL_law_168 : decode cL_law 168 = .ok (.invokevirtual 18, 3) := by decide +kernel
theorem dL_law_171 : decode cL_law 171 = .ok (.aload_n 2, 1) := by decide +kernel
theorem dL_law_172 : decode cL_law 172 = .ok (.invokevirtual 22, 3) := by decide +kernel
theorem dL_law_175 : decode cL_law 175 = .ok (.if_icmp .eq 791, 3) := by decide +kernel
theorem dL_law_178 : decode cL_law 178 = .ok (.iconst 0, 1) := by decide +kernel
theorem dL_law_179 : decode cL_law 179 = .ok (.ireturn, 1) := by decide +kernel
theorem dL_law_180 : decode cL_law 180 = .ok (.aload_n 1, 1) := by decide +kernel
theorem dL_law_181 : decode cL_law 181 = .ok (.aload_n 0, 1) := by decide +kernel
theorem dL_law_182 : decode cL_law 182 = .ok (.iload_n 3, 1) := by decide +kernel
theorem dL_law_183 : decode cL_law 183 = .ok (.iconst 1, 1) := by decide +kernel
theorem dL_law_184 : decode cL_law 184 = .ok (.iadd, 1) := by decide +kernel
theorem dL_law_185 : decode cL_law 185 = .ok (.iaload, 1) := by decide +kernel
theorem dL_law_186 : decode cL_law 186 = .ok (.aload_n 0, 1) := by decide +kernel
theorem dL_law_187 : decode cL_law 187 = .ok (.iload_n 3, 1) := by decide +kernel
theorem dL_law_188 : decode cL_law 188 = .ok (.iconst 2, 1) := by decide +kernel
theorem dL_law_189 : decode cL_law 189 = .ok (.iadd, 1) := by decide +kernel
theorem dL_law_190 : decode cL_law 190 = .ok (.iaload, 1) := by decide +kernel
theorem dL_law_191 : decode cL_law 191 = .ok (.aload_n 0, 1) := by decide +kernel
theorem dL_law_192 : decode cL_law 192 = .ok (.iload_n 3, 1) := by decide +kernel
theorem dL_law_193 : decode cL_law 193 = .ok (.iconst 3, 1) := by decide +kernel
theorem dL_law_194 : decode cL_law 194 = .ok (.iadd, 1) := by decide +kernel
theorem dL_law_195 : decode cL_law 195 = .ok (.iaload, 1) := by decide +kernel
theorem dL_law_196 : decode cL_law 196 = .ok (.aload_n 0, 1) := by decide +kernel
theorem dL_law_197 : decode cL_law 197 = .ok (.iload_n 3, 1) := by decide +kernel
theorem dL_law_198 : decode cL_law 198 = .ok (.iconst 4, 1) := by decide +kernel
theorem dL_law_199 : decode cL_law 199 = .ok (.iadd, 1) := by decide +kernel
theorem dL_law_200 : decode cL_law 200 = .ok (.iaload, 1) := by decide +kernel
theorem dL_law_201 : decode cL_law 201 = .ok (.aload_n 0, 1) := by decide +kernel
theorem dL_law_202 : decode cL_law 202 = .ok (.iload_n 3, 1) := by decide +kernel
theorem dL_law_203 : decode cL_law 203 = .ok (.iconst 5, 1) := by decide +kernel
theorem dL_law_204 : decode cL_law 204 = .ok (.iadd, 1) := by decide +kernel
theorem dL_law_205 : decode cL_law 205 = .ok (.iaload, 1) := by decide +kernel
theorem dL_law_206 : decode cL_law 206 = .ok (.invokevirtual 23, 3) := by decide +kernel
theorem dL_law_209 : decode cL_law 209 = .ok (.aload_n 2, 1) := by decide +kernel
theorem dL_law_210 : decode cL_law 210 = .ok (.aload_n 0, 1) := by decide +kernel
theorem dL_law_211 : decode cL_law 211 = .ok (.iload_n 3, 1) := by decide +kernel
theorem dL_law_212 : decode cL_law 212 = .ok (.iconst 1, 1) := by decide +kernel
theorem dL_law_213 : decode cL_law 213 = .ok (.iadd, 1) := by decide +kernel
theorem dL_law_214 : decode cL_law 214 = .ok (.iaload, 1) := by decide +kernel
theorem dL_law_215 : decode cL_law 215 = .ok (.aload_n 0, 1) := by decide +kernel
theorem dL_law_216 : decode cL_law 216 = .ok (.iload_n 3, 1) := by decide +kernel
theorem dL_law_217 : decode cL_law 217 = .ok (.iconst 2, 1) := by decide +kernel
theorem dL_law_218 : decode cL_law 218 = .ok (.iadd, 1) := by decide +kernel
theorem dL_law_219 : decode cL_law 219 = .ok (.iaload, 1) := by decide +kernel
theorem dL_law_220 : decode cL_law 220 = .ok (.aload_n 0, 1) := by decide +kernel
theorem dL_law_221 : decode cL_law 221 = .ok (.iload_n 3, 1) := by decide +kernel
theorem dL_law_222 : decode cL_law 222 = .ok (.iconst 3, 1) := by decide +kernel
theorem dL_law_223 : decode cL_law 223 = .ok (.iadd, 1) := by decide +kernel
theorem dL_law_224 : decode cL_law 224 = .ok (.iaload, 1) := by decide +kernel
theorem dL_law_225 : decode cL_law 225 = .ok (.aload_n 0, 1) := by decide +kernel
theorem dL_law_226 : decode cL_law 226 = .ok (.iload_n 3, 1) := by decide +kernel
theorem dL_law_227 : decode cL_law 227 = .ok (.iconst 4, 1) := by decide +kernel
theorem dL_law_228 : decode cL_law 228 = .ok (.iadd, 1) := by decide +kernel
theorem dL_law_229 : decode cL_law 229 = .ok (.iaload, 1) := by decide +kernel
theorem dL_law_230 : decode cL_law 230 = .ok (.aload_n 0, 1) := by decide +kernel
theorem dL_law_231 : decode cL_law 231 = .ok (.iload_n 3, 1) := by decide +kernel
theorem dL_law_232 : decode cL_law 232 = .ok (.iconst 5, 1) := by decide +kernel
theorem dL_law_233 : decode cL_law 233 = .ok (.iadd, 1) := by decide +kernel
theorem dL_law_234 : decode cL_law 234 = .ok (.iaload, 1) := by decide +kernel
theorem dL_law_235 : decode cL_law 235 = .ok (.invokevirtual 27, 3) := by decide +kernel
theorem dL_law_238 : decode cL_law 238 = .ok (.if_icmp .eq 728, 3) := by decide +kernel
theorem dL_law_241 : decode cL_law 241 = .ok (.iconst 0, 1) := by decide +kernel
theorem dL_law_242 : decode cL_law 242 = .ok (.ireturn, 1) := by decide +kernel
theorem dL_law_243 : decode cL_law 243 = .ok (.aload_n 1, 1) := by decide +kernel
theorem dL_law_244 : decode cL_law 244 = .ok (.aload_n 0, 1) := by decide +kernel
theorem dL_law_245 : decode cL_law 245 = .ok (.iload_n 3, 1) := by decide +kernel
theorem dL_law_246 : decode cL_law 246 = .ok (.iconst 1, 1) := by decide +kernel
theorem dL_law_247 : decode cL_law 247 = .ok (.iadd, 1) := by decide +kernel
theorem dL_law_248 : decode cL_law 248 = .ok (.iaload, 1) := by decide +kernel
theorem dL_law_249 : decode cL_law 249 = .ok (.invokevirtual 28, 3) := by decide +kernel
theorem dL_law_252 : decode cL_law 252 = .ok (.aload_n 2, 1) := by decide +kernel
theorem dL_law_253 : decode cL_law 253 = .ok (.aload_n 0, 1) := by decide +kernel
theorem dL_law_254 : decode cL_law 254 = .ok (.iload_n 3, 1) := by decide +kernel
theorem dL_law_255 : decode cL_law 255 = .ok (.iconst 1, 1) := by decide +kernel
theorem dL_law_256 : decode cL_law 256 = .ok (.iadd, 1) := by decide +kernel
theorem dL_law_257 : decode cL_law 257 = .ok (.iaload, 1) := by decide +kernel
theorem dL_law_258 : decode cL_law 258 = .ok (.invokevirtual 31, 3) := by decide +kernel
theorem dL_law_261 : decode cL_law 261 = .ok (.if_icmp .eq 705, 3) := by decide +kernel
theorem dL_law_264 : decode cL_law 264 = .ok (.iconst 0, 1) := by decide +kernel
theorem dL_law_265 : decode cL_law 265 = .ok (.ireturn, 1) := by decide +kernel
theorem dL_law_266 : decode cL_law 266 = .ok (.aload_n 1, 1) := by decide +kernel
theorem dL_law_267 : decode cL_law 267 = .ok (.aload_n 0, 1) := by decide +kernel
theorem dL_law_268 : decode cL_law 268 = .ok (.iload_n 3, 1) := by decide +kernel
theorem dL_law_269 : decode cL_law 269 = .ok (.iconst 1, 1) := by decide +kernel
theorem dL_law_270 : decode cL_law 270 = .ok (.iadd, 1) := by decide +kernel
theorem dL_law_271 : decode cL_law 271 = .ok (.iaload, 1) := by decide +kernel
theorem dL_law_272 : decode cL_law 272 = .ok (.invokevirtual 32, 3) := by decide +kernel
theorem dL_law_275 : decode cL_law 275 = .ok (.aload_n 2, 1) := by decide +kernel
theorem dL_law_276 : decode cL_law 276 = .ok (.aload_n 0, 1) := by decide +kernel
theorem dL_law_277 : decode cL_law 277 = .ok (.iload_n 3, 1) := by decide +kernel
theorem dL_law_278 : decode cL_law 278 = .ok (.iconst 1, 1) := by decide +kernel
theorem dL_law_279 : decode cL_law 279 = .ok (.iadd, 1) := by decide +kernel
theorem dL_law_280 : decode cL_law 280 = .ok (.iaload, 1) := by decide +kernel
theorem dL_law_281 : decode cL_law 281 = .ok (.invokevirtual 35, 3) := by decide +kernel
theorem dL_law_284 : decode cL_law 284 = .ok (.if_icmp .eq 682, 3) := by decide +kernel
theorem dL_law_287 : decode cL_law 287 = .ok (.iconst 0, 1) := by decide +kernel
theorem dL_law_288 : decode cL_law 288 = .ok (.ireturn, 1) := by decide +kernel
theorem dL_law_289 : decode cL_law 289 = .ok (.aload_n 1, 1) := by decide +kernel
theorem dL_law_290 : decode cL_law 290 = .ok (.invokevirtual 36, 3) := by decide +kernel
theorem dL_law_293 : decode cL_law 293 = .ok (.aload_n 2, 1) := by decide +kernel
theorem dL_law_294 : decode cL_law 294 = .ok (.invokevirtual 39, 3) := by decide +kernel
theorem dL_law_297 : decode cL_law 297 = .ok (.if_icmp .eq 669, 3) := by decide +kernel
theorem dL_law_300 : decode cL_law 300 = .ok (.iconst 0, 1) := by decide +kernel
theorem dL_law_301 : decode cL_law 301 = .ok (.ireturn, 1) := by decide +kernel
theorem dL_law_302 : decode cL_law 302 = .ok (.aload_n 1, 1) := by decide +kernel
theorem dL_law_303 : decode cL_law 303 = .ok (.invokevirtual 40, 3) := by decide +kernel
theorem dL_law_306 : decode cL_law 306 = .ok (.aload_n 2, 1) := by decide +kernel
theorem dL_law_307 : decode cL_law 307 = .ok (.invokevirtual 43, 3) := by decide +kernel
theorem dL_law_310 : decode cL_law 310 = .ok (.if_icmp .eq 656, 3) := by decide +kernel
theorem dL_law_313 : decode cL_law 313 = .ok (.iconst 0, 1) := by decide +kernel
theorem dL_law_314 : decode cL_law 314 = .ok (.ireturn, 1) := by decide +kernel
theorem dL_law_315 : decode cL_law 315 = .ok (.aload_n 1, 1) := by decide +kernel
theorem dL_law_316 : decode cL_law 316 = .ok (.aload_n 0, 1) := by decide +kernel
theorem dL_law_317 : decode cL_law 317 = .ok (.iload_n 3, 1) := by decide +kernel
theorem dL_law_318 : decode cL_law 318 = .ok (.iconst 1, 1) := by decide +kernel
theorem dL_law_319 : decode cL_law 319 = .ok (.iadd, 1) := by decide +kernel
theorem dL_law_320 : decode cL_law 320 = .ok (.iaload, 1) := by decide +kernel
theorem dL_law_321 : decode cL_law 321 = .ok (.invokevirtual 44, 3) := by decide +kernel
theorem dL_law_324 : decode cL_law 324 = .ok (.aload_n 2, 1) := by decide +kernel
theorem dL_law_325 : decode cL_law 325 = .ok (.aload_n 0, 1) := by decide +kernel
theorem dL_law_326 : decode cL_law 326 = .ok (.iload_n 3, 1) := by decide +kernel
theorem dL_law_327 : decode cL_law 327 = .ok (.iconst 1, 1) := by decide +kernel
theorem dL_law_328 : decode cL_law 328 = .ok (.iadd, 1) := by decide +kernel
theorem dL_law_329 : decode cL_law 329 = .ok (.iaload, 1) := by decide +kernel
theorem dL_law_330 : decode cL_law 330 = .ok (.invokevirtual 47, 3) := by decide +kernel
theorem dL_law_333 : decode cL_law 333 = .ok (.if_icmp .eq 633, 3) := by decide +kernel
theorem dL_law_336 : decode cL_law 336 = .ok (.iconst 0, 1) := by decide +kernel
theorem dL_law_337 : decode cL_law 337 = .ok (.ireturn, 1) := by decide +kernel
theorem dL_law_338 : decode cL_law 338 = .ok (.aload_n 1, 1) := by decide +kernel
theorem dL_law_339 : decode cL_law 339 = .ok (.aload_n 0, 1) := by decide +kernel
theorem dL_law_340 : decode cL_law 340 = .ok (.iload_n 3, 1) := by decide +kernel
theorem dL_law_341 : decode cL_law 341 = .ok (.iconst 1, 1) := by decide +kernel
theorem dL_law_342 : decode cL_law 342 = .ok (.iadd, 1) := by decide +kernel
theorem dL_law_343 : decode cL_law 343 = .ok (.iaload, 1) := by decide +kernel
theorem dL_law_344 : decode cL_law 344 = .ok (.aload_n 0, 1) := by decide +kernel
theorem dL_law_345 : decode cL_law 345 = .ok (.iload_n 3, 1) := by decide +kernel
theorem dL_law_346 : decode cL_law 346 = .ok (.iconst 2, 1) := by decide +kernel
theorem dL_law_347 : decode cL_law 347 = .ok (.iadd, 1) := by decide +kernel
theorem dL_law_348 : decode cL_law 348 = .ok (.iaload, 1) := by decide +kernel
theorem dL_law_349 : decode cL_law 349 = .ok (.aload_n 0, 1) := by decide +kernel
theorem dL_law_350 : decode cL_law 350 = .ok (.iload_n 3, 1) := by decide +kernel
theorem dL_law_351 : decode cL_law 351 = .ok (.iconst 3, 1) := by decide +kernel
theorem dL_law_352 : decode cL_law 352 = .ok (.iadd, 1) := by decide +kernel
theorem dL_law_353 : decode cL_law 353 = .ok (.iaload, 1) := by decide +kernel
theorem dL_law_354 : decode cL_law 354 = .ok (.aload_n 0, 1) := by decide +kernel
theorem dL_law_355 : decode cL_law 355 = .ok (.iload_n 3, 1) := by decide +kernel
theorem dL_law_356 : decode cL_law 356 = .ok (.iconst 4, 1) := by decide +kernel
theorem dL_law_357 : decode cL_law 357 = .ok (.iadd, 1) := by decide +kernel
theorem dL_law_358 : decode cL_law 358 = .ok (.iaload, 1) := by decide +kernel
theorem dL_law_359 : decode cL_law 359 = .ok (.invokevirtual 48, 3) := by decide +kernel
theorem dL_law_362 : decode cL_law 362 = .ok (.aload_n 2, 1) := by decide +kernel
theorem dL_law_363 : decode cL_law 363 = .ok (.aload_n 0, 1) := by decide +kernel
theorem dL_law_364 : decode cL_law 364 = .ok (.iload_n 3, 1) := by decide +kernel
theorem dL_law_365 : decode cL_law 365 = .ok (.iconst 1, 1) := by decide +kernel
theorem dL_law_366 : decode cL_law 366 = .ok (.iadd, 1) := by decide +kernel
theorem dL_law_367 : decode cL_law 367 = .ok (.iaload, 1) := by decide +kernel
theorem dL_law_368 : decode cL_law 368 = .ok (.aload_n 0, 1) := by decide +kernel
theorem dL_law_369 : decode cL_law 369 = .ok (.iload_n 3, 1) := by decide +kernel
theorem dL_law_370 : decode cL_law 370 = .ok (.iconst 2, 1) := by decide +kernel
theorem dL_law_371 : decode cL_law 371 = .ok (.iadd, 1) := by decide +kernel
theorem dL_law_372 : decode cL_law 372 = .ok (.iaload, 1) := by decide +kernel
theorem dL_law_373 : decode cL_law 373 = .ok (.aload_n 0, 1) := by decide +kernel
theorem dL_law_374 : decode cL_law 374 = .ok (.iload_n 3, 1) := by decide +kernel
theorem dL_law_375 : decode cL_law 375 = .ok (.iconst 3, 1) := by decide +kernel
theorem dL_law_376 : decode cL_law 376 = .ok (.iadd, 1) := by decide +kernel
theorem dL_law_377 : decode cL_law 377 = .ok (.iaload, 1) := by decide +kernel
theorem dL_law_378 : decode cL_law 378 = .ok (.aload_n 0, 1) := by decide +kernel
theorem dL_law_379 : decode cL_law 379 = .ok (.iload_n 3, 1) := by decide +kernel
theorem dL_law_380 : decode cL_law 380 = .ok (.iconst 4, 1) := by decide +kernel
theorem dL_law_381 : decode cL_law 381 = .ok (.iadd, 1) := by decide +kernel
theorem dL_law_382 : decode cL_law 382 = .ok (.iaload, 1) := by decide +kernel
theorem dL_law_383 : decode cL_law 383 = .ok (.invokevirtual 52, 3) := by decide +kernel
theorem dL_law_386 : decode cL_law 386 = .ok (.if_icmp .eq 580, 3) := by decide +kernel
theorem dL_law_389 : decode cL_law 389 = .ok (.iconst 0, 1) := by decide +kernel
theorem dL_law_390 : decode cL_law 390 = .ok (.ireturn, 1) := by decide +kernel
theorem dL_law_391 : decode cL_law 391 = .ok (.aload_n 1, 1) := by decide +kernel
theorem dL_law_392 : decode cL_law 392 = .ok (.aload_n 0, 1) := by decide +kernel
theorem dL_law_393 : decode cL_law 393 = .ok (.iload_n 3, 1) := by decide +kernel
theorem dL_law_394 : decode cL_law 394 = .ok (.iconst 1, 1) := by decide +kernel
theorem dL_law_395 : decode cL_law 395 = .ok (.iadd, 1) := by decide +kernel
theorem dL_law_396 : decode cL_law 396 = .ok (.iaload, 1) := by decide +kernel
theorem dL_law_397 : decode cL_law 397 = .ok (.aload_n 0, 1) := by decide +kernel
theorem dL_law_398 : decode cL_law 398 = .ok (.iload_n 3, 1) := by decide +kernel
theorem dL_law_399 : decode cL_law 399 = .ok (.iconst 2, 1) := by decide +kernel
theorem dL_law_400 : decode cL_law 400 = .ok (.iadd, 1) := by decide +kernel
theorem dL_law_401 : decode cL_law 401 = .ok (.iaload, 1) := by decide +kernel
theorem dL_law_402 : decode cL_law 402 = .ok (.aload_n 0, 1) := by decide +kernel
theorem dL_law_403 : decode cL_law 403 = .ok (.iload_n 3, 1) := by decide +kernel
theorem dL_law_404 : decode cL_law 404 = .ok (.iconst 3, 1) := by decide +kernel
theorem dL_law_405 : decode cL_law 405 = .ok (.iadd, 1) := by decide +kernel
theorem dL_law_406 : decode cL_law 406 = .ok (.iaload, 1) := by decide +kernel
theorem dL_law_407 : decode cL_law 407 = .ok (.aload_n 0, 1) := by decide +kernel
theorem dL_law_408 : decode cL_law 408 = .ok (.iload_n 3, 1) := by decide +kernel
theorem dL_law_409 : decode cL_law 409 = .ok (.iconst 4, 1) := by decide +kernel
theorem dL_law_410 : decode cL_law 410 = .ok (.iadd, 1) := by decide +kernel
theorem dL_law_411 : decode cL_law 411 = .ok (.iaload, 1) := by decide +kernel
theorem dL_law_412 : decode cL_law 412 = .ok (.aload_n 0, 1) := by decide +kernel
theorem dL_law_413 : decode cL_law 413 = .ok (.iload_n 3, 1) := by decide +kernel
theorem dL_law_414 : decode cL_law 414 = .ok (.iconst 5, 1) := by decide +kernel
theorem dL_law_415 : decode cL_law 415 = .ok (.iadd, 1) := by decide +kernel
theorem dL_law_416 : decode cL_law 416 = .ok (.iaload, 1) := by decide +kernel
theorem dL_law_417 : decode cL_law 417 = .ok (.aload_n 0, 1) := by decide +kernel
theorem dL_law_418 : decode cL_law 418 = .ok (.iload_n 3, 1) := by decide +kernel
theorem dL_law_419 : decode cL_law 419 = .ok (.bipush 6, 2) := by decide +kernel
theorem dL_law_421 : decode cL_law 421 = .ok (.iadd, 1) := by decide +kernel
theorem dL_law_422 : decode cL_law 422 = .ok (.iaload, 1) := by decide +kernel
theorem dL_law_423 : decode cL_law 423 = .ok (.aload_n 0, 1) := by decide +kernel
theorem dL_law_424 : decode cL_law 424 = .ok (.iload_n 3, 1) := by decide +kernel
theorem dL_law_425 : decode cL_law 425 = .ok (.bipush 7, 2) := by decide +kernel
theorem dL_law_427 : decode cL_law 427 = .ok (.iadd, 1) := by decide +kernel
theorem dL_law_428 : decode cL_law 428 = .ok (.iaload, 1) := by decide +kernel
theorem dL_law_429 : decode cL_law 429 = .ok (.invokevirtual 53, 3) := by decide +kernel
theorem dL_law_432 : decode cL_law 432 = .ok (.aload_n 2, 1) := by decide +kernel
theorem dL_law_433 : decode cL_law 433 = .ok (.aload_n 0, 1) := by decide +kernel
theorem dL_law_434 : decode cL_law 434 = .ok (.iload_n 3, 1) := by decide +kernel
theorem dL_law_435 : decode cL_law 435 = .ok (.iconst 1, 1) := by decide +kernel
theorem dL_law_436 : decode cL_law 436 = .ok (.iadd, 1) := by decide +kernel
theorem dL_law_437 : decode cL_law 437 = .ok (.iaload, 1) := by decide +kernel
theorem dL_law_438 : decode cL_law 438 = .ok (.aload_n 0, 1) := by decide +kernel
theorem dL_law_439 : decode cL_law 439 = .ok (.iload_n 3, 1) := by decide +kernel
theorem dL_law_440 : decode cL_law 440 = .ok (.iconst 2, 1) := by decide +kernel
theorem dL_law_441 : decode cL_law 441 = .ok (.iadd, 1) := by decide +kernel
theorem dL_law_442 : decode cL_law 442 = .ok (.iaload, 1) := by decide +kernel
theorem dL_law_443 : decode cL_law 443 = .ok (.aload_n 0, 1) := by decide +kernel
theorem dL_law_444 : decode cL_law 444 = .ok (.iload_n 3, 1) := by decide +kernel
theorem dL_law_445 : decode cL_law 445 = .ok (.iconst 3, 1) := by decide +kernel
theorem dL_law_446 : decode cL_law 446 = .ok (.iadd, 1) := by decide +kernel
theorem dL_law_447 : decode cL_law 447 = .ok (.iaload, 1) := by decide +kernel
theorem dL_law_448 : decode cL_law 448 = .ok (.aload_n 0, 1) := by decide +kernel
theorem dL_law_449 : decode cL_law 449 = .ok (.iload_n 3, 1) := by decide +kernel
theorem dL_law_450 : decode cL_law 450 = .ok (.iconst 4, 1) := by decide +kernel
theorem dL_law_451 : decode cL_law 451 = .ok (.iadd, 1) := by decide +kernel
theorem dL_law_452 : decode cL_law 452 = .ok (.iaload, 1) := by decide +kernel
theorem dL_law_453 : decode cL_law 453 = .ok (.aload_n 0, 1) := by decide +kernel
theorem dL_law_454 : decode cL_law 454 = .ok (.iload_n 3, 1) := by decide +kernel
theorem dL_law_455 : decode cL_law 455 = .ok (.iconst 5, 1) := by decide +kernel
theorem dL_law_456 : decode cL_law 456 = .ok (.iadd, 1) := by decide +kernel
theorem dL_law_457 : decode cL_law 457 = .ok (.iaload, 1) := by decide +kernel
theorem dL_law_458 : decode cL_law 458 = .ok (.aload_n 0, 1) := by decide +kernel
theorem dL_law_459 : decode cL_law 459 = .ok (.iload_n 3, 1) := by decide +kernel
theorem dL_law_460 : decode cL_law 460 = .ok (.bipush 6, 2) := by decide +kernel
theorem dL_law_462 : decode cL_law 462 = .ok (.iadd, 1) := by decide +kernel
theorem dL_law_463 : decode cL_law 463 = .ok (.iaload, 1) := by decide +kernel
theorem dL_law_464 : decode cL_law 464 = .ok (.aload_n 0, 1) := by decide +kernel
theorem dL_law_465 : decode cL_law 465 = .ok (.iload_n 3, 1) := by decide +kernel
theorem dL_law_466 : decode cL_law 466 = .ok (.bipush 7, 2) := by decide +kernel
theorem dL_law_468 : decode cL_law 468 = .ok (.iadd, 1) := by decide +kernel
theorem dL_law_469 : decode cL_law 469 = .ok (.iaload, 1) := by decide +kernel
theorem dL_law_470 : decode cL_law 470 = .ok (.invokevirtual 57, 3) := by decide +kernel
theorem dL_law_473 : decode cL_law 473 = .ok (.lcmp, 1) := by decide +kernel
theorem dL_law_474 : decode cL_law 474 = .ok (.ifCond .eq 492, 3) := by decide +kernel
theorem dL_law_477 : decode cL_law 477 = .ok (.iconst 0, 1) := by decide +kernel
theorem dL_law_478 : decode cL_law 478 = .ok (.ireturn, 1) := by decide +kernel
theorem dL_law_479 : decode cL_law 479 = .ok (.aload_n 1, 1) := by decide +kernel
theorem dL_law_480 : decode cL_law 480 = .ok (.aload_n 0, 1) := by decide +kernel
theorem dL_law_481 : decode cL_law 481 = .ok (.iload_n 3, 1) := by decide +kernel
theorem dL_law_482 : decode cL_law 482 = .ok (.iconst 1, 1) := by decide +kernel
theorem dL_law_483 : decode cL_law 483 = .ok (.iadd, 1) := by decide +kernel
theorem dL_law_484 : decode cL_law 484 = .ok (.iaload, 1) := by decide +kernel
theorem dL_law_485 : decode cL_law 485 = .ok (.aload_n 0, 1) := by decide +kernel
theorem dL_law_486 : decode cL_law 486 = .ok (.iload_n 3, 1) := by decide +kernel
theorem dL_law_487 : decode cL_law 487 = .ok (.iconst 2, 1) := by decide +kernel
theorem dL_law_488 : decode cL_law 488 = .ok (.iadd, 1) := by decide +kernel
theorem dL_law_489 : decode cL_law 489 = .ok (.iaload, 1) := by decide +kernel
theorem dL_law_490 : decode cL_law 490 = .ok (.invokevirtual 58, 3) := by decide +kernel
theorem dL_law_493 : decode cL_law 493 = .ok (.aload_n 2, 1) := by decide +kernel
theorem dL_law_494 : decode cL_law 494 = .ok (.aload_n 0, 1) := by decide +kernel
theorem dL_law_495 : decode cL_law 495 = .ok (.iload_n 3, 1) := by decide +kernel
theorem dL_law_496 : decode cL_law 496 = .ok (.iconst 1, 1) := by decide +kernel
theorem dL_law_497 : decode cL_law 497 = .ok (.iadd, 1) := by decide +kernel
theorem dL_law_498 : decode cL_law 498 = .ok (.iaload, 1) := by decide +kernel
theorem dL_law_499 : decode cL_law 499 = .ok (.aload_n 0, 1) := by decide +kernel
theorem dL_law_500 : decode cL_law 500 = .ok (.iload_n 3, 1) := by decide +kernel
theorem dL_law_501 : decode cL_law 501 = .ok (.iconst 2, 1) := by decide +kernel
theorem dL_law_502 : decode cL_law 502 = .ok (.iadd, 1) := by decide +kernel
theorem dL_law_503 : decode cL_law 503 = .ok (.iaload, 1) := by decide +kernel
theorem dL_law_504 : decode cL_law 504 = .ok (.invokevirtual 62, 3) := by decide +kernel
theorem dL_law_507 : decode cL_law 507 = .ok (.if_icmp .eq 459, 3) := by decide +kernel
theorem dL_law_510 : decode cL_law 510 = .ok (.iconst 0, 1) := by decide +kernel
theorem dL_law_511 : decode cL_law 511 = .ok (.ireturn, 1) := by decide +kernel
theorem dL_law_512 : decode cL_law 512 = .ok (.aload_n 1, 1) := by decide +kernel
theorem dL_law_513 : decode cL_law 513 = .ok (.aload_n 0, 1) := by decide +kernel
theorem dL_law_514 : decode cL_law 514 = .ok (.iload_n 3, 1) := by decide +kernel
theorem dL_law_515 : decode cL_law 515 = .ok (.iconst 1, 1) := by decide +kernel
theorem dL_law_516 : decode cL_law 516 = .ok (.iadd, 1) := by decide +kernel
theorem dL_law_517 : decode cL_law 517 = .ok (.iaload, 1) := by decide +kernel
theorem dL_law_518 : decode cL_law 518 = .ok (.aload_n 0, 1) := by decide +kernel
theorem dL_law_519 : decode cL_law 519 = .ok (.iload_n 3, 1) := by decide +kernel
theorem dL_law_520 : decode cL_law 520 = .ok (.iconst 2, 1) := by decide +kernel
theorem dL_law_521 : decode cL_law 521 = .ok (.iadd, 1) := by decide +kernel
theorem dL_law_522 : decode cL_law 522 = .ok (.iaload, 1) := by decide +kernel
theorem dL_law_523 : decode cL_law 523 = .ok (.aload_n 0, 1) := by decide +kernel
theorem dL_law_524 : decode cL_law 524 = .ok (.iload_n 3, 1) := by decide +kernel
theorem dL_law_525 : decode cL_law 525 = .ok (.iconst 3, 1) := by decide +kernel
theorem dL_law_526 : decode cL_law 526 = .ok (.iadd, 1) := by decide +kernel
theorem dL_law_527 : decode cL_law 527 = .ok (.iaload, 1) := by decide +kernel
theorem dL_law_528 : decode cL_law 528 = .ok (.invokevirtual 63, 3) := by decide +kernel
theorem dL_law_531 : decode cL_law 531 = .ok (.aload_n 2, 1) := by decide +kernel
theorem dL_law_532 : decode cL_law 532 = .ok (.aload_n 0, 1) := by decide +kernel
theorem dL_law_533 : decode cL_law 533 = .ok (.iload_n 3, 1) := by decide +kernel
theorem dL_law_534 : decode cL_law 534 = .ok (.iconst 1, 1) := by decide +kernel
theorem dL_law_535 : decode cL_law 535 = .ok (.iadd, 1) := by decide +kernel
theorem dL_law_536 : decode cL_law 536 = .ok (.iaload, 1) := by decide +kernel
theorem dL_law_537 : decode cL_law 537 = .ok (.aload_n 0, 1) := by decide +kernel
theorem dL_law_538 : decode cL_law 538 = .ok (.iload_n 3, 1) := by decide +kernel
theorem dL_law_539 : decode cL_law 539 = .ok (.iconst 2, 1) := by decide +kernel
theorem dL_law_540 : decode cL_law 540 = .ok (.iadd, 1) := by decide +kernel
theorem dL_law_541 : decode cL_law 541 = .ok (.iaload, 1) := by decide +kernel
theorem dL_law_542 : decode cL_law 542 = .ok (.aload_n 0, 1) := by decide +kernel
theorem dL_law_543 : decode cL_law 543 = .ok (.iload_n 3, 1) := by decide +kernel
theorem dL_law_544 : decode cL_law 544 = .ok (.iconst 3, 1) := by decide +kernel
theorem dL_law_545 : decode cL_law 545 = .ok (.iadd, 1) := by decide +kernel
theorem dL_law_546 : decode cL_law 546 = .ok (.iaload, 1) := by decide +kernel
theorem dL_law_547 : decode cL_law 547 = .ok (.invokevirtual 67, 3) := by decide +kernel
theorem dL_law_550 : decode cL_law 550 = .ok (.lcmp, 1) := by decide +kernel
theorem dL_law_551 : decode cL_law 551 = .ok (.ifCond .eq 415, 3) := by decide +kernel
theorem dL_law_554 : decode cL_law 554 = .ok (.iconst 0, 1) := by decide +kernel
theorem dL_law_555 : decode cL_law 555 = .ok (.ireturn, 1) := by decide +kernel
theorem dL_law_556 : decode cL_law 556 = .ok (.aload_n 1, 1) := by decide +kernel
theorem dL_law_557 : decode cL_law 557 = .ok (.aload_n 0, 1) := by decide +kernel
theorem dL_law_558 : decode cL_law 558 = .ok (.iload_n 3, 1) := by decide +kernel
theorem dL_law_559 : decode cL_law 559 = .ok (.iconst 1, 1) := by decide +kernel
theorem dL_law_560 : decode cL_law 560 = .ok (.iadd, 1) := by decide +kernel
theorem dL_law_561 : decode cL_law 561 = .ok (.iaload, 1) := by decide +kernel
theorem dL_law_562 : decode cL_law 562 = .ok (.aload_n 0, 1) := by decide +kernel
theorem dL_law_563 : decode cL_law 563 = .ok (.iload_n 3, 1) := by decide +kernel
theorem dL_law_564 : decode cL_law 564 = .ok (.iconst 2, 1) := by decide +kernel
theorem dL_law_565 : decode cL_law 565 = .ok (.iadd, 1) := by decide +kernel
theorem dL_law_566 : decode cL_law 566 = .ok (.iaload, 1) := by decide +kernel
theorem dL_law_567 : decode cL_law 567 = .ok (.aload_n 0, 1) := by decide +kernel
theorem dL_law_568 : decode cL_law 568 = .ok (.iload_n 3, 1) := by decide +kernel
theorem dL_law_569 : decode cL_law 569 = .ok (.iconst 3, 1) := by decide +kernel
theorem dL_law_570 : decode cL_law 570 = .ok (.iadd, 1) := by decide +kernel
theorem dL_law_571 : decode cL_law 571 = .ok (.iaload, 1) := by decide +kernel
theorem dL_law_572 : decode cL_law 572 = .ok (.invokevirtual 68, 3) := by decide +kernel
theorem dL_law_575 : decode cL_law 575 = .ok (.aload_n 2, 1) := by decide +kernel
theorem dL_law_576 : decode cL_law 576 = .ok (.aload_n 0, 1) := by decide +kernel
theorem dL_law_577 : decode cL_law 577 = .ok (.iload_n 3, 1) := by decide +kernel
theorem dL_law_578 : decode cL_law 578 = .ok (.iconst 1, 1) := by decide +kernel
theorem dL_law_579 : decode cL_law 579 = .ok (.iadd, 1) := by decide +kernel
theorem dL_law_580 : decode cL_law 580 = .ok (.iaload, 1) := by decide +kernel
theorem dL_law_581 : decode cL_law 581 = .ok (.aload_n 0, 1) := by decide +kernel
theorem dL_law_582 : decode cL_law 582 = .ok (.iload_n 3, 1) := by decide +kernel
theorem dL_law_583 : decode cL_law 583 = .ok (.iconst 2, 1) := by decide +kernel
theorem dL_law_584 : decode cL_law 584 = .ok (.iadd, 1) := by decide +kernel
theorem dL_law_585 : decode cL_law 585 = .ok (.iaload, 1) := by decide +kernel
theorem dL_law_586 : decode cL_law 586 = .ok (.aload_n 0, 1) := by decide +kernel
theorem dL_law_587 : decode cL_law 587 = .ok (.iload_n 3, 1) := by decide +kernel
theorem dL_law_588 : decode cL_law 588 = .ok (.iconst 3, 1) := by decide +kernel
theorem dL_law_589 : decode cL_law 589 = .ok (.iadd, 1) := by decide +kernel
theorem dL_law_590 : decode cL_law 590 = .ok (.iaload, 1) := by decide +kernel
theorem dL_law_591 : decode cL_law 591 = .ok (.invokevirtual 72, 3) := by decide +kernel
theorem dL_law_594 : decode cL_law 594 = .ok (.if_icmp .eq 372, 3) := by decide +kernel
theorem dL_law_597 : decode cL_law 597 = .ok (.iconst 0, 1) := by decide +kernel
theorem dL_law_598 : decode cL_law 598 = .ok (.ireturn, 1) := by decide +kernel
theorem dL_law_599 : decode cL_law 599 = .ok (.aload_n 1, 1) := by decide +kernel
theorem dL_law_600 : decode cL_law 600 = .ok (.aload_n 0, 1) := by decide +kernel
theorem dL_law_601 : decode cL_law 601 = .ok (.iload_n 3, 1) := by decide +kernel
theorem dL_law_602 : decode cL_law 602 = .ok (.iconst 1, 1) := by decide +kernel
theorem dL_law_603 : decode cL_law 603 = .ok (.iadd, 1) := by decide +kernel
theorem dL_law_604 : decode cL_law 604 = .ok (.iaload, 1) := by decide +kernel
theorem dL_law_605 : decode cL_law 605 = .ok (.aload_n 0, 1) := by decide +kernel
theorem dL_law_606 : decode cL_law 606 = .ok (.iload_n 3, 1) := by decide +kernel
theorem dL_law_607 : decode cL_law 607 = .ok (.iconst 2, 1) := by decide +kernel
theorem dL_law_608 : decode cL_law 608 = .ok (.iadd, 1) := by decide +kernel
theorem dL_law_609 : decode cL_law 609 = .ok (.iaload, 1) := by decide +kernel
theorem dL_law_610 : decode cL_law 610 = .ok (.aload_n 0, 1) := by decide +kernel
theorem dL_law_611 : decode cL_law 611 = .ok (.iload_n 3, 1) := by decide +kernel
theorem dL_law_612 : decode cL_law 612 = .ok (.iconst 3, 1) := by decide +kernel
theorem dL_law_613 : decode cL_law 613 = .ok (.iadd, 1) := by decide +kernel
theorem dL_law_614 : decode cL_law 614 = .ok (.iaload, 1) := by decide +kernel
theorem dL_law_615 : decode cL_law 615 = .ok (.invokevirtual 73, 3) := by decide +kernel
theorem dL_law_618 : decode cL_law 618 = .ok (.aload_n 2, 1) := by decide +kernel
theorem dL_law_619 : decode cL_law 619 = .ok (.aload_n 0, 1) := by decide +kernel
theorem dL_law_620 : decode cL_law 620 = .ok (.iload_n 3, 1) := by decide +kernel
theorem dL_law_621 : decode cL_law 621 = .ok (.iconst 1, 1) := by decide +kernel
theorem dL_law_622 : decode cL_law 622 = .ok (.iadd, 1) := by decide +kernel
theorem dL_law_623 : decode cL_law 623 = .ok (.iaload, 1) := by decide +kernel
theorem dL_law_624 : decode cL_law 624 = .ok (.aload_n 0, 1) := by decide +kernel
theorem dL_law_625 : decode cL_law 625 = .ok (.iload_n 3, 1) := by decide +kernel
theorem dL_law_626 : decode cL_law 626 = .ok (.iconst 2, 1) := by decide +kernel
theorem dL_law_627 : decode cL_law 627 = .ok (.iadd, 1) := by decide +kernel
theorem dL_law_628 : decode cL_law 628 = .ok (.iaload, 1) := by decide +kernel
theorem dL_law_629 : decode cL_law 629 = .ok (.aload_n 0, 1) := by decide +kernel
theorem dL_law_630 : decode cL_law 630 = .ok (.iload_n 3, 1) := by decide +kernel
theorem dL_law_631 : decode cL_law 631 = .ok (.iconst 3, 1) := by decide +kernel
theorem dL_law_632 : decode cL_law 632 = .ok (.iadd, 1) := by decide +kernel
theorem dL_law_633 : decode cL_law 633 = .ok (.iaload, 1) := by decide +kernel
theorem dL_law_634 : decode cL_law 634 = .ok (.invokevirtual 76, 3) := by decide +kernel
theorem dL_law_637 : decode cL_law 637 = .ok (.if_icmp .eq 329, 3) := by decide +kernel
theorem dL_law_640 : decode cL_law 640 = .ok (.iconst 0, 1) := by decide +kernel
theorem dL_law_641 : decode cL_law 641 = .ok (.ireturn, 1) := by decide +kernel
theorem dL_law_642 : decode cL_law 642 = .ok (.aload_n 1, 1) := by decide +kernel
theorem dL_law_643 : decode cL_law 643 = .ok (.aload_n 0, 1) := by decide +kernel
theorem dL_law_644 : decode cL_law 644 = .ok (.iload_n 3, 1) := by decide +kernel
theorem dL_law_645 : decode cL_law 645 = .ok (.iconst 1, 1) := by decide +kernel
theorem dL_law_646 : decode cL_law 646 = .ok (.iadd, 1) := by decide +kernel
theorem dL_law_647 : decode cL_law 647 = .ok (.iaload, 1) := by decide +kernel
theorem dL_law_648 : decode cL_law 648 = .ok (.aload_n 0, 1) := by decide +kernel
theorem dL_law_649 : decode cL_law 649 = .ok (.iload_n 3, 1) := by decide +kernel
theorem dL_law_650 : decode cL_law 650 = .ok (.iconst 2, 1) := by decide +kernel
theorem dL_law_651 : decode cL_law 651 = .ok (.iadd, 1) := by decide +kernel
theorem dL_law_652 : decode cL_law 652 = .ok (.iaload, 1) := by decide +kernel
theorem dL_law_653 : decode cL_law 653 = .ok (.invokevirtual 77, 3) := by decide +kernel
theorem dL_law_656 : decode cL_law 656 = .ok (.aload_n 2, 1) := by decide +kernel
theorem dL_law_657 : decode cL_law 657 = .ok (.aload_n 0, 1) := by decide +kernel
theorem dL_law_658 : decode cL_law 658 = .ok (.iload_n 3, 1) := by decide +kernel
theorem dL_law_659 : decode cL_law 659 = .ok (.iconst 1, 1) := by decide +kernel
theorem dL_law_660 : decode cL_law 660 = .ok (.iadd, 1) := by decide +kernel
theorem dL_law_661 : decode cL_law 661 = .ok (.iaload, 1) := by decide +kernel
theorem dL_law_662 : decode cL_law 662 = .ok (.aload_n 0, 1) := by decide +kernel
theorem dL_law_663 : decode cL_law 663 = .ok (.iload_n 3, 1) := by decide +kernel
theorem dL_law_664 : decode cL_law 664 = .ok (.iconst 2, 1) := by decide +kernel
theorem dL_law_665 : decode cL_law 665 = .ok (.iadd, 1) := by decide +kernel
theorem dL_law_666 : decode cL_law 666 = .ok (.iaload, 1) := by decide +kernel
theorem dL_law_667 : decode cL_law 667 = .ok (.invokevirtual 80, 3) := by decide +kernel
theorem dL_law_670 : decode cL_law 670 = .ok (.if_icmp .eq 296, 3) := by decide +kernel
theorem dL_law_673 : decode cL_law 673 = .ok (.iconst 0, 1) := by decide +kernel
theorem dL_law_674 : decode cL_law 674 = .ok (.ireturn, 1) := by decide +kernel
theorem dL_law_675 : decode cL_law 675 = .ok (.aload_n 1, 1) := by decide +kernel
theorem dL_law_676 : decode cL_law 676 = .ok (.aload_n 0, 1) := by decide +kernel
theorem dL_law_677 : decode cL_law 677 = .ok (.iload_n 3, 1) := by decide +kernel
theorem dL_law_678 : decode cL_law 678 = .ok (.iconst 1, 1) := by decide +kernel
theorem dL_law_679 : decode cL_law 679 = .ok (.iadd, 1) := by decide +kernel
theorem dL_law_680 : decode cL_law 680 = .ok (.iaload, 1) := by decide +kernel
theorem dL_law_681 : decode cL_law 681 = .ok (.aload_n 0, 1) := by decide +kernel
theorem dL_law_682 : decode cL_law 682 = .ok (.iload_n 3, 1) := by decide +kernel
theorem dL_law_683 : decode cL_law 683 = .ok (.iconst 2, 1) := by decide +kernel
theorem dL_law_684 : decode cL_law 684 = .ok (.iadd, 1) := by decide +kernel
theorem dL_law_685 : decode cL_law 685 = .ok (.iaload, 1) := by decide +kernel
theorem dL_law_686 : decode cL_law 686 = .ok (.invokevirtual 81, 3) := by decide +kernel
theorem dL_law_689 : decode cL_law 689 = .ok (.aload_n 2, 1) := by decide +kernel
theorem dL_law_690 : decode cL_law 690 = .ok (.aload_n 0, 1) := by decide +kernel
theorem dL_law_691 : decode cL_law 691 = .ok (.iload_n 3, 1) := by decide +kernel
theorem dL_law_692 : decode cL_law 692 = .ok (.iconst 1, 1) := by decide +kernel
theorem dL_law_693 : decode cL_law 693 = .ok (.iadd, 1) := by decide +kernel
theorem dL_law_694 : decode cL_law 694 = .ok (.iaload, 1) := by decide +kernel
theorem dL_law_695 : decode cL_law 695 = .ok (.aload_n 0, 1) := by decide +kernel
theorem dL_law_696 : decode cL_law 696 = .ok (.iload_n 3, 1) := by decide +kernel
theorem dL_law_697 : decode cL_law 697 = .ok (.iconst 2, 1) := by decide +kernel
theorem dL_law_698 : decode cL_law 698 = .ok (.iadd, 1) := by decide +kernel
theorem dL_law_699 : decode cL_law 699 = .ok (.iaload, 1) := by decide +kernel
theorem dL_law_700 : decode cL_law 700 = .ok (.invokevirtual 84, 3) := by decide +kernel
theorem dL_law_703 : decode cL_law 703 = .ok (.if_icmp .eq 263, 3) := by decide +kernel
theorem dL_law_706 : decode cL_law 706 = .ok (.iconst 0, 1) := by decide +kernel
theorem dL_law_707 : decode cL_law 707 = .ok (.ireturn, 1) := by decide +kernel
theorem dL_law_708 : decode cL_law 708 = .ok (.aload_n 1, 1) := by decide +kernel
theorem dL_law_709 : decode cL_law 709 = .ok (.aload_n 0, 1) := by decide +kernel
theorem dL_law_710 : decode cL_law 710 = .ok (.iload_n 3, 1) := by decide +kernel
theorem dL_law_711 : decode cL_law 711 = .ok (.iconst 1, 1) := by decide +kernel
theorem dL_law_712 : decode cL_law 712 = .ok (.iadd, 1) := by decide +kernel
theorem dL_law_713 : decode cL_law 713 = .ok (.iaload, 1) := by decide +kernel
theorem dL_law_714 : decode cL_law 714 = .ok (.invokevirtual 85, 3) := by decide +kernel
theorem dL_law_717 : decode cL_law 717 = .ok (.aload_n 2, 1) := by decide +kernel
theorem dL_law_718 : decode cL_law 718 = .ok (.aload_n 0, 1) := by decide +kernel
theorem dL_law_719 : decode cL_law 719 = .ok (.iload_n 3, 1) := by decide +kernel
theorem dL_law_720 : decode cL_law 720 = .ok (.iconst 1, 1) := by decide +kernel
theorem dL_law_721 : decode cL_law 721 = .ok (.iadd, 1) := by decide +kernel
theorem dL_law_722 : decode cL_law 722 = .ok (.iaload, 1) := by decide +kernel
theorem dL_law_723 : decode cL_law 723 = .ok (.invokevirtual 88, 3) := by decide +kernel
theorem dL_law_726 : decode cL_law 726 = .ok (.if_icmp .eq 240, 3) := by decide +kernel
theorem dL_law_729 : decode cL_law 729 = .ok (.iconst 0, 1) := by decide +kernel
theorem dL_law_730 : decode cL_law 730 = .ok (.ireturn, 1) := by decide +kernel
theorem dL_law_731 : decode cL_law 731 = .ok (.aload_n 1, 1) := by decide +kernel
theorem dL_law_732 : decode cL_law 732 = .ok (.aload_n 0, 1) := by decide +kernel
theorem dL_law_733 : decode cL_law 733 = .ok (.iload_n 3, 1) := by decide +kernel
theorem dL_law_734 : decode cL_law 734 = .ok (.iconst 1, 1) := by decide +kernel
theorem dL_law_735 : decode cL_law 735 = .ok (.iadd, 1) := by decide +kernel
theorem dL_law_736 : decode cL_law 736 = .ok (.iaload, 1) := by decide +kernel
theorem dL_law_737 : decode cL_law 737 = .ok (.aload_n 0, 1) := by decide +kernel
theorem dL_law_738 : decode cL_law 738 = .ok (.iload_n 3, 1) := by decide +kernel
theorem dL_law_739 : decode cL_law 739 = .ok (.iconst 2, 1) := by decide +kernel
theorem dL_law_740 : decode cL_law 740 = .ok (.iadd, 1) := by decide +kernel
theorem dL_law_741 : decode cL_law 741 = .ok (.iaload, 1) := by decide +kernel
theorem dL_law_742 : decode cL_law 742 = .ok (.aload_n 0, 1) := by decide +kernel
theorem dL_law_743 : decode cL_law 743 = .ok (.iload_n 3, 1) := by decide +kernel
theorem dL_law_744 : decode cL_law 744 = .ok (.iconst 3, 1) := by decide +kernel
theorem dL_law_745 : decode cL_law 745 = .ok (.iadd, 1) := by decide +kernel
theorem dL_law_746 : decode cL_law 746 = .ok (.iaload, 1) := by decide +kernel
theorem dL_law_747 : decode cL_law 747 = .ok (.invokevirtual 89, 3) := by decide +kernel
theorem dL_law_750 : decode cL_law 750 = .ok (.aload_n 2, 1) := by decide +kernel
theorem dL_law_751 : decode cL_law 751 = .ok (.aload_n 0, 1) := by decide +kernel
theorem dL_law_752 : decode cL_law 752 = .ok (.iload_n 3, 1) := by decide +kernel
theorem dL_law_753 : decode cL_law 753 = .ok (.iconst 1, 1) := by decide +kernel
theorem dL_law_754 : decode cL_law 754 = .ok (.iadd, 1) := by decide +kernel
theorem dL_law_755 : decode cL_law 755 = .ok (.iaload, 1) := by decide +kernel
theorem dL_law_756 : decode cL_law 756 = .ok (.aload_n 0, 1) := by decide +kernel
theorem dL_law_757 : decode cL_law 757 = .ok (.iload_n 3, 1) := by decide +kernel
theorem dL_law_758 : decode cL_law 758 = .ok (.iconst 2, 1) := by decide +kernel
theorem dL_law_759 : decode cL_law 759 = .ok (.iadd, 1) := by decide +kernel
theorem dL_law_760 : decode cL_law 760 = .ok (.iaload, 1) := by decide +kernel
theorem dL_law_761 : decode cL_law 761 = .ok (.aload_n 0, 1) := by decide +kernel
theorem dL_law_762 : decode cL_law 762 = .ok (.iload_n 3, 1) := by decide +kernel
theorem dL_law_763 : decode cL_law 763 = .ok (.iconst 3, 1) := by decide +kernel
theorem dL_law_764 : decode cL_law 764 = .ok (.iadd, 1) := by decide +kernel
theorem dL_law_765 : decode cL_law 765 = .ok (.iaload, 1) := by decide +kernel
theorem dL_law_766 : decode cL_law 766 = .ok (.invokevirtual 92, 3) := by decide +kernel
theorem dL_law_769 : decode cL_law 769 = .ok (.if_icmp .eq 197, 3) := by decide +kernel
theorem dL_law_772 : decode cL_law 772 = .ok (.iconst 0, 1) := by decide +kernel
theorem dL_law_773 : decode cL_law 773 = .ok (.ireturn, 1) := by decide +kernel
theorem dL_law_774 : decode cL_law 774 = .ok (.aload_n 1, 1) := by decide +kernel
theorem dL_law_775 : decode cL_law 775 = .ok (.aload_n 0, 1) := by decide +kernel
theorem dL_law_776 : decode cL_law 776 = .ok (.iload_n 3, 1) := by decide +kernel
theorem dL_law_777 : decode cL_law 777 = .ok (.iconst 1, 1) := by decide +kernel
theorem dL_law_778 : decode cL_law 778 = .ok (.iadd, 1) := by decide +kernel
theorem dL_law_779 : decode cL_law 779 = .ok (.iaload, 1) := by decide +kernel
theorem dL_law_780 : decode cL_law 780 = .ok (.aload_n 0, 1) := by decide +kernel
theorem dL_law_781 : decode cL_law 781 = .ok (.iload_n 3, 1) := by decide +kernel
theorem dL_law_782 : decode cL_law 782 = .ok (.iconst 2, 1) := by decide +kernel
theorem dL_law_783 : decode cL_law 783 = .ok (.iadd, 1) := by decide +kernel
theorem dL_law_784 : decode cL_law 784 = .ok (.iaload, 1) := by decide +kernel
theorem dL_law_785 : decode cL_law 785 = .ok (.invokevirtual 93, 3) := by decide +kernel
theorem dL_law_788 : decode cL_law 788 = .ok (.aload_n 2, 1) := by decide +kernel
theorem dL_law_789 : decode cL_law 789 = .ok (.aload_n 0, 1) := by decide +kernel
theorem dL_law_790 : decode cL_law 790 = .ok (.iload_n 3, 1) := by decide +kernel
theorem dL_law_791 : decode cL_law 791 = .ok (.iconst 1, 1) := by decide +kernel
theorem dL_law_792 : decode cL_law 792 = .ok (.iadd, 1) := by decide +kernel
theorem dL_law_793 : decode cL_law 793 = .ok (.iaload, 1) := by decide +kernel
theorem dL_law_794 : decode cL_law 794 = .ok (.aload_n 0, 1) := by decide +kernel
theorem dL_law_795 : decode cL_law 795 = .ok (.iload_n 3, 1) := by decide +kernel
theorem dL_law_796 : decode cL_law 796 = .ok (.iconst 2, 1) := by decide +kernel
theorem dL_law_797 : decode cL_law 797 = .ok (.iadd, 1) := by decide +kernel
theorem dL_law_798 : decode cL_law 798 = .ok (.iaload, 1) := by decide +kernel
theorem dL_law_799 : decode cL_law 799 = .ok (.invokevirtual 97, 3) := by decide +kernel
theorem dL_law_802 : decode cL_law 802 = .ok (.lcmp, 1) := by decide +kernel
theorem dL_law_803 : decode cL_law 803 = .ok (.ifCond .eq 163, 3) := by decide +kernel
theorem dL_law_806 : decode cL_law 806 = .ok (.iconst 0, 1) := by decide +kernel
theorem dL_law_807 : decode cL_law 807 = .ok (.ireturn, 1) := by decide +kernel
theorem dL_law_808 : decode cL_law 808 = .ok (.aload_n 1, 1) := by decide +kernel
theorem dL_law_809 : decode cL_law 809 = .ok (.aload_n 0, 1) := by decide +kernel
theorem dL_law_810 : decode cL_law 810 = .ok (.iload_n 3, 1) := by decide +kernel
theorem dL_law_811 : decode cL_law 811 = .ok (.iconst 1, 1) := by decide +kernel
theorem dL_law_812 : decode cL_law 812 = .ok (.iadd, 1) := by decide +kernel
theorem dL_law_813 : decode cL_law 813 = .ok (.iaload, 1) := by decide +kernel
theorem dL_law_814 : decode cL_law 814 = .ok (.aload_n 0, 1) := by decide +kernel
theorem dL_law_815 : decode cL_law 815 = .ok (.iload_n 3, 1) := by decide +kernel
theorem dL_law_816 : decode cL_law 816 = .ok (.iconst 2, 1) := by decide +kernel
theorem dL_law_817 : decode cL_law 817 = .ok (.iadd, 1) := by decide +kernel
theorem dL_law_818 : decode cL_law 818 = .ok (.iaload, 1) := by decide +kernel
theorem dL_law_819 : decode cL_law 819 = .ok (.aload_n 0, 1) := by decide +kernel
theorem dL_law_820 : decode cL_law 820 = .ok (.iload_n 3, 1) := by decide +kernel
theorem dL_law_821 : decode cL_law 821 = .ok (.iconst 3, 1) := by decide +kernel
theorem dL_law_822 : decode cL_law 822 = .ok (.iadd, 1) := by decide +kernel
theorem dL_law_823 : decode cL_law 823 = .ok (.iaload, 1) := by decide +kernel
theorem dL_law_824 : decode cL_law 824 = .ok (.aload_n 0, 1) := by decide +kernel
theorem dL_law_825 : decode cL_law 825 = .ok (.iload_n 3, 1) := by decide +kernel
theorem dL_law_826 : decode cL_law 826 = .ok (.iconst 4, 1) := by decide +kernel
theorem dL_law_827 : decode cL_law 827 = .ok (.iadd, 1) := by decide +kernel
theorem dL_law_828 : decode cL_law 828 = .ok (.iaload, 1) := by decide +kernel
theorem dL_law_829 : decode cL_law 829 = .ok (.aload_n 0, 1) := by decide +kernel
theorem dL_law_830 : decode cL_law 830 = .ok (.iload_n 3, 1) := by decide +kernel
theorem dL_law_831 : decode cL_law 831 = .ok (.iconst 5, 1) := by decide +kernel
theorem dL_law_832 : decode cL_law 832 = .ok (.iadd, 1) := by decide +kernel
theorem dL_law_833 : decode cL_law 833 = .ok (.iaload, 1) := by decide +kernel
theorem dL_law_834 : decode cL_law 834 = .ok (.aload_n 0, 1) := by decide +kernel
theorem dL_law_835 : decode cL_law 835 = .ok (.iload_n 3, 1) := by decide +kernel
theorem dL_law_836 : decode cL_law 836 = .ok (.bipush 6, 2) := by decide +kernel
theorem dL_law_838 : decode cL_law 838 = .ok (.iadd, 1) := by decide +kernel
theorem dL_law_839 : decode cL_law 839 = .ok (.iaload, 1) := by decide +kernel
theorem dL_law_840 : decode cL_law 840 = .ok (.invokevirtual 98, 3) := by decide +kernel
theorem dL_law_843 : decode cL_law 843 = .ok (.aload_n 2, 1) := by decide +kernel
theorem dL_law_844 : decode cL_law 844 = .ok (.aload_n 0, 1) := by decide +kernel
theorem dL_law_845 : decode cL_law 845 = .ok (.iload_n 3, 1) := by decide +kernel
theorem dL_law_846 : decode cL_law 846 = .ok (.iconst 1, 1) := by decide +kernel
theorem dL_law_847 : decode cL_law 847 = .ok (.iadd, 1) := by decide +kernel
theorem dL_law_848 : decode cL_law 848 = .ok (.iaload, 1) := by decide +kernel
theorem dL_law_849 : decode cL_law 849 = .ok (.aload_n 0, 1) := by decide +kernel
theorem dL_law_850 : decode cL_law 850 = .ok (.iload_n 3, 1) := by decide +kernel
theorem dL_law_851 : decode cL_law 851 = .ok (.iconst 2, 1) := by decide +kernel
theorem dL_law_852 : decode cL_law 852 = .ok (.iadd, 1) := by decide +kernel
theorem dL_law_853 : decode cL_law 853 = .ok (.iaload, 1) := by decide +kernel
theorem dL_law_854 : decode cL_law 854 = .ok (.aload_n 0, 1) := by decide +kernel
theorem dL_law_855 : decode cL_law 855 = .ok (.iload_n 3, 1) := by decide +kernel
theorem dL_law_856 : decode cL_law 856 = .ok (.iconst 3, 1) := by decide +kernel
theorem dL_law_857 : decode cL_law 857 = .ok (.iadd, 1) := by decide +kernel
theorem dL_law_858 : decode cL_law 858 = .ok (.iaload, 1) := by decide +kernel
theorem dL_law_859 : decode cL_law 859 = .ok (.aload_n 0, 1) := by decide +kernel
theorem dL_law_860 : decode cL_law 860 = .ok (.iload_n 3, 1) := by decide +kernel
theorem dL_law_861 : decode cL_law 861 = .ok (.iconst 4, 1) := by decide +kernel
theorem dL_law_862 : decode cL_law 862 = .ok (.iadd, 1) := by decide +kernel
theorem dL_law_863 : decode cL_law 863 = .ok (.iaload, 1) := by decide +kernel
theorem dL_law_864 : decode cL_law 864 = .ok (.aload_n 0, 1) := by decide +kernel
theorem dL_law_865 : decode cL_law 865 = .ok (.iload_n 3, 1) := by decide +kernel
theorem dL_law_866 : decode cL_law 866 = .ok (.iconst 5, 1) := by decide +kernel
theorem dL_law_867 : decode cL_law 867 = .ok (.iadd, 1) := by decide +kernel
theorem dL_law_868 : decode cL_law 868 = .ok (.iaload, 1) := by decide +kernel
theorem dL_law_869 : decode cL_law 869 = .ok (.aload_n 0, 1) := by decide +kernel
theorem dL_law_870 : decode cL_law 870 = .ok (.iload_n 3, 1) := by decide +kernel
theorem dL_law_871 : decode cL_law 871 = .ok (.bipush 6, 2) := by decide +kernel
theorem dL_law_873 : decode cL_law 873 = .ok (.iadd, 1) := by decide +kernel
theorem dL_law_874 : decode cL_law 874 = .ok (.iaload, 1) := by decide +kernel
theorem dL_law_875 : decode cL_law 875 = .ok (.invokevirtual 102, 3) := by decide +kernel
theorem dL_law_878 : decode cL_law 878 = .ok (.if_icmp .eq 88, 3) := by decide +kernel
theorem dL_law_881 : decode cL_law 881 = .ok (.iconst 0, 1) := by decide +kernel
theorem dL_law_882 : decode cL_law 882 = .ok (.ireturn, 1) := by decide +kernel
theorem dL_law_883 : decode cL_law 883 = .ok (.aload_n 1, 1) := by decide +kernel
theorem dL_law_884 : decode cL_law 884 = .ok (.aload_n 0, 1) := by decide +kernel
theorem dL_law_885 : decode cL_law 885 = .ok (.iload_n 3, 1) := by decide +kernel
theorem dL_law_886 : decode cL_law 886 = .ok (.iconst 1, 1) := by decide +kernel
theorem dL_law_887 : decode cL_law 887 = .ok (.iadd, 1) := by decide +kernel
theorem dL_law_888 : decode cL_law 888 = .ok (.iaload, 1) := by decide +kernel
theorem dL_law_889 : decode cL_law 889 = .ok (.invokevirtual 103, 3) := by decide +kernel
theorem dL_law_892 : decode cL_law 892 = .ok (.aload_n 2, 1) := by decide +kernel
theorem dL_law_893 : decode cL_law 893 = .ok (.aload_n 0, 1) := by decide +kernel
theorem dL_law_894 : decode cL_law 894 = .ok (.iload_n 3, 1) := by decide +kernel
theorem dL_law_895 : decode cL_law 895 = .ok (.iconst 1, 1) := by decide +kernel
theorem dL_law_896 : decode cL_law 896 = .ok (.iadd, 1) := by decide +kernel
theorem dL_law_897 : decode cL_law 897 = .ok (.iaload, 1) := by decide +kernel
theorem dL_law_898 : decode cL_law 898 = .ok (.invokevirtual 107, 3) := by decide +kernel
theorem dL_law_901 : decode cL_law 901 = .ok (.lcmp, 1) := by decide +kernel
theorem dL_law_902 : decode cL_law 902 = .ok (.ifCond .eq 64, 3) := by decide +kernel
theorem dL_law_905 : decode cL_law 905 = .ok (.iconst 0, 1) := by decide +kernel
theorem dL_law_906 : decode cL_law 906 = .ok (.ireturn, 1) := by decide +kernel
theorem dL_law_907 : decode cL_law 907 = .ok (.aload_n 1, 1) := by decide +kernel
theorem dL_law_908 : decode cL_law 908 = .ok (.aload_n 0, 1) := by decide +kernel
theorem dL_law_909 : decode cL_law 909 = .ok (.iload_n 3, 1) := by decide +kernel
theorem dL_law_910 : decode cL_law 910 = .ok (.iconst 1, 1) := by decide +kernel
theorem dL_law_911 : decode cL_law 911 = .ok (.iadd, 1) := by decide +kernel
theorem dL_law_912 : decode cL_law 912 = .ok (.iaload, 1) := by decide +kernel
theorem dL_law_913 : decode cL_law 913 = .ok (.invokevirtual 108, 3) := by decide +kernel
theorem dL_law_916 : decode cL_law 916 = .ok (.aload_n 2, 1) := by decide +kernel
theorem dL_law_917 : decode cL_law 917 = .ok (.aload_n 0, 1) := by decide +kernel
theorem dL_law_918 : decode cL_law 918 = .ok (.iload_n 3, 1) := by decide +kernel
theorem dL_law_919 : decode cL_law 919 = .ok (.iconst 1, 1) := by decide +kernel
theorem dL_law_920 : decode cL_law 920 = .ok (.iadd, 1) := by decide +kernel
theorem dL_law_921 : decode cL_law 921 = .ok (.iaload, 1) := by decide +kernel
theorem dL_law_922 : decode cL_law 922 = .ok (.invokevirtual 111, 3) := by decide +kernel
theorem dL_law_925 : decode cL_law 925 = .ok (.if_icmp .eq 41, 3) := by decide +kernel
theorem dL_law_928 : decode cL_law 928 = .ok (.iconst 0, 1) := by decide +kernel
theorem dL_law_929 : decode cL_law 929 = .ok (.ireturn, 1) := by decide +kernel
theorem dL_law_930 : decode cL_law 930 = .ok (.aload_n 1, 1) := by decide +kernel
theorem dL_law_931 : decode cL_law 931 = .ok (.aload_n 0, 1) := by decide +kernel
theorem dL_law_932 : decode cL_law 932 = .ok (.iload_n 3, 1) := by decide +kernel
theorem dL_law_933 : decode cL_law 933 = .ok (.iconst 1, 1) := by decide +kernel
theorem dL_law_934 : decode cL_law 934 = .ok (.iadd, 1) := by decide +kernel
theorem dL_law_935 : decode cL_law 935 = .ok (.iaload, 1) := by decide +kernel
theorem dL_law_936 : decode cL_law 936 = .ok (.invokevirtual 112, 3) := by decide +kernel
theorem dL_law_939 : decode cL_law 939 = .ok (.aload_n 2, 1) := by decide +kernel
theorem dL_law_940 : decode cL_law 940 = .ok (.aload_n 0, 1) := by decide +kernel
theorem dL_law_941 : decode cL_law 941 = .ok (.iload_n 3, 1) := by decide +kernel
theorem dL_law_942 : decode cL_law 942 = .ok (.iconst 1, 1) := by decide +kernel
theorem dL_law_943 : decode cL_law 943 = .ok (.iadd, 1) := by decide +kernel
theorem dL_law_944 : decode cL_law 944 = .ok (.iaload, 1) := by decide +kernel
theorem dL_law_945 : decode cL_law 945 = .ok (.invokevirtual 115, 3) := by decide +kernel
theorem dL_law_948 : decode cL_law 948 = .ok (.if_icmp .eq 18, 3) := by decide +kernel
theorem dL_law_951 : decode cL_law 951 = .ok (.iconst 0, 1) := by decide +kernel
theorem dL_law_952 : decode cL_law 952 = .ok (.ireturn, 1) := by decide +kernel
theorem dL_law_953 : decode cL_law 953 = .ok (.aload_n 1, 1) := by decide +kernel
theorem dL_law_954 : decode cL_law 954 = .ok (.invokevirtual 116, 3) := by decide +kernel
theorem dL_law_957 : decode cL_law 957 = .ok (.aload_n 2, 1) := by decide +kernel
theorem dL_law_958 : decode cL_law 958 = .ok (.invokevirtual 119, 3) := by decide +kernel
theorem dL_law_961 : decode cL_law 961 = .ok (.if_icmp .eq 5, 3) := by decide +kernel
theorem dL_law_964 : decode cL_law 964 = .ok (.iconst 0, 1) := by decide +kernel
theorem dL_law_965 : decode cL_law 965 = .ok (.ireturn, 1) := by decide +kernel
theorem dL_law_966 : decode cL_law 966 = .ok (.iinc 3 8, 3) := by decide +kernel
theorem dL_law_969 : decode cL_law 969 = .ok (.goto (-951), 3) := by decide +kernel
theorem dL_law_972 : decode cL_law 972 = .ok (.iconst 1, 1) := by decide +kernel
theorem dL_law_973 : decode cL_law 973 = .ok (.ireturn, 1) := by decide +kernel
