theorem dX0_init_0 : decode cX0_init 0 = .ok (.aload_n 0, 1) := by decide +kernel
theorem dX0_init_1 : decode cX0_init 1 = .ok (.invokespecial 3, 3) := by decide +kernel
theorem dX0_init_4 : decode cX0_init 4 = .ok (.iload_n 1, 1) := by decide +kernel
theorem dX0_init_5 : decode cX0_init 5 = .ok (.iload_n 1, 1) := by decide +kernel
theorem dX0_init_6 : decode cX0_init 6 = .ok (.iconst 1, 1) := by decide +kernel
theorem dX0_init_7 : decode cX0_init 7 = .ok (.iadd, 1) := by decide +kernel
theorem dX0_init_8 : decode cX0_init 8 = .ok (.imul, 1) := by decide +kernel
theorem dX0_init_9 : decode cX0_init 9 = .ok (.iload_n 1, 1) := by decide +kernel
theorem dX0_init_10 : decode cX0_init 10 = .ok (.iconst 2, 1) := by decide +kernel
theorem dX0_init_11 : decode cX0_init 11 = .ok (.iadd, 1) := by decide +kernel
theorem dX0_init_12 : decode cX0_init 12 = .ok (.imul, 1) := by decide +kernel
theorem dX0_init_13 : decode cX0_init 13 = .ok (.bipush 6, 2) := by decide +kernel
theorem dX0_init_15 : decode cX0_init 15 = .ok (.idiv, 1) := by decide +kernel
theorem dX0_init_16 : decode cX0_init 16 = .ok (.istore_n 2, 1) := by decide +kernel
theorem dX0_init_17 : decode cX0_init 17 = .ok (.aload_n 0, 1) := by decide +kernel
theorem dX0_init_18 : decode cX0_init 18 = .ok (.iload_n 2, 1) := by decide +kernel
theorem dX0_init_19 : decode cX0_init 19 = .ok (.newarray .int, 2) := by decide +kernel
theorem dX0_init_21 : decode cX0_init 21 = .ok (.putfield 9, 3) := by decide +kernel
theorem dX0_init_24 : decode cX0_init 24 = .ok (.aload_n 0, 1) := by decide +kernel
theorem dX0_init_25 : decode cX0_init 25 = .ok (.iload_n 2, 1) := by decide +kernel
theorem dX0_init_26 : decode cX0_init 26 = .ok (.newarray .boolean, 2) := by decide +kernel
theorem dX0_init_28 : decode cX0_init 28 = .ok (.putfield 15, 3) := by decide +kernel
theorem dX0_init_31 : decode cX0_init 31 = .ok (.aload_n 0, 1) := by decide +kernel
theorem dX0_init_32 : decode cX0_init 32 = .ok (.iload_n 2, 1) := by decide +kernel
theorem dX0_init_33 : decode cX0_init 33 = .ok (.newarray .long, 2) := by decide +kernel
theorem dX0_init_35 : decode cX0_init 35 = .ok (.putfield 19, 3) := by decide +kernel
theorem dX0_init_38 : decode cX0_init 38 = .ok (.aload_n 0, 1) := by decide +kernel
theorem dX0_init_39 : decode cX0_init 39 = .ok (.iload_n 2, 1) := by decide +kernel
theorem dX0_init_40 : decode cX0_init 40 = .ok (.newarray .long, 2) := by decide +kernel
theorem dX0_init_42 : decode cX0_init 42 = .ok (.putfield 23, 3) := by decide +kernel
theorem dX0_init_45 : decode cX0_init 45 = .ok (.aload_n 0, 1) := by decide +kernel
theorem dX0_init_46 : decode cX0_init 46 = .ok (.iload_n 2, 1) := by decide +kernel
theorem dX0_init_47 : decode cX0_init 47 = .ok (.newarray .long, 2) := by decide +kernel
theorem dX0_init_49 : decode cX0_init 49 = .ok (.putfield 26, 3) := by decide +kernel
theorem dX0_init_52 : decode cX0_init 52 = .ok (.aload_n 0, 1) := by decide +kernel
theorem dX0_init_53 : decode cX0_init 53 = .ok (.iload_n 2, 1) := by decide +kernel
theorem dX0_init_54 : decode cX0_init 54 = .ok (.newarray .long, 2) := by decide +kernel
theorem dX0_init_56 : decode cX0_init 56 = .ok (.putfield 29, 3) := by decide +kernel
theorem dX0_init_59 : decode cX0_init 59 = .ok (.return_, 1) := by decide +kernel
theorem dX0_keyOf_0 : decode cX0_keyOf 0 = .ok (.iload_n 0, 1) := by decide +kernel
theorem dX0_keyOf_1 : decode cX0_keyOf 1 = .ok (.iload_n 1, 1) := by decide +kernel
theorem dX0_keyOf_2 : decode cX0_keyOf 2 = .ok (.invokestatic 32, 3) := by decide +kernel
theorem dX0_keyOf_5 : decode cX0_keyOf 5 = .ok (.iload_n 2, 1) := by decide +kernel
theorem dX0_keyOf_6 : decode cX0_keyOf 6 = .ok (.invokestatic 32, 3) := by decide +kernel
theorem dX0_keyOf_9 : decode cX0_keyOf 9 = .ok (.istore_n 3, 1) := by decide +kernel
theorem dX0_keyOf_10 : decode cX0_keyOf 10 = .ok (.iload_n 0, 1) := by decide +kernel
theorem dX0_keyOf_11 : decode cX0_keyOf 11 = .ok (.iload_n 1, 1) := by decide +kernel
theorem dX0_keyOf_12 : decode cX0_keyOf 12 = .ok (.invokestatic 38, 3) := by decide +kernel
theorem dX0_keyOf_15 : decode cX0_keyOf 15 = .ok (.iload_n 2, 1) := by decide +kernel
theorem dX0_keyOf_16 : decode cX0_keyOf 16 = .ok (.invokestatic 38, 3) := by decide +kernel
theorem dX0_keyOf_19 : decode cX0_keyOf 19 = .ok (.istore 4, 2) := by decide +kernel
theorem dX0_keyOf_21 : decode cX0_keyOf 21 = .ok (.iload_n 3, 1) := by decide +kernel
theorem dX0_keyOf_22 : decode cX0_keyOf 22 = .ok (.iload_n 0, 1) := by decide +kernel
theorem dX0_keyOf_23 : decode cX0_keyOf 23 = .ok (.iload_n 1, 1) := by decide +kernel
theorem dX0_keyOf_24 : decode cX0_keyOf 24 = .ok (.iadd, 1) := by decide +kernel
theorem dX0_keyOf_25 : decode cX0_keyOf 25 = .ok (.iload_n 2, 1) := by decide +kernel
theorem dX0_keyOf_26 : decode cX0_keyOf 26 = .ok (.iadd, 1) := by decide +kernel
theorem dX0_keyOf_27 : decode cX0_keyOf 27 = .ok (.iload_n 3, 1) := by decide +kernel
theorem dX0_keyOf_28 : decode cX0_keyOf 28 = .ok (.isub, 1) := by decide +kernel
theorem dX0_keyOf_29 : decode cX0_keyOf 29 = .ok (.iload 4, 2) := by decide +kernel
theorem dX0_keyOf_31 : decode cX0_keyOf 31 = .ok (.isub, 1) := by decide +kernel
theorem dX0_keyOf_32 : decode cX0_keyOf 32 = .ok (.iconst 5, 1) := by decide +kernel
theorem dX0_keyOf_33 : decode cX0_keyOf 33 = .ok (.ishl, 1) := by decide +kernel
theorem dX0_keyOf_34 : decode cX0_keyOf 34 = .ok (.ior, 1) := by decide +kernel
theorem dX0_keyOf_35 : decode cX0_keyOf 35 = .ok (.iload 4, 2) := by decide +kernel
theorem dX0_keyOf_37 : decode cX0_keyOf 37 = .ok (.bipush 10, 2) := by decide +kernel
theorem dX0_keyOf_39 : decode cX0_keyOf 39 = .ok (.ishl, 1) := by decide +kernel
theorem dX0_keyOf_40 : decode cX0_keyOf 40 = .ok (.ior, 1) := by decide +kernel
theorem dX0_keyOf_41 : decode cX0_keyOf 41 = .ok (.ireturn, 1) := by decide +kernel
theorem dX0_low_0 : decode cX0_low 0 = .ok (.iload_n 0, 1) := by decide +kernel
theorem dX0_low_1 : decode cX0_low 1 = .ok (.bipush 31, 2) := by decide +kernel
theorem dX0_low_3 : decode cX0_low 3 = .ok (.iand, 1) := by decide +kernel
theorem dX0_low_4 : decode cX0_low 4 = .ok (.ireturn, 1) := by decide +kernel
theorem dX0_mid_0 : decode cX0_mid 0 = .ok (.iload_n 0, 1) := by decide +kernel
theorem dX0_mid_1 : decode cX0_mid 1 = .ok (.iconst 5, 1) := by decide +kernel
theorem dX0_mid_2 : decode cX0_mid 2 = .ok (.ishr, 1) := by decide +kernel
theorem dX0_mid_3 : decode cX0_mid 3 = .ok (.bipush 31, 2) := by decide +kernel
theorem dX0_mid_5 : decode cX0_mid 5 = .ok (.iand, 1) := by decide +kernel
theorem dX0_mid_6 : decode cX0_mid 6 = .ok (.ireturn, 1) := by decide +kernel
theorem dX0_high_0 : decode cX0_high 0 = .ok (.iload_n 0, 1) := by decide +kernel
theorem dX0_high_1 : decode cX0_high 1 = .ok (.bipush 10, 2) := by decide +kernel
theorem dX0_high_3 : decode cX0_high 3 = .ok (.ishr, 1) := by decide +kernel
theorem dX0_high_4 : decode cX0_high 4 = .ok (.bipush 31, 2) := by decide +kernel
theorem dX0_high_6 : decode cX0_high 6 = .ok (.iand, 1) := by decide +kernel
theorem dX0_high_7 : decode cX0_high 7 = .ok (.ireturn, 1) := by decide +kernel
theorem dX0_placeOfKey_0 : decode cX0_placeOfKey 0 = .ok (.iload_n 0, 1) := by decide +kernel
theorem dX0_placeOfKey_1 : decode cX0_placeOfKey 1 = .ok (.bipush 31, 2) := by decide +kernel
theorem dX0_placeOfKey_3 : decode cX0_placeOfKey 3 = .ok (.iand, 1) := by decide +kernel
theorem dX0_placeOfKey_4 : decode cX0_placeOfKey 4 = .ok (.istore_n 1, 1) := by decide +kernel
theorem dX0_placeOfKey_5 : decode cX0_placeOfKey 5 = .ok (.iload_n 0, 1) := by decide +kernel
theorem dX0_placeOfKey_6 : decode cX0_placeOfKey 6 = .ok (.iconst 5, 1) := by decide +kernel
theorem dX0_placeOfKey_7 : decode cX0_placeOfKey 7 = .ok (.ishr, 1) := by decide +kernel
theorem dX0_placeOfKey_8 : decode cX0_placeOfKey 8 = .ok (.bipush 31, 2) := by decide +kernel
theorem dX0_placeOfKey_10 : decode cX0_placeOfKey 10 = .ok (.iand, 1) := by decide +kernel
theorem dX0_placeOfKey_11 : decode cX0_placeOfKey 11 = .ok (.istore_n 2, 1) := by decide +kernel
theorem dX0_placeOfKey_12 : decode cX0_placeOfKey 12 = .ok (.iload_n 0, 1) := by decide +kernel
theorem dX0_placeOfKey_13 : decode cX0_placeOfKey 13 = .ok (.bipush 10, 2) := by decide +kernel
theorem dX0_placeOfKey_15 : decode cX0_placeOfKey 15 = .ok (.ishr, 1) := by decide +kernel
theorem dX0_placeOfKey_16 : decode cX0_placeOfKey 16 = .ok (.bipush 31, 2) := by decide +kernel
theorem dX0_placeOfKey_18 : decode cX0_placeOfKey 18 = .ok (.iand, 1) := by decide +kernel
theorem dX0_placeOfKey_19 : decode cX0_placeOfKey 19 = .ok (.istore_n 3, 1) := by decide +kernel
theorem dX0_placeOfKey_20 : decode cX0_placeOfKey 20 = .ok (.iload_n 1, 1) := by decide +kernel
theorem dX0_placeOfKey_21 : decode cX0_placeOfKey 21 = .ok (.iload_n 2, 1) := by decide +kernel
theorem dX0_placeOfKey_22 : decode cX0_placeOfKey 22 = .ok (.iload_n 2, 1) := by decide +kernel
theorem dX0_placeOfKey_23 : decode cX0_placeOfKey 23 = .ok (.iconst 1, 1) := by decide +kernel
theorem dX0_placeOfKey_24 : decode cX0_placeOfKey 24 = .ok (.iadd, 1) := by decide +kernel
theorem dX0_placeOfKey_25 : decode cX0_placeOfKey 25 = .ok (.imul, 1) := by decide +kernel
theorem dX0_placeOfKey_26 : decode cX0_placeOfKey 26 = .ok (.iconst 2, 1) := by decide +kernel
theorem dX0_placeOfKey_27 : decode cX0_placeOfKey 27 = .ok (.idiv, 1) := by decide +kernel
theorem dX0_placeOfKey_28 : decode cX0_placeOfKey 28 = .ok (.iadd, 1) := by decide +kernel
theorem dX0_placeOfKey_29 : decode cX0_placeOfKey 29 = .ok (.iload_n 3, 1) := by decide +kernel
theorem dX0_placeOfKey_30 : decode cX0_placeOfKey 30 = .ok (.iload_n 3, 1) := by decide +kernel
theorem dX0_placeOfKey_31 : decode cX0_placeOfKey 31 = .ok (.iconst 1, 1) := by decide +kernel
theorem dX0_placeOfKey_32 : decode cX0_placeOfKey 32 = .ok (.iadd, 1) := by decide +kernel
theorem dX0_placeOfKey_33 : decode cX0_placeOfKey 33 = .ok (.imul, 1) := by decide +kernel
theorem dX0_placeOfKey_34 : decode cX0_placeOfKey 34 = .ok (.iload_n 3, 1) := by decide +kernel
theorem dX0_placeOfKey_35 : decode cX0_placeOfKey 35 = .ok (.iconst 2, 1) := by decide +kernel
theorem dX0_placeOfKey_36 : decode cX0_placeOfKey 36 = .ok (.iadd, 1) := by decide +kernel
theorem dX0_placeOfKey_37 : decode cX0_placeOfKey 37 = .ok (.imul, 1) := by decide +kernel
theorem dX0_placeOfKey_38 : decode cX0_placeOfKey 38 = .ok (.bipush 6, 2) := by decide +kernel
theorem dX0_placeOfKey_40 : decode cX0_placeOfKey 40 = .ok (.idiv, 1) := by decide +kernel
theorem dX0_placeOfKey_41 : decode cX0_placeOfKey 41 = .ok (.iadd, 1) := by decide +kernel
theorem dX0_placeOfKey_42 : decode cX0_placeOfKey 42 = .ok (.ireturn, 1) := by decide +kernel
theorem dX0_orders_0 : decode cX0_orders 0 = .ok (.iload_n 0, 1) := by decide +kernel
theorem dX0_orders_1 : decode cX0_orders 1 = .ok (.invokestatic 41, 3) := by decide +kernel
theorem dX0_orders_4 : decode cX0_orders 4 = .ok (.istore_n 1, 1) := by decide +kernel
theorem dX0_orders_5 : decode cX0_orders 5 = .ok (.iload_n 0, 1) := by decide +kernel
theorem dX0_orders_6 : decode cX0_orders 6 = .ok (.invokestatic 45, 3) := by decide +kernel
theorem dX0_orders_9 : decode cX0_orders 9 = .ok (.istore_n 2, 1) := by decide +kernel
theorem dX0_orders_10 : decode cX0_orders 10 = .ok (.iload_n 2, 1) := by decide +kernel
theorem dX0_orders_11 : decode cX0_orders 11 = .ok (.ifCond .eq 15, 3) := by decide +kernel
theorem dX0_orders_14 : decode cX0_orders 14 = .ok (.iload_n 2, 1) := by decide +kernel
theorem dX0_orders_15 : decode cX0_orders 15 = .ok (.iload_n 0, 1) := by decide +kernel
theorem dX0_orders_16 : decode cX0_orders 16 = .ok (.invokestatic 48, 3) := by decide +kernel
theorem dX0_orders_19 : decode cX0_orders 19 = .ok (.if_icmp .ne 7, 3) := by decide +kernel
theorem dX0_orders_22 : decode cX0_orders 22 = .ok (.iconst 2, 1) := by decide +kernel
theorem dX0_orders_23 : decode cX0_orders 23 = .ok (.goto 4, 3) := by decide +kernel
theorem dX0_orders_26 : decode cX0_orders 26 = .ok (.iconst 1, 1) := by decide +kernel
theorem dX0_orders_27 : decode cX0_orders 27 = .ok (.istore_n 3, 1) := by decide +kernel
theorem dX0_orders_28 : decode cX0_orders 28 = .ok (.iload_n 1, 1) := by decide +kernel
theorem dX0_orders_29 : decode cX0_orders 29 = .ok (.ifCond .eq 8, 3) := by decide +kernel
theorem dX0_orders_32 : decode cX0_orders 32 = .ok (.iload_n 1, 1) := by decide +kernel
theorem dX0_orders_33 : decode cX0_orders 33 = .ok (.iload_n 2, 1) := by decide +kernel
theorem dX0_orders_34 : decode cX0_orders 34 = .ok (.if_icmp .eq 5, 3) := by decide +kernel
theorem dX0_orders_37 : decode cX0_orders 37 = .ok (.iload_n 3, 1) := by decide +kernel
theorem dX0_orders_38 : decode cX0_orders 38 = .ok (.ireturn, 1) := by decide +kernel
theorem dX0_orders_39 : decode cX0_orders 39 = .ok (.iload_n 3, 1) := by decide +kernel
theorem dX0_orders_40 : decode cX0_orders 40 = .ok (.iconst 2, 1) := by decide +kernel
theorem dX0_orders_41 : decode cX0_orders 41 = .ok (.if_icmp .ne 8, 3) := by decide +kernel
theorem dX0_orders_44 : decode cX0_orders 44 = .ok (.bipush 6, 2) := by decide +kernel
theorem dX0_orders_46 : decode cX0_orders 46 = .ok (.goto 4, 3) := by decide +kernel
theorem dX0_orders_49 : decode cX0_orders 49 = .ok (.iconst 2, 1) := by decide +kernel
theorem dX0_orders_50 : decode cX0_orders 50 = .ok (.ireturn, 1) := by decide +kernel
theorem dX0_pathOf_0 : decode cX0_pathOf 0 = .ok (.iload_n 0, 1) := by decide +kernel
theorem dX0_pathOf_1 : decode cX0_pathOf 1 = .ok (.bipush 11, 2) := by decide +kernel
theorem dX0_pathOf_3 : decode cX0_pathOf 3 = .ok (.if_icmp .ge 11, 3) := by decide +kernel
theorem dX0_pathOf_6 : decode cX0_pathOf 6 = .ok (.iload_n 0, 1) := by decide +kernel
theorem dX0_pathOf_7 : decode cX0_pathOf 7 = .ok (.iconst 1, 1) := by decide +kernel
theorem dX0_pathOf_8 : decode cX0_pathOf 8 = .ok (.iadd, 1) := by decide +kernel
theorem dX0_pathOf_9 : decode cX0_pathOf 9 = .ok (.iconst 2, 1) := by decide +kernel
theorem dX0_pathOf_10 : decode cX0_pathOf 10 = .ok (.idiv, 1) := by decide +kernel
theorem dX0_pathOf_11 : decode cX0_pathOf 11 = .ok (.goto 4, 3) := by decide +kernel
theorem dX0_pathOf_14 : decode cX0_pathOf 14 = .ok (.iconst 0, 1) := by decide +kernel
theorem dX0_pathOf_15 : decode cX0_pathOf 15 = .ok (.ireturn, 1) := by decide +kernel
theorem dX0_grainsIn_0 : decode cX0_grainsIn 0 = .ok (.iload_n 0, 1) := by decide +kernel
theorem dX0_grainsIn_1 : decode cX0_grainsIn 1 = .ok (.invokestatic 41, 3) := by decide +kernel
theorem dX0_grainsIn_4 : decode cX0_grainsIn 4 = .ok (.invokestatic 51, 3) := by decide +kernel
theorem dX0_grainsIn_7 : decode cX0_grainsIn 7 = .ok (.iload_n 1, 1) := by decide +kernel
theorem dX0_grainsIn_8 : decode cX0_grainsIn 8 = .ok (.if_icmp .ne 7, 3) := by decide +kernel
theorem dX0_grainsIn_11 : decode cX0_grainsIn 11 = .ok (.iconst 1, 1) := by decide +kernel
theorem dX0_grainsIn_12 : decode cX0_grainsIn 12 = .ok (.goto 4, 3) := by decide +kernel
theorem dX0_grainsIn_15 : decode cX0_grainsIn 15 = .ok (.iconst 0, 1) := by decide +kernel
theorem dX0_grainsIn_16 : decode cX0_grainsIn 16 = .ok (.istore_n 2, 1) := by decide +kernel
theorem dX0_grainsIn_17 : decode cX0_grainsIn 17 = .ok (.iload_n 2, 1) := by decide +kernel
theorem dX0_grainsIn_18 : decode cX0_grainsIn 18 = .ok (.iload_n 0, 1) := by decide +kernel
theorem dX0_grainsIn_19 : decode cX0_grainsIn 19 = .ok (.invokestatic 45, 3) := by decide +kernel
theorem dX0_grainsIn_22 : decode cX0_grainsIn 22 = .ok (.invokestatic 51, 3) := by decide +kernel
theorem dX0_grainsIn_25 : decode cX0_grainsIn 25 = .ok (.iload_n 1, 1) := by decide +kernel
theorem dX0_grainsIn_26 : decode cX0_grainsIn 26 = .ok (.if_icmp .ne 7, 3) := by decide +kernel
theorem dX0_grainsIn_29 : decode cX0_grainsIn 29 = .ok (.iconst 1, 1) := by decide +kernel
theorem dX0_grainsIn_30 : decode cX0_grainsIn 30 = .ok (.goto 4, 3) := by decide +kernel
theorem dX0_grainsIn_33 : decode cX0_grainsIn 33 = .ok (.iconst 0, 1) := by decide +kernel
theorem dX0_grainsIn_34 : decode cX0_grainsIn 34 = .ok (.iadd, 1) := by decide +kernel
theorem dX0_grainsIn_35 : decode cX0_grainsIn 35 = .ok (.istore_n 2, 1) := by decide +kernel
theorem dX0_grainsIn_36 : decode cX0_grainsIn 36 = .ok (.iload_n 2, 1) := by decide +kernel
theorem dX0_grainsIn_37 : decode cX0_grainsIn 37 = .ok (.iload_n 0, 1) := by decide +kernel
theorem dX0_grainsIn_38 : decode cX0_grainsIn 38 = .ok (.invokestatic 48, 3) := by decide +kernel
theorem dX0_grainsIn_41 : decode cX0_grainsIn 41 = .ok (.invokestatic 51, 3) := by decide +kernel
theorem dX0_grainsIn_44 : decode cX0_grainsIn 44 = .ok (.iload_n 1, 1) := by decide +kernel
theorem dX0_grainsIn_45 : decode cX0_grainsIn 45 = .ok (.if_icmp .ne 7, 3) := by decide +kernel
theorem dX0_grainsIn_48 : decode cX0_grainsIn 48 = .ok (.iconst 1, 1) := by decide +kernel
theorem dX0_grainsIn_49 : decode cX0_grainsIn 49 = .ok (.goto 4, 3) := by decide +kernel
theorem dX0_grainsIn_52 : decode cX0_grainsIn 52 = .ok (.iconst 0, 1) := by decide +kernel
theorem dX0_grainsIn_53 : decode cX0_grainsIn 53 = .ok (.iadd, 1) := by decide +kernel
theorem dX0_grainsIn_54 : decode cX0_grainsIn 54 = .ok (.ireturn, 1) := by decide +kernel
theorem dX0_rowOfKey_0 : decode cX0_rowOfKey 0 = .ok (.iload_n 0, 1) := by decide +kernel
theorem dX0_rowOfKey_1 : decode cX0_rowOfKey 1 = .ok (.invokestatic 41, 3) := by decide +kernel
theorem dX0_rowOfKey_4 : decode cX0_rowOfKey 4 = .ok (.invokestatic 51, 3) := by decide +kernel
theorem dX0_rowOfKey_7 : decode cX0_rowOfKey 7 = .ok (.iload_n 0, 1) := by decide +kernel
theorem dX0_rowOfKey_8 : decode cX0_rowOfKey 8 = .ok (.invokestatic 45, 3) := by decide +kernel
theorem dX0_rowOfKey_11 : decode cX0_rowOfKey 11 = .ok (.invokestatic 51, 3) := by decide +kernel
theorem dX0_rowOfKey_14 : decode cX0_rowOfKey 14 = .ok (.iload_n 0, 1) := by decide +kernel
theorem dX0_rowOfKey_15 : decode cX0_rowOfKey 15 = .ok (.invokestatic 48, 3) := by decide +kernel
theorem dX0_rowOfKey_18 : decode cX0_rowOfKey 18 = .ok (.invokestatic 51, 3) := by decide +kernel
theorem dX0_rowOfKey_21 : decode cX0_rowOfKey 21 = .ok (.invokestatic 54, 3) := by decide +kernel
theorem dX0_rowOfKey_24 : decode cX0_rowOfKey 24 = .ok (.invokestatic 58, 3) := by decide +kernel
theorem dX0_rowOfKey_27 : decode cX0_rowOfKey 27 = .ok (.ireturn, 1) := by decide +kernel
theorem dX0_pathsOf_0 : decode cX0_pathsOf 0 = .ok (.iconst 1, 1) := by decide +kernel
theorem dX0_pathsOf_1 : decode cX0_pathsOf 1 = .ok (.iload_n 0, 1) := by decide +kernel
theorem dX0_pathsOf_2 : decode cX0_pathsOf 2 = .ok (.invokestatic 41, 3) := by decide +kernel
theorem dX0_pathsOf_5 : decode cX0_pathsOf 5 = .ok (.invokestatic 51, 3) := by decide +kernel
theorem dX0_pathsOf_8 : decode cX0_pathsOf 8 = .ok (.ishl, 1) := by decide +kernel
theorem dX0_pathsOf_9 : decode cX0_pathsOf 9 = .ok (.iconst 1, 1) := by decide +kernel
theorem dX0_pathsOf_10 : decode cX0_pathsOf 10 = .ok (.iload_n 0, 1) := by decide +kernel
theorem dX0_pathsOf_11 : decode cX0_pathsOf 11 = .ok (.invokestatic 45, 3) := by decide +kernel
theorem dX0_pathsOf_14 : decode cX0_pathsOf 14 = .ok (.invokestatic 51, 3) := by decide +kernel
theorem dX0_pathsOf_17 : decode cX0_pathsOf 17 = .ok (.ishl, 1) := by decide +kernel
theorem dX0_pathsOf_18 : decode cX0_pathsOf 18 = .ok (.ior, 1) := by decide +kernel
theorem dX0_pathsOf_19 : decode cX0_pathsOf 19 = .ok (.iconst 1, 1) := by decide +kernel
theorem dX0_pathsOf_20 : decode cX0_pathsOf 20 = .ok (.iload_n 0, 1) := by decide +kernel
theorem dX0_pathsOf_21 : decode cX0_pathsOf 21 = .ok (.invokestatic 48, 3) := by decide +kernel
theorem dX0_pathsOf_24 : decode cX0_pathsOf 24 = .ok (.invokestatic 51, 3) := by decide +kernel
theorem dX0_pathsOf_27 : decode cX0_pathsOf 27 = .ok (.ishl, 1) := by decide +kernel
theorem dX0_pathsOf_28 : decode cX0_pathsOf 28 = .ok (.ior, 1) := by decide +kernel
theorem dX0_pathsOf_29 : decode cX0_pathsOf 29 = .ok (.iconst 1, 1) := by decide +kernel
theorem dX0_pathsOf_30 : decode cX0_pathsOf 30 = .ok (.ishr, 1) := by decide +kernel
theorem dX0_pathsOf_31 : decode cX0_pathsOf 31 = .ok (.ireturn, 1) := by decide +kernel
theorem dX0_begin_0 : decode cX0_begin 0 = .ok (.aload_n 0, 1) := by decide +kernel
theorem dX0_begin_1 : decode cX0_begin 1 = .ok (.invokevirtual 61, 3) := by decide +kernel
theorem dX0_begin_4 : decode cX0_begin 4 = .ok (.aload_n 0, 1) := by decide +kernel
theorem dX0_begin_5 : decode cX0_begin 5 = .ok (.iload_n 1, 1) := by decide +kernel
theorem dX0_begin_6 : decode cX0_begin 6 = .ok (.iload_n 1, 1) := by decide +kernel
theorem dX0_begin_7 : decode cX0_begin 7 = .ok (.invokestatic 58, 3) := by decide +kernel
theorem dX0_begin_10 : decode cX0_begin 10 = .ok (.lconst 1, 1) := by decide +kernel
theorem dX0_begin_11 : decode cX0_begin 11 = .ok (.lconst 0, 1) := by decide +kernel
theorem dX0_begin_12 : decode cX0_begin 12 = .ok (.lconst 0, 1) := by decide +kernel
theorem dX0_begin_13 : decode cX0_begin 13 = .ok (.lconst 0, 1) := by decide +kernel
theorem dX0_begin_14 : decode cX0_begin 14 = .ok (.invokevirtual 64, 3) := by decide +kernel
theorem dX0_begin_17 : decode cX0_begin 17 = .ok (.return_, 1) := by decide +kernel
theorem dX0_wipe_0 : decode cX0_wipe 0 = .ok (.iconst 0, 1) := by decide +kernel
theorem dX0_wipe_1 : decode cX0_wipe 1 = .ok (.istore_n 1, 1) := by decide +kernel
theorem dX0_wipe_2 : decode cX0_wipe 2 = .ok (.iload_n 1, 1) := by decide +kernel
theorem dX0_wipe_3 : decode cX0_wipe 3 = .ok (.aload_n 0, 1) := by decide +kernel
theorem dX0_wipe_4 : decode cX0_wipe 4 = .ok (.getfield 68, 3) := by decide +kernel
theorem dX0_wipe_7 : decode cX0_wipe 7 = .ok (.if_icmp .ge 54, 3) := by decide +kernel
theorem dX0_wipe_10 : decode cX0_wipe 10 = .ok (.aload_n 0, 1) := by decide +kernel
theorem dX0_wipe_11 : decode cX0_wipe 11 = .ok (.getfield 9, 3) := by decide +kernel
theorem dX0_wipe_14 : decode cX0_wipe 14 = .ok (.iload_n 1, 1) := by decide +kernel
theorem dX0_wipe_15 : decode cX0_wipe 15 = .ok (.iaload, 1) := by decide +kernel
theorem dX0_wipe_16 : decode cX0_wipe 16 = .ok (.invokestatic 58, 3) := by decide +kernel
theorem dX0_wipe_19 : decode cX0_wipe 19 = .ok (.istore_n 2, 1) := by decide +kernel
theorem dX0_wipe_20 : decode cX0_wipe 20 = .ok (.aload_n 0, 1) := by decide +kernel
theorem dX0_wipe_21 : decode cX0_wipe 21 = .ok (.getfield 15, 3) := by decide +kernel
theorem dX0_wipe_24 : decode cX0_wipe 24 = .ok (.iload_n 2, 1) := by decide +kernel
theorem dX0_wipe_25 : decode cX0_wipe 25 = .ok (.iconst 0, 1) := by decide +kernel
theorem dX0_wipe_26 : decode cX0_wipe 26 = .ok (.bastore, 1) := by decide +kernel
theorem dX0_wipe_27 : decode cX0_wipe 27 = .ok (.aload_n 0, 1) := by decide +kernel
theorem dX0_wipe_28 : decode cX0_wipe 28 = .ok (.getfield 19, 3) := by decide +kernel
theorem dX0_wipe_31 : decode cX0_wipe 31 = .ok (.iload_n 2, 1) := by decide +kernel
theorem dX0_wipe_32 : decode cX0_wipe 32 = .ok (.lconst 0, 1) := by decide +kernel
theorem dX0_wipe_33 : decode cX0_wipe 33 = .ok (.lastore, 1) := by decide +kernel
theorem dX0_wipe_34 : decode cX0_wipe 34 = .ok (.aload_n 0, 1) := by decide +kernel
theorem dX0_wipe_35 : decode cX0_wipe 35 = .ok (.getfield 23, 3) := by decide +kernel
theorem dX0_wipe_38 : decode cX0_wipe 38 = .ok (.iload_n 2, 1) := by decide +kernel
theorem dX0_wipe_39 : decode cX0_wipe 39 = .ok (.lconst 0, 1) := by decide +kernel
theorem dX0_wipe_40 : decode cX0_wipe 40 = .ok (.lastore, 1) := by decide +kernel
theorem dX0_wipe_41 : decode cX0_wipe 41 = .ok (.aload_n 0, 1) := by decide +kernel
theorem dX0_wipe_42 : decode cX0_wipe 42 = .ok (.getfield 26, 3) := by decide +kernel
theorem dX0_wipe_45 : decode cX0_wipe 45 = .ok (.iload_n 2, 1) := by decide +kernel
theorem dX0_wipe_46 : decode cX0_wipe 46 = .ok (.lconst 0, 1) := by decide +kernel
theorem dX0_wipe_47 : decode cX0_wipe 47 = .ok (.lastore, 1) := by decide +kernel
theorem dX0_wipe_48 : decode cX0_wipe 48 = .ok (.aload_n 0, 1) := by decide +kernel
theorem dX0_wipe_49 : decode cX0_wipe 49 = .ok (.getfield 29, 3) := by decide +kernel
theorem dX0_wipe_52 : decode cX0_wipe 52 = .ok (.iload_n 2, 1) := by decide +kernel
theorem dX0_wipe_53 : decode cX0_wipe 53 = .ok (.lconst 0, 1) := by decide +kernel
theorem dX0_wipe_54 : decode cX0_wipe 54 = .ok (.lastore, 1) := by decide +kernel
theorem dX0_wipe_55 : decode cX0_wipe 55 = .ok (.iinc 1 1, 3) := by decide +kernel
theorem dX0_wipe_58 : decode cX0_wipe 58 = .ok (.goto (-56), 3) := by decide +kernel
theorem dX0_wipe_61 : decode cX0_wipe 61 = .ok (.aload_n 0, 1) := by decide +kernel
theorem dX0_wipe_62 : decode cX0_wipe 62 = .ok (.iconst 0, 1) := by decide +kernel
theorem dX0_wipe_63 : decode cX0_wipe 63 = .ok (.putfield 68, 3) := by decide +kernel
theorem dX0_wipe_66 : decode cX0_wipe 66 = .ok (.return_, 1) := by decide +kernel
theorem dX0_add_0 : decode cX0_add 0 = .ok (.iload_n 2, 1) := by decide +kernel
theorem dX0_add_1 : decode cX0_add 1 = .ok (.ifCond .lt 12, 3) := by decide +kernel
theorem dX0_add_4 : decode cX0_add 4 = .ok (.iload_n 2, 1) := by decide +kernel
theorem dX0_add_5 : decode cX0_add 5 = .ok (.aload_n 0, 1) := by decide +kernel
theorem dX0_add_6 : decode cX0_add 6 = .ok (.getfield 15, 3) := by decide +kernel
theorem dX0_add_9 : decode cX0_add 9 = .ok (.arraylength, 1) := by decide +kernel
theorem dX0_add_10 : decode cX0_add 10 = .ok (.if_icmp .lt 4, 3) := by decide +kernel
theorem dX0_add_13 : decode cX0_add 13 = .ok (.return_, 1) := by decide +kernel
theorem dX0_add_14 : decode cX0_add 14 = .ok (.aload_n 0, 1) := by decide +kernel
theorem dX0_add_15 : decode cX0_add 15 = .ok (.getfield 15, 3) := by decide +kernel
theorem dX0_add_18 : decode cX0_add 18 = .ok (.iload_n 2, 1) := by decide +kernel
theorem dX0_add_19 : decode cX0_add 19 = .ok (.baload, 1) := by decide +kernel
theorem dX0_add_20 : decode cX0_add 20 = .ok (.ifCond .ne 30, 3) := by decide +kernel
theorem dX0_add_23 : decode cX0_add 23 = .ok (.aload_n 0, 1) := by decide +kernel
theorem dX0_add_24 : decode cX0_add 24 = .ok (.getfield 15, 3) := by decide +kernel
theorem dX0_add_27 : decode cX0_add 27 = .ok (.iload_n 2, 1) := by decide +kernel
theorem dX0_add_28 : decode cX0_add 28 = .ok (.iconst 1, 1) := by decide +kernel
theorem dX0_add_29 : decode cX0_add 29 = .ok (.bastore, 1) := by decide +kernel
theorem dX0_add_30 : decode cX0_add 30 = .ok (.aload_n 0, 1) := by decide +kernel
theorem dX0_add_31 : decode cX0_add 31 = .ok (.getfield 9, 3) := by decide +kernel
theorem dX0_add_34 : decode cX0_add 34 = .ok (.aload_n 0, 1) := by decide +kernel
theorem dX0_add_35 : decode cX0_add 35 = .ok (.getfield 68, 3) := by decide +kernel
theorem dX0_add_38 : decode cX0_add 38 = .ok (.iload_n 1, 1) := by decide +kernel
theorem dX0_add_39 : decode cX0_add 39 = .ok (.iastore, 1) := by decide +kernel
theorem dX0_add_40 : decode cX0_add 40 = .ok (.aload_n 0, 1) := by decide +kernel
theorem dX0_add_41 : decode cX0_add 41 = .ok (.dup, 1) := by decide +kernel
theorem dX0_add_42 : decode cX0_add 42 = .ok (.getfield 68, 3) := by decide +kernel
theorem dX0_add_45 : decode cX0_add 45 = .ok (.iconst 1, 1) := by decide +kernel
theorem dX0_add_46 : decode cX0_add 46 = .ok (.iadd, 1) := by decide +kernel
theorem dX0_add_47 : decode cX0_add 47 = .ok (.putfield 68, 3) := by decide +kernel
theorem dX0_add_50 : decode cX0_add 50 = .ok (.aload_n 0, 1) := by decide +kernel
theorem dX0_add_51 : decode cX0_add 51 = .ok (.getfield 19, 3) := by decide +kernel
theorem dX0_add_54 : decode cX0_add 54 = .ok (.iload_n 2, 1) := by decide +kernel
theorem dX0_add_55 : decode cX0_add 55 = .ok (.dup2, 1) := by decide +kernel
theorem dX0_add_56 : decode cX0_add 56 = .ok (.laload, 1) := by decide +kernel
theorem dX0_add_57 : decode cX0_add 57 = .ok (.lload_n 3, 1) := by decide +kernel
theorem dX0_add_58 : decode cX0_add 58 = .ok (.ladd, 1) := by decide +kernel
theorem dX0_add_59 : decode cX0_add 59 = .ok (.lastore, 1) := by decide +kernel
theorem dX0_add_60 : decode cX0_add 60 = .ok (.aload_n 0, 1) := by decide +kernel
theorem dX0_add_61 : decode cX0_add 61 = .ok (.getfield 23, 3) := by decide +kernel
theorem dX0_add_64 : decode cX0_add 64 = .ok (.iload_n 2, 1) := by decide +kernel
theorem dX0_add_65 : decode cX0_add 65 = .ok (.dup2, 1) := by decide +kernel
theorem dX0_add_66 : decode cX0_add 66 = .ok (.laload, 1) := by decide +kernel
theorem dX0_add_67 : decode cX0_add 67 = .ok (.lload 5, 2) := by decide +kernel
theorem dX0_add_69 : decode cX0_add 69 = .ok (.ladd, 1) := by decide +kernel
theorem dX0_add_70 : decode cX0_add 70 = .ok (.lastore, 1) := by decide +kernel
theorem dX0_add_71 : decode cX0_add 71 = .ok (.aload_n 0, 1) := by decide +kernel
theorem dX0_add_72 : decode cX0_add 72 = .ok (.getfield 26, 3) := by decide +kernel
theorem dX0_add_75 : decode cX0_add 75 = .ok (.iload_n 2, 1) := by decide +kernel
theorem dX0_add_76 : decode cX0_add 76 = .ok (.dup2, 1) := by decide +kernel
theorem dX0_add_77 : decode cX0_add 77 = .ok (.laload, 1) := by decide +kernel
theorem dX0_add_78 : decode cX0_add 78 = .ok (.lload 7, 2) := by decide +kernel
theorem dX0_add_80 : decode cX0_add 80 = .ok (.ladd, 1) := by decide +kernel
theorem dX0_add_81 : decode cX0_add 81 = .ok (.lastore, 1) := by decide +kernel
theorem dX0_add_82 : decode cX0_add 82 = .ok (.aload_n 0, 1) := by decide +kernel
theorem dX0_add_83 : decode cX0_add 83 = .ok (.getfield 29, 3) := by decide +kernel
theorem dX0_add_86 : decode cX0_add 86 = .ok (.iload_n 2, 1) := by decide +kernel
theorem dX0_add_87 : decode cX0_add 87 = .ok (.dup2, 1) := by decide +kernel
theorem dX0_add_88 : decode cX0_add 88 = .ok (.laload, 1) := by decide +kernel
theorem dX0_add_89 : decode cX0_add 89 = .ok (.lload 9, 2) := by decide +kernel
theorem dX0_add_91 : decode cX0_add 91 = .ok (.ladd, 1) := by decide +kernel
theorem dX0_add_92 : decode cX0_add 92 = .ok (.lastore, 1) := by decide +kernel
theorem dX0_add_93 : decode cX0_add 93 = .ok (.return_, 1) := by decide +kernel
theorem dX0_isZero_0 : decode cX0_isZero 0 = .ok (.aload_n 0, 1) := by decide +kernel
theorem dX0_isZero_1 : decode cX0_isZero 1 = .ok (.getfield 19, 3) := by decide +kernel
theorem dX0_isZero_4 : decode cX0_isZero 4 = .ok (.iload_n 1, 1) := by decide +kernel
theorem dX0_isZero_5 : decode cX0_isZero 5 = .ok (.laload, 1) := by decide +kernel
theorem dX0_isZero_6 : decode cX0_isZero 6 = .ok (.lconst 0, 1) := by decide +kernel
theorem dX0_isZero_7 : decode cX0_isZero 7 = .ok (.lcmp, 1) := by decide +kernel
theorem dX0_isZero_8 : decode cX0_isZero 8 = .ok (.ifCond .ne 40, 3) := by decide +kernel
theorem dX0_isZero_11 : decode cX0_isZero 11 = .ok (.aload_n 0, 1) := by decide +kernel
theorem dX0_isZero_12 : decode cX0_isZero 12 = .ok (.getfield 23, 3) := by decide +kernel
theorem dX0_isZero_15 : decode cX0_isZero 15 = .ok (.iload_n 1, 1) := by decide +kernel
theorem dX0_isZero_16 : decode cX0_isZero 16 = .ok (.laload, 1) := by decide +kernel
theorem dX0_isZero_17 : decode cX0_isZero 17 = .ok (.lconst 0, 1) := by decide +kernel
theorem dX0_isZero_18 : decode cX0_isZero 18 = .ok (.lcmp, 1) := by decide +kernel
theorem dX0_isZero_19 : decode cX0_isZero 19 = .ok (.ifCond .ne 29, 3) := by decide +kernel
theorem dX0_isZero_22 : decode cX0_isZero 22 = .ok (.aload_n 0, 1) := by decide +kernel
theorem dX0_isZero_23 : decode cX0_isZero 23 = .ok (.getfield 26, 3) := by decide +kernel
theorem dX0_isZero_26 : decode cX0_isZero 26 = .ok (.iload_n 1, 1) := by decide +kernel
theorem dX0_isZero_27 : decode cX0_isZero 27 = .ok (.laload, 1) := by decide +kernel
theorem dX0_isZero_28 : decode cX0_isZero 28 = .ok (.lconst 0, 1) := by decide +kernel
theorem dX0_isZero_29 : decode cX0_isZero 29 = .ok (.lcmp, 1) := by decide +kernel
theorem dX0_isZero_30 : decode cX0_isZero 30 = .ok (.ifCond .ne 18, 3) := by decide +kernel
theorem dX0_isZero_33 : decode cX0_isZero 33 = .ok (.aload_n 0, 1) := by decide +kernel
theorem dX0_isZero_34 : decode cX0_isZero 34 = .ok (.getfield 29, 3) := by decide +kernel
theorem dX0_isZero_37 : decode cX0_isZero 37 = .ok (.iload_n 1, 1) := by decide +kernel
theorem dX0_isZero_38 : decode cX0_isZero 38 = .ok (.laload, 1) := by decide +kernel
theorem dX0_isZero_39 : decode cX0_isZero 39 = .ok (.lconst 0, 1) := by decide +kernel
theorem dX0_isZero_40 : decode cX0_isZero 40 = .ok (.lcmp, 1) := by decide +kernel
theorem dX0_isZero_41 : decode cX0_isZero 41 = .ok (.ifCond .ne 7, 3) := by decide +kernel
theorem dX0_isZero_44 : decode cX0_isZero 44 = .ok (.iconst 1, 1) := by decide +kernel
theorem dX0_isZero_45 : decode cX0_isZero 45 = .ok (.goto 4, 3) := by decide +kernel
theorem dX0_isZero_48 : decode cX0_isZero 48 = .ok (.iconst 0, 1) := by decide +kernel
theorem dX0_isZero_49 : decode cX0_isZero 49 = .ok (.ireturn, 1) := by decide +kernel
theorem dX0_numberPart_0 : decode cX0_numberPart 0 = .ok (.iload_n 1, 1) := by decide +kernel
theorem dX0_numberPart_1 : decode cX0_numberPart 1 = .ok (.invokestatic 58, 3) := by decide +kernel
theorem dX0_numberPart_4 : decode cX0_numberPart 4 = .ok (.istore_n 3, 1) := by decide +kernel
theorem dX0_numberPart_5 : decode cX0_numberPart 5 = .ok (.iload_n 3, 1) := by decide +kernel
theorem dX0_numberPart_6 : decode cX0_numberPart 6 = .ok (.aload_n 0, 1) := by decide +kernel
theorem dX0_numberPart_7 : decode cX0_numberPart 7 = .ok (.getfield 15, 3) := by decide +kernel
theorem dX0_numberPart_10 : decode cX0_numberPart 10 = .ok (.arraylength, 1) := by decide +kernel
theorem dX0_numberPart_11 : decode cX0_numberPart 11 = .ok (.if_icmp .lt 5, 3) := by decide +kernel
theorem dX0_numberPart_14 : decode cX0_numberPart 14 = .ok (.lconst 0, 1) := by decide +kernel
theorem dX0_numberPart_15 : decode cX0_numberPart 15 = .ok (.lreturn, 1) := by decide +kernel
theorem dX0_numberPart_16 : decode cX0_numberPart 16 = .ok (.iload_n 2, 1) := by decide +kernel
theorem dX0_numberPart_17 : decode cX0_numberPart 17 = .ok (.tableswitch 48 0 2 #[27, 34, 41], 27) := by decide +kernel
theorem dX0_numberPart_44 : decode cX0_numberPart 44 = .ok (.aload_n 0, 1) := by decide +kernel
theorem dX0_numberPart_45 : decode cX0_numberPart 45 = .ok (.getfield 19, 3) := by decide +kernel
theorem dX0_numberPart_48 : decode cX0_numberPart 48 = .ok (.iload_n 3, 1) := by decide +kernel
theorem dX0_numberPart_49 : decode cX0_numberPart 49 = .ok (.laload, 1) := by decide +kernel
theorem dX0_numberPart_50 : decode cX0_numberPart 50 = .ok (.lreturn, 1) := by decide +kernel
theorem dX0_numberPart_51 : decode cX0_numberPart 51 = .ok (.aload_n 0, 1) := by decide +kernel
theorem dX0_numberPart_52 : decode cX0_numberPart 52 = .ok (.getfield 23, 3) := by decide +kernel
theorem dX0_numberPart_55 : decode cX0_numberPart 55 = .ok (.iload_n 3, 1) := by decide +kernel
theorem dX0_numberPart_56 : decode cX0_numberPart 56 = .ok (.laload, 1) := by decide +kernel
theorem dX0_numberPart_57 : decode cX0_numberPart 57 = .ok (.lreturn, 1) := by decide +kernel
theorem dX0_numberPart_58 : decode cX0_numberPart 58 = .ok (.aload_n 0, 1) := by decide +kernel
theorem dX0_numberPart_59 : decode cX0_numberPart 59 = .ok (.getfield 26, 3) := by decide +kernel
theorem dX0_numberPart_62 : decode cX0_numberPart 62 = .ok (.iload_n 3, 1) := by decide +kernel
theorem dX0_numberPart_63 : decode cX0_numberPart 63 = .ok (.laload, 1) := by decide +kernel
theorem dX0_numberPart_64 : decode cX0_numberPart 64 = .ok (.lreturn, 1) := by decide +kernel
theorem dX0_numberPart_65 : decode cX0_numberPart 65 = .ok (.aload_n 0, 1) := by decide +kernel
theorem dX0_numberPart_66 : decode cX0_numberPart 66 = .ok (.getfield 29, 3) := by decide +kernel
theorem dX0_numberPart_69 : decode cX0_numberPart 69 = .ok (.iload_n 3, 1) := by decide +kernel
theorem dX0_numberPart_70 : decode cX0_numberPart 70 = .ok (.laload, 1) := by decide +kernel
theorem dX0_numberPart_71 : decode cX0_numberPart 71 = .ok (.lreturn, 1) := by decide +kernel
theorem dX0_send_0 : decode cX0_send 0 = .ok (.aload_n 3, 1) := by decide +kernel
theorem dX0_send_1 : decode cX0_send 1 = .ok (.invokevirtual 61, 3) := by decide +kernel
theorem dX0_send_4 : decode cX0_send 4 = .ok (.iconst 0, 1) := by decide +kernel
theorem dX0_send_5 : decode cX0_send 5 = .ok (.istore 4, 2) := by decide +kernel
theorem dX0_send_7 : decode cX0_send 7 = .ok (.iload 4, 2) := by decide +kernel
theorem dX0_send_9 : decode cX0_send 9 = .ok (.aload_n 0, 1) := by decide +kernel
theorem dX0_send_10 : decode cX0_send 10 = .ok (.getfield 68, 3) := by decide +kernel
theorem dX0_send_13 : decode cX0_send 13 = .ok (.if_icmp .ge 77, 3) := by decide +kernel
theorem dX0_send_16 : decode cX0_send 16 = .ok (.aload_n 0, 1) := by decide +kernel
theorem dX0_send_17 : decode cX0_send 17 = .ok (.getfield 9, 3) := by decide +kernel
theorem dX0_send_20 : decode cX0_send 20 = .ok (.iload 4, 2) := by decide +kernel
theorem dX0_send_22 : decode cX0_send 22 = .ok (.iaload, 1) := by decide +kernel
theorem dX0_send_23 : decode cX0_send 23 = .ok (.istore 5, 2) := by decide +kernel
theorem dX0_send_25 : decode cX0_send 25 = .ok (.iload 5, 2) := by decide +kernel
theorem dX0_send_27 : decode cX0_send 27 = .ok (.invokestatic 58, 3) := by decide +kernel
theorem dX0_send_30 : decode cX0_send 30 = .ok (.istore 6, 2) := by decide +kernel
theorem dX0_send_32 : decode cX0_send 32 = .ok (.aload_n 0, 1) := by decide +kernel
theorem dX0_send_33 : decode cX0_send 33 = .ok (.iload 6, 2) := by decide +kernel
theorem dX0_send_35 : decode cX0_send 35 = .ok (.invokevirtual 72, 3) := by decide +kernel
theorem dX0_send_38 : decode cX0_send 38 = .ok (.ifCond .eq 6, 3) := by decide +kernel
theorem dX0_send_41 : decode cX0_send 41 = .ok (.goto 43, 3) := by decide +kernel
theorem dX0_send_44 : decode cX0_send 44 = .ok (.aload_n 1, 1) := by decide +kernel
theorem dX0_send_45 : decode cX0_send 45 = .ok (.iload 5, 2) := by decide +kernel
theorem dX0_send_47 : decode cX0_send 47 = .ok (.invokevirtual 76, 3) := by decide +kernel
theorem dX0_send_50 : decode cX0_send 50 = .ok (.ifCond .eq 14, 3) := by decide +kernel
theorem dX0_send_53 : decode cX0_send 53 = .ok (.aload_n 0, 1) := by decide +kernel
theorem dX0_send_54 : decode cX0_send 54 = .ok (.iload 5, 2) := by decide +kernel
theorem dX0_send_56 : decode cX0_send 56 = .ok (.aload_n 2, 1) := by decide +kernel
theorem dX0_send_57 : decode cX0_send 57 = .ok (.aload_n 3, 1) := by decide +kernel
theorem dX0_send_58 : decode cX0_send 58 = .ok (.invokevirtual 81, 3) := by decide +kernel
theorem dX0_send_61 : decode cX0_send 61 = .ok (.goto 23, 3) := by decide +kernel
theorem dX0_send_64 : decode cX0_send 64 = .ok (.aload_n 3, 1) := by decide +kernel
theorem dX0_send_65 : decode cX0_send 65 = .ok (.iload 5, 2) := by decide +kernel
theorem dX0_send_67 : decode cX0_send 67 = .ok (.iload 5, 2) := by decide +kernel
theorem dX0_send_69 : decode cX0_send 69 = .ok (.aload_n 1, 1) := by decide +kernel
theorem dX0_send_70 : decode cX0_send 70 = .ok (.invokevirtual 85, 3) := by decide +kernel
theorem dX0_send_73 : decode cX0_send 73 = .ok (.invokestatic 89, 3) := by decide +kernel
theorem dX0_send_76 : decode cX0_send 76 = .ok (.iconst 0, 1) := by decide +kernel
theorem dX0_send_77 : decode cX0_send 77 = .ok (.iconst 0, 1) := by decide +kernel
theorem dX0_send_78 : decode cX0_send 78 = .ok (.aload_n 0, 1) := by decide +kernel
theorem dX0_send_79 : decode cX0_send 79 = .ok (.iload 6, 2) := by decide +kernel
theorem dX0_send_81 : decode cX0_send 81 = .ok (.invokevirtual 93, 3) := by decide +kernel
theorem dX0_send_84 : decode cX0_send 84 = .ok (.iinc 4 1, 3) := by decide +kernel
theorem dX0_send_87 : decode cX0_send 87 = .ok (.goto (-80), 3) := by decide +kernel
theorem dX0_send_90 : decode cX0_send 90 = .ok (.return_, 1) := by decide +kernel
theorem dX0_isMetBy_0 : decode cX0_isMetBy 0 = .ok (.iconst 0, 1) := by decide +kernel
theorem dX0_isMetBy_1 : decode cX0_isMetBy 1 = .ok (.istore_n 2, 1) := by decide +kernel
theorem dX0_isMetBy_2 : decode cX0_isMetBy 2 = .ok (.iload_n 2, 1) := by decide +kernel
theorem dX0_isMetBy_3 : decode cX0_isMetBy 3 = .ok (.aload_n 0, 1) := by decide +kernel
theorem dX0_isMetBy_4 : decode cX0_isMetBy 4 = .ok (.getfield 68, 3) := by decide +kernel
theorem dX0_isMetBy_7 : decode cX0_isMetBy 7 = .ok (.if_icmp .ge 76, 3) := by decide +kernel
theorem dX0_isMetBy_10 : decode cX0_isMetBy 10 = .ok (.aload_n 0, 1) := by decide +kernel
theorem dX0_isMetBy_11 : decode cX0_isMetBy 11 = .ok (.getfield 9, 3) := by decide +kernel
theorem dX0_isMetBy_14 : decode cX0_isMetBy 14 = .ok (.iload_n 2, 1) := by decide +kernel
theorem dX0_isMetBy_15 : decode cX0_isMetBy 15 = .ok (.iaload, 1) := by decide +kernel
theorem dX0_isMetBy_16 : decode cX0_isMetBy 16 = .ok (.aload_n 1, 1) := by decide +kernel
theorem dX0_isMetBy_17 : decode cX0_isMetBy 17 = .ok (.getfield 97, 3) := by decide +kernel
theorem dX0_isMetBy_20 : decode cX0_isMetBy 20 = .ok (.iconst 1, 1) := by decide +kernel
theorem dX0_isMetBy_21 : decode cX0_isMetBy 21 = .ok (.iadd, 1) := by decide +kernel
theorem dX0_isMetBy_22 : decode cX0_isMetBy 22 = .ok (.invokestatic 100, 3) := by decide +kernel
theorem dX0_isMetBy_25 : decode cX0_isMetBy 25 = .ok (.istore_n 3, 1) := by decide +kernel
theorem dX0_isMetBy_26 : decode cX0_isMetBy 26 = .ok (.iload_n 3, 1) := by decide +kernel
theorem dX0_isMetBy_27 : decode cX0_isMetBy 27 = .ok (.aload_n 1, 1) := by decide +kernel
theorem dX0_isMetBy_28 : decode cX0_isMetBy 28 = .ok (.invokevirtual 103, 3) := by decide +kernel
theorem dX0_isMetBy_31 : decode cX0_isMetBy 31 = .ok (.ifCond .eq 21, 3) := by decide +kernel
theorem dX0_isMetBy_34 : decode cX0_isMetBy 34 = .ok (.aload_n 0, 1) := by decide +kernel
theorem dX0_isMetBy_35 : decode cX0_isMetBy 35 = .ok (.getfield 9, 3) := by decide +kernel
theorem dX0_isMetBy_38 : decode cX0_isMetBy 38 = .ok (.iload_n 2, 1) := by decide +kernel
theorem dX0_isMetBy_39 : decode cX0_isMetBy 39 = .ok (.iaload, 1) := by decide +kernel
theorem dX0_isMetBy_40 : decode cX0_isMetBy 40 = .ok (.aload_n 1, 1) := by decide +kernel
theorem dX0_isMetBy_41 : decode cX0_isMetBy 41 = .ok (.getfield 107, 3) := by decide +kernel
theorem dX0_isMetBy_44 : decode cX0_isMetBy 44 = .ok (.iconst 1, 1) := by decide +kernel
theorem dX0_isMetBy_45 : decode cX0_isMetBy 45 = .ok (.iadd, 1) := by decide +kernel
theorem dX0_isMetBy_46 : decode cX0_isMetBy 46 = .ok (.invokestatic 100, 3) := by decide +kernel
theorem dX0_isMetBy_49 : decode cX0_isMetBy 49 = .ok (.goto 4, 3) := by decide +kernel
theorem dX0_isMetBy_52 : decode cX0_isMetBy 52 = .ok (.iconst 0, 1) := by decide +kernel
theorem dX0_isMetBy_53 : decode cX0_isMetBy 53 = .ok (.iadd, 1) := by decide +kernel
theorem dX0_isMetBy_54 : decode cX0_isMetBy 54 = .ok (.istore_n 3, 1) := by decide +kernel
theorem dX0_isMetBy_55 : decode cX0_isMetBy 55 = .ok (.iload_n 3, 1) := by decide +kernel
theorem dX0_isMetBy_56 : decode cX0_isMetBy 56 = .ok (.ifCond .le 21, 3) := by decide +kernel
theorem dX0_isMetBy_59 : decode cX0_isMetBy 59 = .ok (.aload_n 0, 1) := by decide +kernel
theorem dX0_isMetBy_60 : decode cX0_isMetBy 60 = .ok (.aload_n 0, 1) := by decide +kernel
theorem dX0_isMetBy_61 : decode cX0_isMetBy 61 = .ok (.getfield 9, 3) := by decide +kernel
theorem dX0_isMetBy_64 : decode cX0_isMetBy 64 = .ok (.iload_n 2, 1) := by decide +kernel
theorem dX0_isMetBy_65 : decode cX0_isMetBy 65 = .ok (.iaload, 1) := by decide +kernel
theorem dX0_isMetBy_66 : decode cX0_isMetBy 66 = .ok (.invokestatic 58, 3) := by decide +kernel
theorem dX0_isMetBy_69 : decode cX0_isMetBy 69 = .ok (.invokevirtual 72, 3) := by decide +kernel
theorem dX0_isMetBy_72 : decode cX0_isMetBy 72 = .ok (.ifCond .ne 5, 3) := by decide +kernel
theorem dX0_isMetBy_75 : decode cX0_isMetBy 75 = .ok (.iconst 1, 1) := by decide +kernel
theorem dX0_isMetBy_76 : decode cX0_isMetBy 76 = .ok (.ireturn, 1) := by decide +kernel
theorem dX0_isMetBy_77 : decode cX0_isMetBy 77 = .ok (.iinc 2 1, 3) := by decide +kernel
theorem dX0_isMetBy_80 : decode cX0_isMetBy 80 = .ok (.goto (-78), 3) := by decide +kernel
theorem dX0_isMetBy_83 : decode cX0_isMetBy 83 = .ok (.iconst 0, 1) := by decide +kernel
theorem dX0_isMetBy_84 : decode cX0_isMetBy 84 = .ok (.ireturn, 1) := by decide +kernel
theorem dX0_idleFactor_0 : decode cX0_idleFactor 0 = .ok (.iload_n 0, 1) := by decide +kernel
theorem dX0_idleFactor_1 : decode cX0_idleFactor 1 = .ok (.invokestatic 41, 3) := by decide +kernel
theorem dX0_idleFactor_4 : decode cX0_idleFactor 4 = .ok (.ifCond .ne 7, 3) := by decide +kernel
theorem dX0_idleFactor_7 : decode cX0_idleFactor 7 = .ok (.lconst 1, 1) := by decide +kernel
theorem dX0_idleFactor_8 : decode cX0_idleFactor 8 = .ok (.goto 5, 3) := by decide +kernel
theorem dX0_idleFactor_11 : decode cX0_idleFactor 11 = .ok (.iload_n 1, 1) := by decide +kernel
theorem dX0_idleFactor_12 : decode cX0_idleFactor 12 = .ok (.i2l, 1) := by decide +kernel
theorem dX0_idleFactor_13 : decode cX0_idleFactor 13 = .ok (.lstore_n 2, 1) := by decide +kernel
theorem dX0_idleFactor_14 : decode cX0_idleFactor 14 = .ok (.lload_n 2, 1) := by decide +kernel
theorem dX0_idleFactor_15 : decode cX0_idleFactor 15 = .ok (.iload_n 0, 1) := by decide +kernel
theorem dX0_idleFactor_16 : decode cX0_idleFactor 16 = .ok (.invokestatic 45, 3) := by decide +kernel
theorem dX0_idleFactor_19 : decode cX0_idleFactor 19 = .ok (.ifCond .ne 7, 3) := by decide +kernel
theorem dX0_idleFactor_22 : decode cX0_idleFactor 22 = .ok (.lconst 1, 1) := by decide +kernel
theorem dX0_idleFactor_23 : decode cX0_idleFactor 23 = .ok (.goto 5, 3) := by decide +kernel
theorem dX0_idleFactor_26 : decode cX0_idleFactor 26 = .ok (.iload_n 1, 1) := by decide +kernel
theorem dX0_idleFactor_27 : decode cX0_idleFactor 27 = .ok (.i2l, 1) := by decide +kernel
theorem dX0_idleFactor_28 : decode cX0_idleFactor 28 = .ok (.lmul, 1) := by decide +kernel
theorem dX0_idleFactor_29 : decode cX0_idleFactor 29 = .ok (.lstore_n 2, 1) := by decide +kernel
theorem dX0_idleFactor_30 : decode cX0_idleFactor 30 = .ok (.iload_n 0, 1) := by decide +kernel
theorem dX0_idleFactor_31 : decode cX0_idleFactor 31 = .ok (.invokestatic 48, 3) := by decide +kernel
theorem dX0_idleFactor_34 : decode cX0_idleFactor 34 = .ok (.ifCond .ne 7, 3) := by decide +kernel
theorem dX0_idleFactor_37 : decode cX0_idleFactor 37 = .ok (.lload_n 2, 1) := by decide +kernel
theorem dX0_idleFactor_38 : decode cX0_idleFactor 38 = .ok (.goto 7, 3) := by decide +kernel
theorem dX0_idleFactor_41 : decode cX0_idleFactor 41 = .ok (.lload_n 2, 1) := by decide +kernel
theorem dX0_idleFactor_42 : decode cX0_idleFactor 42 = .ok (.iload_n 1, 1) := by decide +kernel
theorem dX0_idleFactor_43 : decode cX0_idleFactor 43 = .ok (.i2l, 1) := by decide +kernel
theorem dX0_idleFactor_44 : decode cX0_idleFactor 44 = .ok (.lmul, 1) := by decide +kernel
theorem dX0_idleFactor_45 : decode cX0_idleFactor 45 = .ok (.lreturn, 1) := by decide +kernel
theorem dX0_spread_0 : decode cX0_spread 0 = .ok (.iload_n 1, 1) := by decide +kernel
theorem dX0_spread_1 : decode cX0_spread 1 = .ok (.invokestatic 58, 3) := by decide +kernel
theorem dX0_spread_4 : decode cX0_spread 4 = .ok (.istore 4, 2) := by decide +kernel
theorem dX0_spread_6 : decode cX0_spread 6 = .ok (.iconst 2, 1) := by decide +kernel
theorem dX0_spread_7 : decode cX0_spread 7 = .ok (.iload_n 1, 1) := by decide +kernel
theorem dX0_spread_8 : decode cX0_spread 8 = .ok (.invokestatic 41, 3) := by decide +kernel
theorem dX0_spread_11 : decode cX0_spread 11 = .ok (.imul, 1) := by decide +kernel
theorem dX0_spread_12 : decode cX0_spread 12 = .ok (.istore 5, 2) := by decide +kernel
theorem dX0_spread_14 : decode cX0_spread 14 = .ok (.iconst 2, 1) := by decide +kernel
theorem dX0_spread_15 : decode cX0_spread 15 = .ok (.iload_n 1, 1) := by decide +kernel
theorem dX0_spread_16 : decode cX0_spread 16 = .ok (.invokestatic 45, 3) := by decide +kernel
theorem dX0_spread_19 : decode cX0_spread 19 = .ok (.imul, 1) := by decide +kernel
theorem dX0_spread_20 : decode cX0_spread 20 = .ok (.istore 6, 2) := by decide +kernel
theorem dX0_spread_22 : decode cX0_spread 22 = .ok (.iconst 2, 1) := by decide +kernel
theorem dX0_spread_23 : decode cX0_spread 23 = .ok (.iload_n 1, 1) := by decide +kernel
theorem dX0_spread_24 : decode cX0_spread 24 = .ok (.invokestatic 48, 3) := by decide +kernel
theorem dX0_spread_27 : decode cX0_spread 27 = .ok (.imul, 1) := by decide +kernel
theorem dX0_spread_28 : decode cX0_spread 28 = .ok (.istore 7, 2) := by decide +kernel
theorem dX0_spread_30 : decode cX0_spread 30 = .ok (.iload 5, 2) := by decide +kernel
theorem dX0_spread_32 : decode cX0_spread 32 = .ok (.aload_n 2, 1) := by decide +kernel
theorem dX0_spread_33 : decode cX0_spread 33 = .ok (.getfield 110, 3) := by decide +kernel
theorem dX0_spread_36 : decode cX0_spread 36 = .ok (.iload_n 1, 1) := by decide +kernel
theorem dX0_spread_37 : decode cX0_spread 37 = .ok (.invokestatic 41, 3) := by decide +kernel
theorem dX0_spread_40 : decode cX0_spread 40 = .ok (.iaload, 1) := by decide +kernel
theorem dX0_spread_41 : decode cX0_spread 41 = .ok (.iadd, 1) := by decide +kernel
theorem dX0_spread_42 : decode cX0_spread 42 = .ok (.istore 8, 2) := by decide +kernel
theorem dX0_spread_44 : decode cX0_spread 44 = .ok (.iload 6, 2) := by decide +kernel
theorem dX0_spread_46 : decode cX0_spread 46 = .ok (.aload_n 2, 1) := by decide +kernel
theorem dX0_spread_47 : decode cX0_spread 47 = .ok (.getfield 110, 3) := by decide +kernel
theorem dX0_spread_50 : decode cX0_spread 50 = .ok (.iload_n 1, 1) := by decide +kernel
theorem dX0_spread_51 : decode cX0_spread 51 = .ok (.invokestatic 45, 3) := by decide +kernel
theorem dX0_spread_54 : decode cX0_spread 54 = .ok (.iaload, 1) := by decide +kernel
theorem dX0_spread_55 : decode cX0_spread 55 = .ok (.iadd, 1) := by decide +kernel
theorem dX0_spread_56 : decode cX0_spread 56 = .ok (.istore 9, 2) := by decide +kernel
theorem dX0_spread_58 : decode cX0_spread 58 = .ok (.iload 7, 2) := by decide +kernel
theorem dX0_spread_60 : decode cX0_spread 60 = .ok (.aload_n 2, 1) := by decide +kernel
theorem dX0_spread_61 : decode cX0_spread 61 = .ok (.getfield 110, 3) := by decide +kernel
theorem dX0_spread_64 : decode cX0_spread 64 = .ok (.iload_n 1, 1) := by decide +kernel
theorem dX0_spread_65 : decode cX0_spread 65 = .ok (.invokestatic 48, 3) := by decide +kernel
theorem dX0_spread_68 : decode cX0_spread 68 = .ok (.iaload, 1) := by decide +kernel
theorem dX0_spread_69 : decode cX0_spread 69 = .ok (.iadd, 1) := by decide +kernel
theorem dX0_spread_70 : decode cX0_spread 70 = .ok (.istore 10, 2) := by decide +kernel
theorem dX0_spread_72 : decode cX0_spread 72 = .ok (.iload 5, 2) := by decide +kernel
theorem dX0_spread_74 : decode cX0_spread 74 = .ok (.istore 11, 2) := by decide +kernel
theorem dX0_spread_76 : decode cX0_spread 76 = .ok (.iload 11, 2) := by decide +kernel
theorem dX0_spread_78 : decode cX0_spread 78 = .ok (.iload 8, 2) := by decide +kernel
theorem dX0_spread_80 : decode cX0_spread 80 = .ok (.if_icmp .ge 160, 3) := by decide +kernel
theorem dX0_spread_83 : decode cX0_spread 83 = .ok (.iload 6, 2) := by decide +kernel
theorem dX0_spread_85 : decode cX0_spread 85 = .ok (.istore 12, 2) := by decide +kernel
theorem dX0_spread_87 : decode cX0_spread 87 = .ok (.iload 12, 2) := by decide +kernel
theorem dX0_spread_89 : decode cX0_spread 89 = .ok (.iload 9, 2) := by decide +kernel
theorem dX0_spread_91 : decode cX0_spread 91 = .ok (.if_icmp .ge 143, 3) := by decide +kernel
theorem dX0_spread_94 : decode cX0_spread 94 = .ok (.iload 7, 2) := by decide +kernel
theorem dX0_spread_96 : decode cX0_spread 96 = .ok (.istore 13, 2) := by decide +kernel
theorem dX0_spread_98 : decode cX0_spread 98 = .ok (.iload 13, 2) := by decide +kernel
theorem dX0_spread_100 : decode cX0_spread 100 = .ok (.iload 10, 2) := by decide +kernel
theorem dX0_spread_102 : decode cX0_spread 102 = .ok (.if_icmp .ge 126, 3) := by decide +kernel
theorem dX0_spread_105 : decode cX0_spread 105 = .ok (.aload_n 2, 1) := by decide +kernel
theorem dX0_spread_106 : decode cX0_spread 106 = .ok (.getfield 115, 3) := by decide +kernel
theorem dX0_spread_109 : decode cX0_spread 109 = .ok (.iload 11, 2) := by decide +kernel
theorem dX0_spread_111 : decode cX0_spread 111 = .ok (.iaload, 1) := by decide +kernel
theorem dX0_spread_112 : decode cX0_spread 112 = .ok (.aload_n 2, 1) := by decide +kernel
theorem dX0_spread_113 : decode cX0_spread 113 = .ok (.getfield 115, 3) := by decide +kernel
theorem dX0_spread_116 : decode cX0_spread 116 = .ok (.iload 12, 2) := by decide +kernel
theorem dX0_spread_118 : decode cX0_spread 118 = .ok (.iaload, 1) := by decide +kernel
theorem dX0_spread_119 : decode cX0_spread 119 = .ok (.aload_n 2, 1) := by decide +kernel
theorem dX0_spread_120 : decode cX0_spread 120 = .ok (.getfield 115, 3) := by decide +kernel
theorem dX0_spread_123 : decode cX0_spread 123 = .ok (.iload 13, 2) := by decide +kernel
theorem dX0_spread_125 : decode cX0_spread 125 = .ok (.iaload, 1) := by decide +kernel
theorem dX0_spread_126 : decode cX0_spread 126 = .ok (.invokestatic 54, 3) := by decide +kernel
theorem dX0_spread_129 : decode cX0_spread 129 = .ok (.istore 14, 2) := by decide +kernel
theorem dX0_spread_131 : decode cX0_spread 131 = .ok (.aload_n 2, 1) := by decide +kernel
theorem dX0_spread_132 : decode cX0_spread 132 = .ok (.getfield 118, 3) := by decide +kernel
theorem dX0_spread_135 : decode cX0_spread 135 = .ok (.iload 11, 2) := by decide +kernel
theorem dX0_spread_137 : decode cX0_spread 137 = .ok (.iaload, 1) := by decide +kernel
theorem dX0_spread_138 : decode cX0_spread 138 = .ok (.aload_n 2, 1) := by decide +kernel
theorem dX0_spread_139 : decode cX0_spread 139 = .ok (.getfield 118, 3) := by decide +kernel
theorem dX0_spread_142 : decode cX0_spread 142 = .ok (.iload 12, 2) := by decide +kernel
theorem dX0_spread_144 : decode cX0_spread 144 = .ok (.iaload, 1) := by decide +kernel
theorem dX0_spread_145 : decode cX0_spread 145 = .ok (.imul, 1) := by decide +kernel
theorem dX0_spread_146 : decode cX0_spread 146 = .ok (.aload_n 2, 1) := by decide +kernel
theorem dX0_spread_147 : decode cX0_spread 147 = .ok (.getfield 118, 3) := by decide +kernel
theorem dX0_spread_150 : decode cX0_spread 150 = .ok (.iload 13, 2) := by decide +kernel
theorem dX0_spread_152 : decode cX0_spread 152 = .ok (.iaload, 1) := by decide +kernel
theorem dX0_spread_153 : decode cX0_spread 153 = .ok (.imul, 1) := by decide +kernel
theorem dX0_spread_154 : decode cX0_spread 154 = .ok (.i2l, 1) := by decide +kernel
theorem dX0_spread_155 : decode cX0_spread 155 = .ok (.lstore 15, 2) := by decide +kernel
theorem dX0_spread_157 : decode cX0_spread 157 = .ok (.aload_n 2, 1) := by decide +kernel
theorem dX0_spread_158 : decode cX0_spread 158 = .ok (.getfield 121, 3) := by decide +kernel
theorem dX0_spread_161 : decode cX0_spread 161 = .ok (.iload 11, 2) := by decide +kernel
theorem dX0_spread_163 : decode cX0_spread 163 = .ok (.iaload, 1) := by decide +kernel
theorem dX0_spread_164 : decode cX0_spread 164 = .ok (.aload_n 2, 1) := by decide +kernel
theorem dX0_spread_165 : decode cX0_spread 165 = .ok (.getfield 121, 3) := by decide +kernel
theorem dX0_spread_168 : decode cX0_spread 168 = .ok (.iload 12, 2) := by decide +kernel
theorem dX0_spread_170 : decode cX0_spread 170 = .ok (.iaload, 1) := by decide +kernel
theorem dX0_spread_171 : decode cX0_spread 171 = .ok (.iadd, 1) := by decide +kernel
theorem dX0_spread_172 : decode cX0_spread 172 = .ok (.aload_n 2, 1) := by decide +kernel
theorem dX0_spread_173 : decode cX0_spread 173 = .ok (.getfield 121, 3) := by decide +kernel
theorem dX0_spread_176 : decode cX0_spread 176 = .ok (.iload 13, 2) := by decide +kernel
theorem dX0_spread_178 : decode cX0_spread 178 = .ok (.iaload, 1) := by decide +kernel
theorem dX0_spread_179 : decode cX0_spread 179 = .ok (.iadd, 1) := by decide +kernel
theorem dX0_spread_180 : decode cX0_spread 180 = .ok (.istore 17, 2) := by decide +kernel
theorem dX0_spread_182 : decode cX0_spread 182 = .ok (.aload_n 2, 1) := by decide +kernel
theorem dX0_spread_183 : decode cX0_spread 183 = .ok (.getfield 124, 3) := by decide +kernel
theorem dX0_spread_186 : decode cX0_spread 186 = .ok (.iload 11, 2) := by decide +kernel
theorem dX0_spread_188 : decode cX0_spread 188 = .ok (.iaload, 1) := by decide +kernel
theorem dX0_spread_189 : decode cX0_spread 189 = .ok (.aload_n 2, 1) := by decide +kernel
theorem dX0_spread_190 : decode cX0_spread 190 = .ok (.getfield 124, 3) := by decide +kernel
theorem dX0_spread_193 : decode cX0_spread 193 = .ok (.iload 12, 2) := by decide +kernel
theorem dX0_spread_195 : decode cX0_spread 195 = .ok (.iaload, 1) := by decide +kernel
theorem dX0_spread_196 : decode cX0_spread 196 = .ok (.iadd, 1) := by decide +kernel
theorem dX0_spread_197 : decode cX0_spread 197 = .ok (.aload_n 2, 1) := by decide +kernel
theorem dX0_spread_198 : decode cX0_spread 198 = .ok (.getfield 124, 3) := by decide +kernel
theorem dX0_spread_201 : decode cX0_spread 201 = .ok (.iload 13, 2) := by decide +kernel
theorem dX0_spread_203 : decode cX0_spread 203 = .ok (.iaload, 1) := by decide +kernel
theorem dX0_spread_204 : decode cX0_spread 204 = .ok (.iadd, 1) := by decide +kernel
theorem dX0_spread_205 : decode cX0_spread 205 = .ok (.istore 18, 2) := by decide +kernel
theorem dX0_spread_207 : decode cX0_spread 207 = .ok (.aload_n 3, 1) := by decide +kernel
theorem dX0_spread_208 : decode cX0_spread 208 = .ok (.iload 14, 2) := by decide +kernel
theorem dX0_spread_210 : decode cX0_spread 210 = .ok (.lload 15, 2) := by decide +kernel
theorem dX0_spread_212 : decode cX0_spread 212 = .ok (.iload 17, 2) := by decide +kernel
theorem dX0_spread_214 : decode cX0_spread 214 = .ok (.iload 18, 2) := by decide +kernel
theorem dX0_spread_216 : decode cX0_spread 216 = .ok (.aload_n 0, 1) := by decide +kernel
theorem dX0_spread_217 : decode cX0_spread 217 = .ok (.iload 4, 2) := by decide +kernel
theorem dX0_spread_219 : decode cX0_spread 219 = .ok (.invokevirtual 93, 3) := by decide +kernel
theorem dX0_spread_222 : decode cX0_spread 222 = .ok (.iinc 13 1, 3) := by decide +kernel
theorem dX0_spread_225 : decode cX0_spread 225 = .ok (.goto (-127), 3) := by decide +kernel
theorem dX0_spread_228 : decode cX0_spread 228 = .ok (.iinc 12 1, 3) := by decide +kernel
theorem dX0_spread_231 : decode cX0_spread 231 = .ok (.goto (-144), 3) := by decide +kernel
theorem dX0_spread_234 : decode cX0_spread 234 = .ok (.iinc 11 1, 3) := by decide +kernel
theorem dX0_spread_237 : decode cX0_spread 237 = .ok (.goto (-161), 3) := by decide +kernel
theorem dX0_spread_240 : decode cX0_spread 240 = .ok (.return_, 1) := by decide +kernel
theorem dX0_addScaled_0 : decode cX0_addScaled 0 = .ok (.iload_n 1, 1) := by decide +kernel
theorem dX0_addScaled_1 : decode cX0_addScaled 1 = .ok (.invokestatic 58, 3) := by decide +kernel
theorem dX0_addScaled_4 : decode cX0_addScaled 4 = .ok (.istore 8, 2) := by decide +kernel
theorem dX0_addScaled_6 : decode cX0_addScaled 6 = .ok (.iload 4, 2) := by decide +kernel
theorem dX0_addScaled_8 : decode cX0_addScaled 8 = .ok (.iconst 2, 1) := by decide +kernel
theorem dX0_addScaled_9 : decode cX0_addScaled 9 = .ok (.if_icmp .lt 11, 3) := by decide +kernel
theorem dX0_addScaled_12 : decode cX0_addScaled 12 = .ok (.ldc2_w 127, 3) := by decide +kernel
theorem dX0_addScaled_15 : decode cX0_addScaled 15 = .ok (.lload_n 2, 1) := by decide +kernel
theorem dX0_addScaled_16 : decode cX0_addScaled 16 = .ok (.lmul, 1) := by decide +kernel
theorem dX0_addScaled_17 : decode cX0_addScaled 17 = .ok (.goto 4, 3) := by decide +kernel
theorem dX0_addScaled_20 : decode cX0_addScaled 20 = .ok (.lload_n 2, 1) := by decide +kernel
theorem dX0_addScaled_21 : decode cX0_addScaled 21 = .ok (.lstore 9, 2) := by decide +kernel
theorem dX0_addScaled_23 : decode cX0_addScaled 23 = .ok (.iload 4, 2) := by decide +kernel
theorem dX0_addScaled_25 : decode cX0_addScaled 25 = .ok (.iconst 1, 1) := by decide +kernel
theorem dX0_addScaled_26 : decode cX0_addScaled 26 = .ok (.iand, 1) := by decide +kernel
theorem dX0_addScaled_27 : decode cX0_addScaled 27 = .ok (.iconst 1, 1) := by decide +kernel
theorem dX0_addScaled_28 : decode cX0_addScaled 28 = .ok (.if_icmp .ne 7, 3) := by decide +kernel
theorem dX0_addScaled_31 : decode cX0_addScaled 31 = .ok (.iconst 1, 1) := by decide +kernel
theorem dX0_addScaled_32 : decode cX0_addScaled 32 = .ok (.goto 4, 3) := by decide +kernel
theorem dX0_addScaled_35 : decode cX0_addScaled 35 = .ok (.iconst 0, 1) := by decide +kernel
theorem dX0_addScaled_36 : decode cX0_addScaled 36 = .ok (.istore 11, 2) := by decide +kernel
theorem dX0_addScaled_38 : decode cX0_addScaled 38 = .ok (.lload 9, 2) := by decide +kernel
theorem dX0_addScaled_40 : decode cX0_addScaled 40 = .ok (.iload 11, 2) := by decide +kernel
theorem dX0_addScaled_42 : decode cX0_addScaled 42 = .ok (.ifCond .eq 18, 3) := by decide +kernel
theorem dX0_addScaled_45 : decode cX0_addScaled 45 = .ok (.ldc2_w 127, 3) := by decide +kernel
theorem dX0_addScaled_48 : decode cX0_addScaled 48 = .ok (.aload 6, 2) := by decide +kernel
theorem dX0_addScaled_50 : decode cX0_addScaled 50 = .ok (.getfield 23, 3) := by decide +kernel
theorem dX0_addScaled_53 : decode cX0_addScaled 53 = .ok (.iload 7, 2) := by decide +kernel
theorem dX0_addScaled_55 : decode cX0_addScaled 55 = .ok (.laload, 1) := by decide +kernel
theorem dX0_addScaled_56 : decode cX0_addScaled 56 = .ok (.lmul, 1) := by decide +kernel
theorem dX0_addScaled_57 : decode cX0_addScaled 57 = .ok (.goto 11, 3) := by decide +kernel
theorem dX0_addScaled_60 : decode cX0_addScaled 60 = .ok (.aload 6, 2) := by decide +kernel
theorem dX0_addScaled_62 : decode cX0_addScaled 62 = .ok (.getfield 19, 3) := by decide +kernel
theorem dX0_addScaled_65 : decode cX0_addScaled 65 = .ok (.iload 7, 2) := by decide +kernel
theorem dX0_addScaled_67 : decode cX0_addScaled 67 = .ok (.laload, 1) := by decide +kernel
theorem dX0_addScaled_68 : decode cX0_addScaled 68 = .ok (.lmul, 1) := by decide +kernel
theorem dX0_addScaled_69 : decode cX0_addScaled 69 = .ok (.lstore 12, 2) := by decide +kernel
theorem dX0_addScaled_71 : decode cX0_addScaled 71 = .ok (.lload 9, 2) := by decide +kernel
theorem dX0_addScaled_73 : decode cX0_addScaled 73 = .ok (.iload 11, 2) := by decide +kernel
theorem dX0_addScaled_75 : decode cX0_addScaled 75 = .ok (.ifCond .eq 14, 3) := by decide +kernel
theorem dX0_addScaled_78 : decode cX0_addScaled 78 = .ok (.aload 6, 2) := by decide +kernel
theorem dX0_addScaled_80 : decode cX0_addScaled 80 = .ok (.getfield 19, 3) := by decide +kernel
theorem dX0_addScaled_83 : decode cX0_addScaled 83 = .ok (.iload 7, 2) := by decide +kernel
theorem dX0_addScaled_85 : decode cX0_addScaled 85 = .ok (.laload, 1) := by decide +kernel
theorem dX0_addScaled_86 : decode cX0_addScaled 86 = .ok (.goto 11, 3) := by decide +kernel
theorem dX0_addScaled_89 : decode cX0_addScaled 89 = .ok (.aload 6, 2) := by decide +kernel
theorem dX0_addScaled_91 : decode cX0_addScaled 91 = .ok (.getfield 23, 3) := by decide +kernel
theorem dX0_addScaled_94 : decode cX0_addScaled 94 = .ok (.iload 7, 2) := by decide +kernel
theorem dX0_addScaled_96 : decode cX0_addScaled 96 = .ok (.laload, 1) := by decide +kernel
theorem dX0_addScaled_97 : decode cX0_addScaled 97 = .ok (.lmul, 1) := by decide +kernel
theorem dX0_addScaled_98 : decode cX0_addScaled 98 = .ok (.lstore 14, 2) := by decide +kernel
theorem dX0_addScaled_100 : decode cX0_addScaled 100 = .ok (.lload 9, 2) := by decide +kernel
theorem dX0_addScaled_102 : decode cX0_addScaled 102 = .ok (.iload 11, 2) := by decide +kernel
theorem dX0_addScaled_104 : decode cX0_addScaled 104 = .ok (.ifCond .eq 18, 3) := by decide +kernel
theorem dX0_addScaled_107 : decode cX0_addScaled 107 = .ok (.ldc2_w 127, 3) := by decide +kernel
theorem dX0_addScaled_110 : decode cX0_addScaled 110 = .ok (.aload 6, 2) := by decide +kernel
theorem dX0_addScaled_112 : decode cX0_addScaled 112 = .ok (.getfield 29, 3) := by decide +kernel
theorem dX0_addScaled_115 : decode cX0_addScaled 115 = .ok (.iload 7, 2) := by decide +kernel
theorem dX0_addScaled_117 : decode cX0_addScaled 117 = .ok (.laload, 1) := by decide +kernel
theorem dX0_addScaled_118 : decode cX0_addScaled 118 = .ok (.lmul, 1) := by decide +kernel
theorem dX0_addScaled_119 : decode cX0_addScaled 119 = .ok (.goto 11, 3) := by decide +kernel
theorem dX0_addScaled_122 : decode cX0_addScaled 122 = .ok (.aload 6, 2) := by decide +kernel
theorem dX0_addScaled_124 : decode cX0_addScaled 124 = .ok (.getfield 26, 3) := by decide +kernel
theorem dX0_addScaled_127 : decode cX0_addScaled 127 = .ok (.iload 7, 2) := by decide +kernel
theorem dX0_addScaled_129 : decode cX0_addScaled 129 = .ok (.laload, 1) := by decide +kernel
theorem dX0_addScaled_130 : decode cX0_addScaled 130 = .ok (.lmul, 1) := by decide +kernel
theorem dX0_addScaled_131 : decode cX0_addScaled 131 = .ok (.lstore 16, 2) := by decide +kernel
theorem dX0_addScaled_133 : decode cX0_addScaled 133 = .ok (.lload 9, 2) := by decide +kernel
theorem dX0_addScaled_135 : decode cX0_addScaled 135 = .ok (.iload 11, 2) := by decide +kernel
theorem dX0_addScaled_137 : decode cX0_addScaled 137 = .ok (.ifCond .eq 14, 3) := by decide +kernel
theorem dX0_addScaled_140 : decode cX0_addScaled 140 = .ok (.aload 6, 2) := by decide +kernel
theorem dX0_addScaled_142 : decode cX0_addScaled 142 = .ok (.getfield 26, 3) := by decide +kernel
theorem dX0_addScaled_145 : decode cX0_addScaled 145 = .ok (.iload 7, 2) := by decide +kernel
theorem dX0_addScaled_147 : decode cX0_addScaled 147 = .ok (.laload, 1) := by decide +kernel
theorem dX0_addScaled_148 : decode cX0_addScaled 148 = .ok (.goto 11, 3) := by decide +kernel
theorem dX0_addScaled_151 : decode cX0_addScaled 151 = .ok (.aload 6, 2) := by decide +kernel
theorem dX0_addScaled_153 : decode cX0_addScaled 153 = .ok (.getfield 29, 3) := by decide +kernel
theorem dX0_addScaled_156 : decode cX0_addScaled 156 = .ok (.iload 7, 2) := by decide +kernel
theorem dX0_addScaled_158 : decode cX0_addScaled 158 = .ok (.laload, 1) := by decide +kernel
theorem dX0_addScaled_159 : decode cX0_addScaled 159 = .ok (.lmul, 1) := by decide +kernel
theorem dX0_addScaled_160 : decode cX0_addScaled 160 = .ok (.lstore 18, 2) := by decide +kernel
theorem dX0_addScaled_162 : decode cX0_addScaled 162 = .ok (.iload 5, 2) := by decide +kernel
theorem dX0_addScaled_164 : decode cX0_addScaled 164 = .ok (.iconst 3, 1) := by decide +kernel
theorem dX0_addScaled_165 : decode cX0_addScaled 165 = .ok (.iand, 1) := by decide +kernel
theorem dX0_addScaled_166 : decode cX0_addScaled 166 = .ok (.tableswitch 86 0 2 #[26, 44, 64], 26) := by decide +kernel
theorem dX0_addScaled_192 : decode cX0_addScaled 192 = .ok (.aload_n 0, 1) := by decide +kernel
theorem dX0_addScaled_193 : decode cX0_addScaled 193 = .ok (.iload_n 1, 1) := by decide +kernel
theorem dX0_addScaled_194 : decode cX0_addScaled 194 = .ok (.iload 8, 2) := by decide +kernel
theorem dX0_addScaled_196 : decode cX0_addScaled 196 = .ok (.lload 12, 2) := by decide +kernel
theorem dX0_addScaled_198 : decode cX0_addScaled 198 = .ok (.lload 14, 2) := by decide +kernel
theorem dX0_addScaled_200 : decode cX0_addScaled 200 = .ok (.lload 16, 2) := by decide +kernel
theorem dX0_addScaled_202 : decode cX0_addScaled 202 = .ok (.lload 18, 2) := by decide +kernel
theorem dX0_addScaled_204 : decode cX0_addScaled 204 = .ok (.invokevirtual 64, 3) := by decide +kernel
theorem dX0_addScaled_207 : decode cX0_addScaled 207 = .ok (.goto 62, 3) := by decide +kernel
theorem dX0_addScaled_210 : decode cX0_addScaled 210 = .ok (.aload_n 0, 1) := by decide +kernel
theorem dX0_addScaled_211 : decode cX0_addScaled 211 = .ok (.iload_n 1, 1) := by decide +kernel
theorem dX0_addScaled_212 : decode cX0_addScaled 212 = .ok (.iload 8, 2) := by decide +kernel
theorem dX0_addScaled_214 : decode cX0_addScaled 214 = .ok (.lload 16, 2) := by decide +kernel
theorem dX0_addScaled_216 : decode cX0_addScaled 216 = .ok (.lneg, 1) := by decide +kernel
theorem dX0_addScaled_217 : decode cX0_addScaled 217 = .ok (.lload 18, 2) := by decide +kernel
theorem dX0_addScaled_219 : decode cX0_addScaled 219 = .ok (.lneg, 1) := by decide +kernel
theorem dX0_addScaled_220 : decode cX0_addScaled 220 = .ok (.lload 12, 2) := by decide +kernel
theorem dX0_addScaled_222 : decode cX0_addScaled 222 = .ok (.lload 14, 2) := by decide +kernel
theorem dX0_addScaled_224 : decode cX0_addScaled 224 = .ok (.invokevirtual 64, 3) := by decide +kernel
theorem dX0_addScaled_227 : decode cX0_addScaled 227 = .ok (.goto 42, 3) := by decide +kernel
theorem dX0_addScaled_230 : decode cX0_addScaled 230 = .ok (.aload_n 0, 1) := by decide +kernel
theorem dX0_addScaled_231 : decode cX0_addScaled 231 = .ok (.iload_n 1, 1) := by decide +kernel
theorem dX0_addScaled_232 : decode cX0_addScaled 232 = .ok (.iload 8, 2) := by decide +kernel
theorem dX0_addScaled_234 : decode cX0_addScaled 234 = .ok (.lload 12, 2) := by decide +kernel
theorem dX0_addScaled_236 : decode cX0_addScaled 236 = .ok (.lneg, 1) := by decide +kernel
theorem dX0_addScaled_237 : decode cX0_addScaled 237 = .ok (.lload 14, 2) := by decide +kernel
theorem dX0_addScaled_239 : decode cX0_addScaled 239 = .ok (.lneg, 1) := by decide +kernel
theorem dX0_addScaled_240 : decode cX0_addScaled 240 = .ok (.lload 16, 2) := by decide +kernel
theorem dX0_addScaled_242 : decode cX0_addScaled 242 = .ok (.lneg, 1) := by decide +kernel
theorem dX0_addScaled_243 : decode cX0_addScaled 243 = .ok (.lload 18, 2) := by decide +kernel
theorem dX0_addScaled_245 : decode cX0_addScaled 245 = .ok (.lneg, 1) := by decide +kernel
theorem dX0_addScaled_246 : decode cX0_addScaled 246 = .ok (.invokevirtual 64, 3) := by decide +kernel
theorem dX0_addScaled_249 : decode cX0_addScaled 249 = .ok (.goto 20, 3) := by decide +kernel
theorem dX0_addScaled_252 : decode cX0_addScaled 252 = .ok (.aload_n 0, 1) := by decide +kernel
theorem dX0_addScaled_253 : decode cX0_addScaled 253 = .ok (.iload_n 1, 1) := by decide +kernel
theorem dX0_addScaled_254 : decode cX0_addScaled 254 = .ok (.iload 8, 2) := by decide +kernel
theorem dX0_addScaled_256 : decode cX0_addScaled 256 = .ok (.lload 16, 2) := by decide +kernel
theorem dX0_addScaled_258 : decode cX0_addScaled 258 = .ok (.lload 18, 2) := by decide +kernel
theorem dX0_addScaled_260 : decode cX0_addScaled 260 = .ok (.lload 12, 2) := by decide +kernel
theorem dX0_addScaled_262 : decode cX0_addScaled 262 = .ok (.lneg, 1) := by decide +kernel
theorem dX0_addScaled_263 : decode cX0_addScaled 263 = .ok (.lload 14, 2) := by decide +kernel
theorem dX0_addScaled_265 : decode cX0_addScaled 265 = .ok (.lneg, 1) := by decide +kernel
theorem dX0_addScaled_266 : decode cX0_addScaled 266 = .ok (.invokevirtual 64, 3) := by decide +kernel
theorem dX0_addScaled_269 : decode cX0_addScaled 269 = .ok (.return_, 1) := by decide +kernel
theorem dX0_weightWhole_0 : decode cX0_weightWhole 0 = .ok (.iload_n 1, 1) := by decide +kernel
theorem dX0_weightWhole_1 : decode cX0_weightWhole 1 = .ok (.invokestatic 58, 3) := by decide +kernel
theorem dX0_weightWhole_4 : decode cX0_weightWhole 4 = .ok (.istore_n 2, 1) := by decide +kernel
theorem dX0_weightWhole_5 : decode cX0_weightWhole 5 = .ok (.aload_n 0, 1) := by decide +kernel
theorem dX0_weightWhole_6 : decode cX0_weightWhole 6 = .ok (.getfield 19, 3) := by decide +kernel
theorem dX0_weightWhole_9 : decode cX0_weightWhole 9 = .ok (.iload_n 2, 1) := by decide +kernel
theorem dX0_weightWhole_10 : decode cX0_weightWhole 10 = .ok (.laload, 1) := by decide +kernel
theorem dX0_weightWhole_11 : decode cX0_weightWhole 11 = .ok (.aload_n 0, 1) := by decide +kernel
theorem dX0_weightWhole_12 : decode cX0_weightWhole 12 = .ok (.getfield 19, 3) := by decide +kernel
theorem dX0_weightWhole_15 : decode cX0_weightWhole 15 = .ok (.iload_n 2, 1) := by decide +kernel
theorem dX0_weightWhole_16 : decode cX0_weightWhole 16 = .ok (.laload, 1) := by decide +kernel
theorem dX0_weightWhole_17 : decode cX0_weightWhole 17 = .ok (.lmul, 1) := by decide +kernel
theorem dX0_weightWhole_18 : decode cX0_weightWhole 18 = .ok (.ldc2_w 127, 3) := by decide +kernel
theorem dX0_weightWhole_21 : decode cX0_weightWhole 21 = .ok (.aload_n 0, 1) := by decide +kernel
theorem dX0_weightWhole_22 : decode cX0_weightWhole 22 = .ok (.getfield 23, 3) := by decide +kernel
theorem dX0_weightWhole_25 : decode cX0_weightWhole 25 = .ok (.iload_n 2, 1) := by decide +kernel
theorem dX0_weightWhole_26 : decode cX0_weightWhole 26 = .ok (.laload, 1) := by decide +kernel
theorem dX0_weightWhole_27 : decode cX0_weightWhole 27 = .ok (.lmul, 1) := by decide +kernel
theorem dX0_weightWhole_28 : decode cX0_weightWhole 28 = .ok (.aload_n 0, 1) := by decide +kernel
theorem dX0_weightWhole_29 : decode cX0_weightWhole 29 = .ok (.getfield 23, 3) := by decide +kernel
theorem dX0_weightWhole_32 : decode cX0_weightWhole 32 = .ok (.iload_n 2, 1) := by decide +kernel
theorem dX0_weightWhole_33 : decode cX0_weightWhole 33 = .ok (.laload, 1) := by decide +kernel
theorem dX0_weightWhole_34 : decode cX0_weightWhole 34 = .ok (.lmul, 1) := by decide +kernel
theorem dX0_weightWhole_35 : decode cX0_weightWhole 35 = .ok (.ladd, 1) := by decide +kernel
theorem dX0_weightWhole_36 : decode cX0_weightWhole 36 = .ok (.aload_n 0, 1) := by decide +kernel
theorem dX0_weightWhole_37 : decode cX0_weightWhole 37 = .ok (.getfield 26, 3) := by decide +kernel
theorem dX0_weightWhole_40 : decode cX0_weightWhole 40 = .ok (.iload_n 2, 1) := by decide +kernel
theorem dX0_weightWhole_41 : decode cX0_weightWhole 41 = .ok (.laload, 1) := by decide +kernel
theorem dX0_weightWhole_42 : decode cX0_weightWhole 42 = .ok (.aload_n 0, 1) := by decide +kernel
theorem dX0_weightWhole_43 : decode cX0_weightWhole 43 = .ok (.getfield 26, 3) := by decide +kernel
theorem dX0_weightWhole_46 : decode cX0_weightWhole 46 = .ok (.iload_n 2, 1) := by decide +kernel
theorem dX0_weightWhole_47 : decode cX0_weightWhole 47 = .ok (.laload, 1) := by decide +kernel
theorem dX0_weightWhole_48 : decode cX0_weightWhole 48 = .ok (.lmul, 1) := by decide +kernel
theorem dX0_weightWhole_49 : decode cX0_weightWhole 49 = .ok (.ladd, 1) := by decide +kernel
theorem dX0_weightWhole_50 : decode cX0_weightWhole 50 = .ok (.ldc2_w 127, 3) := by decide +kernel
theorem dX0_weightWhole_53 : decode cX0_weightWhole 53 = .ok (.aload_n 0, 1) := by decide +kernel
theorem dX0_weightWhole_54 : decode cX0_weightWhole 54 = .ok (.getfield 29, 3) := by decide +kernel
theorem dX0_weightWhole_57 : decode cX0_weightWhole 57 = .ok (.iload_n 2, 1) := by decide +kernel
theorem dX0_weightWhole_58 : decode cX0_weightWhole 58 = .ok (.laload, 1) := by decide +kernel
theorem dX0_weightWhole_59 : decode cX0_weightWhole 59 = .ok (.lmul, 1) := by decide +kernel
theorem dX0_weightWhole_60 : decode cX0_weightWhole 60 = .ok (.aload_n 0, 1) := by decide +kernel
theorem dX0_weightWhole_61 : decode cX0_weightWhole 61 = .ok (.getfield 29, 3) := by decide +kernel
theorem dX0_weightWhole_64 : decode cX0_weightWhole 64 = .ok (.iload_n 2, 1) := by decide +kernel
theorem dX0_weightWhole_65 : decode cX0_weightWhole 65 = .ok (.laload, 1) := by decide +kernel
theorem dX0_weightWhole_66 : decode cX0_weightWhole 66 = .ok (.lmul, 1) := by decide +kernel
theorem dX0_weightWhole_67 : decode cX0_weightWhole 67 = .ok (.ladd, 1) := by decide +kernel
theorem dX0_weightWhole_68 : decode cX0_weightWhole 68 = .ok (.lstore_n 3, 1) := by decide +kernel
theorem dX0_weightWhole_69 : decode cX0_weightWhole 69 = .ok (.lload_n 3, 1) := by decide +kernel
theorem dX0_weightWhole_70 : decode cX0_weightWhole 70 = .ok (.iload_n 1, 1) := by decide +kernel
theorem dX0_weightWhole_71 : decode cX0_weightWhole 71 = .ok (.invokestatic 129, 3) := by decide +kernel
theorem dX0_weightWhole_74 : decode cX0_weightWhole 74 = .ok (.i2l, 1) := by decide +kernel
theorem dX0_weightWhole_75 : decode cX0_weightWhole 75 = .ok (.lmul, 1) := by decide +kernel
theorem dX0_weightWhole_76 : decode cX0_weightWhole 76 = .ok (.lreturn, 1) := by decide +kernel
theorem dX0_weightRoot_0 : decode cX0_weightRoot 0 = .ok (.iload_n 1, 1) := by decide +kernel
theorem dX0_weightRoot_1 : decode cX0_weightRoot 1 = .ok (.invokestatic 58, 3) := by decide +kernel
theorem dX0_weightRoot_4 : decode cX0_weightRoot 4 = .ok (.istore_n 2, 1) := by decide +kernel
theorem dX0_weightRoot_5 : decode cX0_weightRoot 5 = .ok (.ldc2_w 127, 3) := by decide +kernel
theorem dX0_weightRoot_8 : decode cX0_weightRoot 8 = .ok (.aload_n 0, 1) := by decide +kernel
theorem dX0_weightRoot_9 : decode cX0_weightRoot 9 = .ok (.getfield 19, 3) := by decide +kernel
theorem dX0_weightRoot_12 : decode cX0_weightRoot 12 = .ok (.iload_n 2, 1) := by decide +kernel
theorem dX0_weightRoot_13 : decode cX0_weightRoot 13 = .ok (.laload, 1) := by decide +kernel
theorem dX0_weightRoot_14 : decode cX0_weightRoot 14 = .ok (.aload_n 0, 1) := by decide +kernel
theorem dX0_weightRoot_15 : decode cX0_weightRoot 15 = .ok (.getfield 23, 3) := by decide +kernel
theorem dX0_weightRoot_18 : decode cX0_weightRoot 18 = .ok (.iload_n 2, 1) := by decide +kernel
theorem dX0_weightRoot_19 : decode cX0_weightRoot 19 = .ok (.laload, 1) := by decide +kernel
theorem dX0_weightRoot_20 : decode cX0_weightRoot 20 = .ok (.lmul, 1) := by decide +kernel
theorem dX0_weightRoot_21 : decode cX0_weightRoot 21 = .ok (.aload_n 0, 1) := by decide +kernel
theorem dX0_weightRoot_22 : decode cX0_weightRoot 22 = .ok (.getfield 26, 3) := by decide +kernel
theorem dX0_weightRoot_25 : decode cX0_weightRoot 25 = .ok (.iload_n 2, 1) := by decide +kernel
theorem dX0_weightRoot_26 : decode cX0_weightRoot 26 = .ok (.laload, 1) := by decide +kernel
theorem dX0_weightRoot_27 : decode cX0_weightRoot 27 = .ok (.aload_n 0, 1) := by decide +kernel
theorem dX0_weightRoot_28 : decode cX0_weightRoot 28 = .ok (.getfield 29, 3) := by decide +kernel
theorem dX0_weightRoot_31 : decode cX0_weightRoot 31 = .ok (.iload_n 2, 1) := by decide +kernel
theorem dX0_weightRoot_32 : decode cX0_weightRoot 32 = .ok (.laload, 1) := by decide +kernel
theorem dX0_weightRoot_33 : decode cX0_weightRoot 33 = .ok (.lmul, 1) := by decide +kernel
theorem dX0_weightRoot_34 : decode cX0_weightRoot 34 = .ok (.ladd, 1) := by decide +kernel
theorem dX0_weightRoot_35 : decode cX0_weightRoot 35 = .ok (.lmul, 1) := by decide +kernel
theorem dX0_weightRoot_36 : decode cX0_weightRoot 36 = .ok (.iload_n 1, 1) := by decide +kernel
theorem dX0_weightRoot_37 : decode cX0_weightRoot 37 = .ok (.invokestatic 129, 3) := by decide +kernel
theorem dX0_weightRoot_40 : decode cX0_weightRoot 40 = .ok (.i2l, 1) := by decide +kernel
theorem dX0_weightRoot_41 : decode cX0_weightRoot 41 = .ok (.lmul, 1) := by decide +kernel
theorem dX0_weightRoot_42 : decode cX0_weightRoot 42 = .ok (.lreturn, 1) := by decide +kernel
theorem dX0_shareOfRow_0 : decode cX0_shareOfRow 0 = .ok (.lconst 0, 1) := by decide +kernel
theorem dX0_shareOfRow_1 : decode cX0_shareOfRow 1 = .ok (.lstore 5, 2) := by decide +kernel
theorem dX0_shareOfRow_3 : decode cX0_shareOfRow 3 = .ok (.lconst 0, 1) := by decide +kernel
theorem dX0_shareOfRow_4 : decode cX0_shareOfRow 4 = .ok (.lstore 7, 2) := by decide +kernel
theorem dX0_shareOfRow_6 : decode cX0_shareOfRow 6 = .ok (.iconst 0, 1) := by decide +kernel
theorem dX0_shareOfRow_7 : decode cX0_shareOfRow 7 = .ok (.istore 9, 2) := by decide +kernel
theorem dX0_shareOfRow_9 : decode cX0_shareOfRow 9 = .ok (.iload 9, 2) := by decide +kernel
theorem dX0_shareOfRow_11 : decode cX0_shareOfRow 11 = .ok (.aload_n 0, 1) := by decide +kernel
theorem dX0_shareOfRow_12 : decode cX0_shareOfRow 12 = .ok (.getfield 68, 3) := by decide +kernel
theorem dX0_shareOfRow_15 : decode cX0_shareOfRow 15 = .ok (.if_icmp .ge 55, 3) := by decide +kernel
theorem dX0_shareOfRow_18 : decode cX0_shareOfRow 18 = .ok (.aload_n 0, 1) := by decide +kernel
theorem dX0_shareOfRow_19 : decode cX0_shareOfRow 19 = .ok (.getfield 9, 3) := by decide +kernel
theorem dX0_shareOfRow_22 : decode cX0_shareOfRow 22 = .ok (.iload 9, 2) := by decide +kernel
theorem dX0_shareOfRow_24 : decode cX0_shareOfRow 24 = .ok (.iaload, 1) := by decide +kernel
theorem dX0_shareOfRow_25 : decode cX0_shareOfRow 25 = .ok (.invokestatic 132, 3) := by decide +kernel
theorem dX0_shareOfRow_28 : decode cX0_shareOfRow 28 = .ok (.iload_n 1, 1) := by decide +kernel
theorem dX0_shareOfRow_29 : decode cX0_shareOfRow 29 = .ok (.if_icmp .ne 35, 3) := by decide +kernel
theorem dX0_shareOfRow_32 : decode cX0_shareOfRow 32 = .ok (.lload 5, 2) := by decide +kernel
theorem dX0_shareOfRow_34 : decode cX0_shareOfRow 34 = .ok (.aload_n 0, 1) := by decide +kernel
theorem dX0_shareOfRow_35 : decode cX0_shareOfRow 35 = .ok (.aload_n 0, 1) := by decide +kernel
theorem dX0_shareOfRow_36 : decode cX0_shareOfRow 36 = .ok (.getfield 9, 3) := by decide +kernel
theorem dX0_shareOfRow_39 : decode cX0_shareOfRow 39 = .ok (.iload 9, 2) := by decide +kernel
theorem dX0_shareOfRow_41 : decode cX0_shareOfRow 41 = .ok (.iaload, 1) := by decide +kernel
theorem dX0_shareOfRow_42 : decode cX0_shareOfRow 42 = .ok (.invokevirtual 135, 3) := by decide +kernel
theorem dX0_shareOfRow_45 : decode cX0_shareOfRow 45 = .ok (.ladd, 1) := by decide +kernel
theorem dX0_shareOfRow_46 : decode cX0_shareOfRow 46 = .ok (.lstore 5, 2) := by decide +kernel
theorem dX0_shareOfRow_48 : decode cX0_shareOfRow 48 = .ok (.lload 7, 2) := by decide +kernel
theorem dX0_shareOfRow_50 : decode cX0_shareOfRow 50 = .ok (.aload_n 0, 1) := by decide +kernel
theorem dX0_shareOfRow_51 : decode cX0_shareOfRow 51 = .ok (.aload_n 0, 1) := by decide +kernel
theorem dX0_shareOfRow_52 : decode cX0_shareOfRow 52 = .ok (.getfield 9, 3) := by decide +kernel
theorem dX0_shareOfRow_55 : decode cX0_shareOfRow 55 = .ok (.iload 9, 2) := by decide +kernel
theorem dX0_shareOfRow_57 : decode cX0_shareOfRow 57 = .ok (.iaload, 1) := by decide +kernel
theorem dX0_shareOfRow_58 : decode cX0_shareOfRow 58 = .ok (.invokevirtual 139, 3) := by decide +kernel
theorem dX0_shareOfRow_61 : decode cX0_shareOfRow 61 = .ok (.ladd, 1) := by decide +kernel
theorem dX0_shareOfRow_62 : decode cX0_shareOfRow 62 = .ok (.lstore 7, 2) := by decide +kernel
theorem dX0_shareOfRow_64 : decode cX0_shareOfRow 64 = .ok (.iinc 9 1, 3) := by decide +kernel
theorem dX0_shareOfRow_67 : decode cX0_shareOfRow 67 = .ok (.goto (-58), 3) := by decide +kernel
theorem dX0_shareOfRow_70 : decode cX0_shareOfRow 70 = .ok (.aload 4, 2) := by decide +kernel
theorem dX0_shareOfRow_72 : decode cX0_shareOfRow 72 = .ok (.lload 5, 2) := by decide +kernel
theorem dX0_shareOfRow_74 : decode cX0_shareOfRow 74 = .ok (.lload 7, 2) := by decide +kernel
theorem dX0_shareOfRow_76 : decode cX0_shareOfRow 76 = .ok (.lload_n 2, 1) := by decide +kernel
theorem dX0_shareOfRow_77 : decode cX0_shareOfRow 77 = .ok (.invokevirtual 142, 3) := by decide +kernel
theorem dX0_shareOfRow_80 : decode cX0_shareOfRow 80 = .ok (.return_, 1) := by decide +kernel
theorem dX1_init_0 : decode cX1_init 0 = .ok (.aload_n 0, 1) := by decide +kernel
theorem dX1_init_1 : decode cX1_init 1 = .ok (.invokespecial 3, 3) := by decide +kernel
theorem dX1_init_4 : decode cX1_init 4 = .ok (.aload_n 0, 1) := by decide +kernel
theorem dX1_init_5 : decode cX1_init 5 = .ok (.bipush 56, 2) := by decide +kernel
theorem dX1_init_7 : decode cX1_init 7 = .ok (.newarray .long, 2) := by decide +kernel
theorem dX1_init_9 : decode cX1_init 9 = .ok (.putfield 9, 3) := by decide +kernel
theorem dX1_init_12 : decode cX1_init 12 = .ok (.aload_n 0, 1) := by decide +kernel
theorem dX1_init_13 : decode cX1_init 13 = .ok (.bipush 56, 2) := by decide +kernel
theorem dX1_init_15 : decode cX1_init 15 = .ok (.newarray .long, 2) := by decide +kernel
theorem dX1_init_17 : decode cX1_init 17 = .ok (.putfield 15, 3) := by decide +kernel
theorem dX1_init_20 : decode cX1_init 20 = .ok (.aload_n 0, 1) := by decide +kernel
theorem dX1_init_21 : decode cX1_init 21 = .ok (.bipush 32, 2) := by decide +kernel
theorem dX1_init_23 : decode cX1_init 23 = .ok (.newarray .long, 2) := by decide +kernel
theorem dX1_init_25 : decode cX1_init 25 = .ok (.putfield 18, 3) := by decide +kernel
theorem dX1_init_28 : decode cX1_init 28 = .ok (.aload_n 0, 1) := by decide +kernel
theorem dX1_init_29 : decode cX1_init 29 = .ok (.bipush 32, 2) := by decide +kernel
theorem dX1_init_31 : decode cX1_init 31 = .ok (.newarray .long, 2) := by decide +kernel
theorem dX1_init_33 : decode cX1_init 33 = .ok (.putfield 21, 3) := by decide +kernel
theorem dX1_init_36 : decode cX1_init 36 = .ok (.aload_n 0, 1) := by decide +kernel
theorem dX1_init_37 : decode cX1_init 37 = .ok (.lconst 1, 1) := by decide +kernel
theorem dX1_init_38 : decode cX1_init 38 = .ok (.putfield 24, 3) := by decide +kernel
theorem dX1_init_41 : decode cX1_init 41 = .ok (.return_, 1) := by decide +kernel
theorem dX1_gather_0 : decode cX1_gather 0 = .ok (.aload_n 0, 1) := by decide +kernel
theorem dX1_gather_1 : decode cX1_gather 1 = .ok (.lload_n 2, 1) := by decide +kernel
theorem dX1_gather_2 : decode cX1_gather 2 = .ok (.putfield 24, 3) := by decide +kernel
theorem dX1_gather_5 : decode cX1_gather 5 = .ok (.iconst 0, 1) := by decide +kernel
theorem dX1_gather_6 : decode cX1_gather 6 = .ok (.istore 4, 2) := by decide +kernel
theorem dX1_gather_8 : decode cX1_gather 8 = .ok (.iload 4, 2) := by decide +kernel
theorem dX1_gather_10 : decode cX1_gather 10 = .ok (.bipush 56, 2) := by decide +kernel
theorem dX1_gather_12 : decode cX1_gather 12 = .ok (.if_icmp .ge 25, 3) := by decide +kernel
theorem dX1_gather_15 : decode cX1_gather 15 = .ok (.aload_n 0, 1) := by decide +kernel
theorem dX1_gather_16 : decode cX1_gather 16 = .ok (.getfield 9, 3) := by decide +kernel
theorem dX1_gather_19 : decode cX1_gather 19 = .ok (.iload 4, 2) := by decide +kernel
theorem dX1_gather_21 : decode cX1_gather 21 = .ok (.lconst 0, 1) := by decide +kernel
theorem dX1_gather_22 : decode cX1_gather 22 = .ok (.lastore, 1) := by decide +kernel
theorem dX1_gather_23 : decode cX1_gather 23 = .ok (.aload_n 0, 1) := by decide +kernel
theorem dX1_gather_24 : decode cX1_gather 24 = .ok (.getfield 15, 3) := by decide +kernel
theorem dX1_gather_27 : decode cX1_gather 27 = .ok (.iload 4, 2) := by decide +kernel
theorem dX1_gather_29 : decode cX1_gather 29 = .ok (.lconst 0, 1) := by decide +kernel
theorem dX1_gather_30 : decode cX1_gather 30 = .ok (.lastore, 1) := by decide +kernel
theorem dX1_gather_31 : decode cX1_gather 31 = .ok (.iinc 4 1, 3) := by decide +kernel
theorem dX1_gather_34 : decode cX1_gather 34 = .ok (.goto (-26), 3) := by decide +kernel
theorem dX1_gather_37 : decode cX1_gather 37 = .ok (.iconst 0, 1) := by decide +kernel
theorem dX1_gather_38 : decode cX1_gather 38 = .ok (.istore 4, 2) := by decide +kernel
theorem dX1_gather_40 : decode cX1_gather 40 = .ok (.iload 4, 2) := by decide +kernel
theorem dX1_gather_42 : decode cX1_gather 42 = .ok (.bipush 32, 2) := by decide +kernel
theorem dX1_gather_44 : decode cX1_gather 44 = .ok (.if_icmp .ge 25, 3) := by decide +kernel
theorem dX1_gather_47 : decode cX1_gather 47 = .ok (.aload_n 0, 1) := by decide +kernel
theorem dX1_gather_48 : decode cX1_gather 48 = .ok (.getfield 18, 3) := by decide +kernel
theorem dX1_gather_51 : decode cX1_gather 51 = .ok (.iload 4, 2) := by decide +kernel
theorem dX1_gather_53 : decode cX1_gather 53 = .ok (.lconst 0, 1) := by decide +kernel
theorem dX1_gather_54 : decode cX1_gather 54 = .ok (.lastore, 1) := by decide +kernel
theorem dX1_gather_55 : decode cX1_gather 55 = .ok (.aload_n 0, 1) := by decide +kernel
theorem dX1_gather_56 : decode cX1_gather 56 = .ok (.getfield 21, 3) := by decide +kernel
theorem dX1_gather_59 : decode cX1_gather 59 = .ok (.iload 4, 2) := by decide +kernel
theorem dX1_gather_61 : decode cX1_gather 61 = .ok (.lconst 0, 1) := by decide +kernel
theorem dX1_gather_62 : decode cX1_gather 62 = .ok (.lastore, 1) := by decide +kernel
theorem dX1_gather_63 : decode cX1_gather 63 = .ok (.iinc 4 1, 3) := by decide +kernel
theorem dX1_gather_66 : decode cX1_gather 66 = .ok (.goto (-26), 3) := by decide +kernel
theorem dX1_gather_69 : decode cX1_gather 69 = .ok (.iconst 0, 1) := by decide +kernel
theorem dX1_gather_70 : decode cX1_gather 70 = .ok (.istore 4, 2) := by decide +kernel
theorem dX1_gather_72 : decode cX1_gather 72 = .ok (.iload 4, 2) := by decide +kernel
theorem dX1_gather_74 : decode cX1_gather 74 = .ok (.aload_n 1, 1) := by decide +kernel
theorem dX1_gather_75 : decode cX1_gather 75 = .ok (.getfield 28, 3) := by decide +kernel
theorem dX1_gather_78 : decode cX1_gather 78 = .ok (.if_icmp .ge 96, 3) := by decide +kernel
theorem dX1_gather_81 : decode cX1_gather 81 = .ok (.aload_n 1, 1) := by decide +kernel
theorem dX1_gather_82 : decode cX1_gather 82 = .ok (.getfield 34, 3) := by decide +kernel
theorem dX1_gather_85 : decode cX1_gather 85 = .ok (.iload 4, 2) := by decide +kernel
theorem dX1_gather_87 : decode cX1_gather 87 = .ok (.iaload, 1) := by decide +kernel
theorem dX1_gather_88 : decode cX1_gather 88 = .ok (.istore 5, 2) := by decide +kernel
theorem dX1_gather_90 : decode cX1_gather 90 = .ok (.aload_n 1, 1) := by decide +kernel
theorem dX1_gather_91 : decode cX1_gather 91 = .ok (.iload 5, 2) := by decide +kernel
theorem dX1_gather_93 : decode cX1_gather 93 = .ok (.invokevirtual 38, 3) := by decide +kernel
theorem dX1_gather_96 : decode cX1_gather 96 = .ok (.lstore 6, 2) := by decide +kernel
theorem dX1_gather_98 : decode cX1_gather 98 = .ok (.aload_n 1, 1) := by decide +kernel
theorem dX1_gather_99 : decode cX1_gather 99 = .ok (.iload 5, 2) := by decide +kernel
theorem dX1_gather_101 : decode cX1_gather 101 = .ok (.invokevirtual 42, 3) := by decide +kernel
theorem dX1_gather_104 : decode cX1_gather 104 = .ok (.lstore 8, 2) := by decide +kernel
theorem dX1_gather_106 : decode cX1_gather 106 = .ok (.iload 5, 2) := by decide +kernel
theorem dX1_gather_108 : decode cX1_gather 108 = .ok (.invokestatic 45, 3) := by decide +kernel
theorem dX1_gather_111 : decode cX1_gather 111 = .ok (.istore 10, 2) := by decide +kernel
theorem dX1_gather_113 : decode cX1_gather 113 = .ok (.iload 5, 2) := by decide +kernel
theorem dX1_gather_115 : decode cX1_gather 115 = .ok (.invokestatic 49, 3) := by decide +kernel
theorem dX1_gather_118 : decode cX1_gather 118 = .ok (.istore 11, 2) := by decide +kernel
theorem dX1_gather_120 : decode cX1_gather 120 = .ok (.aload_n 0, 1) := by decide +kernel
theorem dX1_gather_121 : decode cX1_gather 121 = .ok (.getfield 9, 3) := by decide +kernel
theorem dX1_gather_124 : decode cX1_gather 124 = .ok (.iload 10, 2) := by decide +kernel
theorem dX1_gather_126 : decode cX1_gather 126 = .ok (.dup2, 1) := by decide +kernel
theorem dX1_gather_127 : decode cX1_gather 127 = .ok (.laload, 1) := by decide +kernel
theorem dX1_gather_128 : decode cX1_gather 128 = .ok (.lload 6, 2) := by decide +kernel
theorem dX1_gather_130 : decode cX1_gather 130 = .ok (.ladd, 1) := by decide +kernel
theorem dX1_gather_131 : decode cX1_gather 131 = .ok (.lastore, 1) := by decide +kernel
theorem dX1_gather_132 : decode cX1_gather 132 = .ok (.aload_n 0, 1) := by decide +kernel
theorem dX1_gather_133 : decode cX1_gather 133 = .ok (.getfield 15, 3) := by decide +kernel
theorem dX1_gather_136 : decode cX1_gather 136 = .ok (.iload 10, 2) := by decide +kernel
theorem dX1_gather_138 : decode cX1_gather 138 = .ok (.dup2, 1) := by decide +kernel
theorem dX1_gather_139 : decode cX1_gather 139 = .ok (.laload, 1) := by decide +kernel
theorem dX1_gather_140 : decode cX1_gather 140 = .ok (.lload 8, 2) := by decide +kernel
theorem dX1_gather_142 : decode cX1_gather 142 = .ok (.ladd, 1) := by decide +kernel
theorem dX1_gather_143 : decode cX1_gather 143 = .ok (.lastore, 1) := by decide +kernel
theorem dX1_gather_144 : decode cX1_gather 144 = .ok (.aload_n 0, 1) := by decide +kernel
theorem dX1_gather_145 : decode cX1_gather 145 = .ok (.getfield 18, 3) := by decide +kernel
theorem dX1_gather_148 : decode cX1_gather 148 = .ok (.iload 11, 2) := by decide +kernel
theorem dX1_gather_150 : decode cX1_gather 150 = .ok (.dup2, 1) := by decide +kernel
theorem dX1_gather_151 : decode cX1_gather 151 = .ok (.laload, 1) := by decide +kernel
theorem dX1_gather_152 : decode cX1_gather 152 = .ok (.lload 6, 2) := by decide +kernel
theorem dX1_gather_154 : decode cX1_gather 154 = .ok (.ladd, 1) := by decide +kernel
theorem dX1_gather_155 : decode cX1_gather 155 = .ok (.lastore, 1) := by decide +kernel
theorem dX1_gather_156 : decode cX1_gather 156 = .ok (.aload_n 0, 1) := by decide +kernel
theorem dX1_gather_157 : decode cX1_gather 157 = .ok (.getfield 21, 3) := by decide +kernel
theorem dX1_gather_160 : decode cX1_gather 160 = .ok (.iload 11, 2) := by decide +kernel
theorem dX1_gather_162 : decode cX1_gather 162 = .ok (.dup2, 1) := by decide +kernel
theorem dX1_gather_163 : decode cX1_gather 163 = .ok (.laload, 1) := by decide +kernel
theorem dX1_gather_164 : decode cX1_gather 164 = .ok (.lload 8, 2) := by decide +kernel
theorem dX1_gather_166 : decode cX1_gather 166 = .ok (.ladd, 1) := by decide +kernel
theorem dX1_gather_167 : decode cX1_gather 167 = .ok (.lastore, 1) := by decide +kernel
theorem dX1_gather_168 : decode cX1_gather 168 = .ok (.iinc 4 1, 3) := by decide +kernel
theorem dX1_gather_171 : decode cX1_gather 171 = .ok (.goto (-99), 3) := by decide +kernel
theorem dX1_gather_174 : decode cX1_gather 174 = .ok (.return_, 1) := by decide +kernel
theorem dX1_shareOfRow_0 : decode cX1_shareOfRow 0 = .ok (.iload_n 1, 1) := by decide +kernel
theorem dX1_shareOfRow_1 : decode cX1_shareOfRow 1 = .ok (.ifCond .lt 9, 3) := by decide +kernel
theorem dX1_shareOfRow_4 : decode cX1_shareOfRow 4 = .ok (.iload_n 1, 1) := by decide +kernel
theorem dX1_shareOfRow_5 : decode cX1_shareOfRow 5 = .ok (.bipush 56, 2) := by decide +kernel
theorem dX1_shareOfRow_7 : decode cX1_shareOfRow 7 = .ok (.if_icmp .lt 13, 3) := by decide +kernel
theorem dX1_shareOfRow_10 : decode cX1_shareOfRow 10 = .ok (.aload_n 2, 1) := by decide +kernel
theorem dX1_shareOfRow_11 : decode cX1_shareOfRow 11 = .ok (.lconst 0, 1) := by decide +kernel
theorem dX1_shareOfRow_12 : decode cX1_shareOfRow 12 = .ok (.lconst 0, 1) := by decide +kernel
theorem dX1_shareOfRow_13 : decode cX1_shareOfRow 13 = .ok (.lconst 1, 1) := by decide +kernel
theorem dX1_shareOfRow_14 : decode cX1_shareOfRow 14 = .ok (.invokevirtual 52, 3) := by decide +kernel
theorem dX1_shareOfRow_17 : decode cX1_shareOfRow 17 = .ok (.goto 23, 3) := by decide +kernel
theorem dX1_shareOfRow_20 : decode cX1_shareOfRow 20 = .ok (.aload_n 2, 1) := by decide +kernel
theorem dX1_shareOfRow_21 : decode cX1_shareOfRow 21 = .ok (.aload_n 0, 1) := by decide +kernel
theorem dX1_shareOfRow_22 : decode cX1_shareOfRow 22 = .ok (.getfield 9, 3) := by decide +kernel
theorem dX1_shareOfRow_25 : decode cX1_shareOfRow 25 = .ok (.iload_n 1, 1) := by decide +kernel
theorem dX1_shareOfRow_26 : decode cX1_shareOfRow 26 = .ok (.laload, 1) := by decide +kernel
theorem dX1_shareOfRow_27 : decode cX1_shareOfRow 27 = .ok (.aload_n 0, 1) := by decide +kernel
theorem dX1_shareOfRow_28 : decode cX1_shareOfRow 28 = .ok (.getfield 15, 3) := by decide +kernel
theorem dX1_shareOfRow_31 : decode cX1_shareOfRow 31 = .ok (.iload_n 1, 1) := by decide +kernel
theorem dX1_shareOfRow_32 : decode cX1_shareOfRow 32 = .ok (.laload, 1) := by decide +kernel
theorem dX1_shareOfRow_33 : decode cX1_shareOfRow 33 = .ok (.aload_n 0, 1) := by decide +kernel
theorem dX1_shareOfRow_34 : decode cX1_shareOfRow 34 = .ok (.getfield 24, 3) := by decide +kernel
theorem dX1_shareOfRow_37 : decode cX1_shareOfRow 37 = .ok (.invokevirtual 52, 3) := by decide +kernel
theorem dX1_shareOfRow_40 : decode cX1_shareOfRow 40 = .ok (.return_, 1) := by decide +kernel
theorem dX1_shareOfClicks_0 : decode cX1_shareOfClicks 0 = .ok (.lconst 0, 1) := by decide +kernel
theorem dX1_shareOfClicks_1 : decode cX1_shareOfClicks 1 = .ok (.lstore 4, 2) := by decide +kernel
theorem dX1_shareOfClicks_3 : decode cX1_shareOfClicks 3 = .ok (.lconst 0, 1) := by decide +kernel
theorem dX1_shareOfClicks_4 : decode cX1_shareOfClicks 4 = .ok (.lstore 6, 2) := by decide +kernel
theorem dX1_shareOfClicks_6 : decode cX1_shareOfClicks 6 = .ok (.iconst 0, 1) := by decide +kernel
theorem dX1_shareOfClicks_7 : decode cX1_shareOfClicks 7 = .ok (.istore 8, 2) := by decide +kernel
theorem dX1_shareOfClicks_9 : decode cX1_shareOfClicks 9 = .ok (.iload 8, 2) := by decide +kernel
theorem dX1_shareOfClicks_11 : decode cX1_shareOfClicks 11 = .ok (.bipush 32, 2) := by decide +kernel
theorem dX1_shareOfClicks_13 : decode cX1_shareOfClicks 13 = .ok (.if_icmp .ge 95, 3) := by decide +kernel
theorem dX1_shareOfClicks_16 : decode cX1_shareOfClicks 16 = .ok (.iload 8, 2) := by decide +kernel
theorem dX1_shareOfClicks_18 : decode cX1_shareOfClicks 18 = .ok (.iload_n 1, 1) := by decide +kernel
theorem dX1_shareOfClicks_19 : decode cX1_shareOfClicks 19 = .ok (.iconst (-1), 1) := by decide +kernel
theorem dX1_shareOfClicks_20 : decode cX1_shareOfClicks 20 = .ok (.ixor, 1) := by decide +kernel
theorem dX1_shareOfClicks_21 : decode cX1_shareOfClicks 21 = .ok (.iand, 1) := by decide +kernel
theorem dX1_shareOfClicks_22 : decode cX1_shareOfClicks 22 = .ok (.ifCond .ne 31, 3) := by decide +kernel
theorem dX1_shareOfClicks_25 : decode cX1_shareOfClicks 25 = .ok (.aload_n 0, 1) := by decide +kernel
theorem dX1_shareOfClicks_26 : decode cX1_shareOfClicks 26 = .ok (.getfield 18, 3) := by decide +kernel
theorem dX1_shareOfClicks_29 : decode cX1_shareOfClicks 29 = .ok (.iload 8, 2) := by decide +kernel
theorem dX1_shareOfClicks_31 : decode cX1_shareOfClicks 31 = .ok (.laload, 1) := by decide +kernel
theorem dX1_shareOfClicks_32 : decode cX1_shareOfClicks 32 = .ok (.lconst 0, 1) := by decide +kernel
theorem dX1_shareOfClicks_33 : decode cX1_shareOfClicks 33 = .ok (.lcmp, 1) := by decide +kernel
theorem dX1_shareOfClicks_34 : decode cX1_shareOfClicks 34 = .ok (.ifCond .ne 15, 3) := by decide +kernel
theorem dX1_shareOfClicks_37 : decode cX1_shareOfClicks 37 = .ok (.aload_n 0, 1) := by decide +kernel
theorem dX1_shareOfClicks_38 : decode cX1_shareOfClicks 38 = .ok (.getfield 21, 3) := by decide +kernel
theorem dX1_shareOfClicks_41 : decode cX1_shareOfClicks 41 = .ok (.iload 8, 2) := by decide +kernel
theorem dX1_shareOfClicks_43 : decode cX1_shareOfClicks 43 = .ok (.laload, 1) := by decide +kernel
theorem dX1_shareOfClicks_44 : decode cX1_shareOfClicks 44 = .ok (.lconst 0, 1) := by decide +kernel
theorem dX1_shareOfClicks_45 : decode cX1_shareOfClicks 45 = .ok (.lcmp, 1) := by decide +kernel
theorem dX1_shareOfClicks_46 : decode cX1_shareOfClicks 46 = .ok (.ifCond .eq 7, 3) := by decide +kernel
theorem dX1_shareOfClicks_49 : decode cX1_shareOfClicks 49 = .ok (.iconst 1, 1) := by decide +kernel
theorem dX1_shareOfClicks_50 : decode cX1_shareOfClicks 50 = .ok (.goto 4, 3) := by decide +kernel
theorem dX1_shareOfClicks_53 : decode cX1_shareOfClicks 53 = .ok (.iconst 0, 1) := by decide +kernel
theorem dX1_shareOfClicks_54 : decode cX1_shareOfClicks 54 = .ok (.istore 9, 2) := by decide +kernel
theorem dX1_shareOfClicks_56 : decode cX1_shareOfClicks 56 = .ok (.iload 9, 2) := by decide +kernel
theorem dX1_shareOfClicks_58 : decode cX1_shareOfClicks 58 = .ok (.ifCond .eq 44, 3) := by decide +kernel
theorem dX1_shareOfClicks_61 : decode cX1_shareOfClicks 61 = .ok (.iload 8, 2) := by decide +kernel
theorem dX1_shareOfClicks_63 : decode cX1_shareOfClicks 63 = .ok (.iload_n 1, 1) := by decide +kernel
theorem dX1_shareOfClicks_64 : decode cX1_shareOfClicks 64 = .ok (.aload_n 2, 1) := by decide +kernel
theorem dX1_shareOfClicks_65 : decode cX1_shareOfClicks 65 = .ok (.invokestatic 58, 3) := by decide +kernel
theorem dX1_shareOfClicks_68 : decode cX1_shareOfClicks 68 = .ok (.istore 10, 2) := by decide +kernel
theorem dX1_shareOfClicks_70 : decode cX1_shareOfClicks 70 = .ok (.lload 4, 2) := by decide +kernel
theorem dX1_shareOfClicks_72 : decode cX1_shareOfClicks 72 = .ok (.aload_n 0, 1) := by decide +kernel
theorem dX1_shareOfClicks_73 : decode cX1_shareOfClicks 73 = .ok (.getfield 18, 3) := by decide +kernel
theorem dX1_shareOfClicks_76 : decode cX1_shareOfClicks 76 = .ok (.iload 8, 2) := by decide +kernel
theorem dX1_shareOfClicks_78 : decode cX1_shareOfClicks 78 = .ok (.laload, 1) := by decide +kernel
theorem dX1_shareOfClicks_79 : decode cX1_shareOfClicks 79 = .ok (.iload 10, 2) := by decide +kernel
theorem dX1_shareOfClicks_81 : decode cX1_shareOfClicks 81 = .ok (.i2l, 1) := by decide +kernel
theorem dX1_shareOfClicks_82 : decode cX1_shareOfClicks 82 = .ok (.lmul, 1) := by decide +kernel
theorem dX1_shareOfClicks_83 : decode cX1_shareOfClicks 83 = .ok (.ladd, 1) := by decide +kernel
theorem dX1_shareOfClicks_84 : decode cX1_shareOfClicks 84 = .ok (.lstore 4, 2) := by decide +kernel
theorem dX1_shareOfClicks_86 : decode cX1_shareOfClicks 86 = .ok (.lload 6, 2) := by decide +kernel
theorem dX1_shareOfClicks_88 : decode cX1_shareOfClicks 88 = .ok (.aload_n 0, 1) := by decide +kernel
theorem dX1_shareOfClicks_89 : decode cX1_shareOfClicks 89 = .ok (.getfield 21, 3) := by decide +kernel
theorem dX1_shareOfClicks_92 : decode cX1_shareOfClicks 92 = .ok (.iload 8, 2) := by decide +kernel
theorem dX1_shareOfClicks_94 : decode cX1_shareOfClicks 94 = .ok (.laload, 1) := by decide +kernel
theorem dX1_shareOfClicks_95 : decode cX1_shareOfClicks 95 = .ok (.iload 10, 2) := by decide +kernel
theorem dX1_shareOfClicks_97 : decode cX1_shareOfClicks 97 = .ok (.i2l, 1) := by decide +kernel
theorem dX1_shareOfClicks_98 : decode cX1_shareOfClicks 98 = .ok (.lmul, 1) := by decide +kernel
theorem dX1_shareOfClicks_99 : decode cX1_shareOfClicks 99 = .ok (.ladd, 1) := by decide +kernel
theorem dX1_shareOfClicks_100 : decode cX1_shareOfClicks 100 = .ok (.lstore 6, 2) := by decide +kernel
theorem dX1_shareOfClicks_102 : decode cX1_shareOfClicks 102 = .ok (.iinc 8 1, 3) := by decide +kernel
theorem dX1_shareOfClicks_105 : decode cX1_shareOfClicks 105 = .ok (.goto (-96), 3) := by decide +kernel
theorem dX1_shareOfClicks_108 : decode cX1_shareOfClicks 108 = .ok (.aload_n 3, 1) := by decide +kernel
theorem dX1_shareOfClicks_109 : decode cX1_shareOfClicks 109 = .ok (.lload 4, 2) := by decide +kernel
theorem dX1_shareOfClicks_111 : decode cX1_shareOfClicks 111 = .ok (.lload 6, 2) := by decide +kernel
theorem dX1_shareOfClicks_113 : decode cX1_shareOfClicks 113 = .ok (.aload_n 0, 1) := by decide +kernel
theorem dX1_shareOfClicks_114 : decode cX1_shareOfClicks 114 = .ok (.getfield 24, 3) := by decide +kernel
theorem dX1_shareOfClicks_117 : decode cX1_shareOfClicks 117 = .ok (.ldc2_w 62, 3) := by decide +kernel
theorem dX1_shareOfClicks_120 : decode cX1_shareOfClicks 120 = .ok (.lmul, 1) := by decide +kernel
theorem dX1_shareOfClicks_121 : decode cX1_shareOfClicks 121 = .ok (.invokevirtual 52, 3) := by decide +kernel
theorem dX1_shareOfClicks_124 : decode cX1_shareOfClicks 124 = .ok (.return_, 1) := by decide +kernel
theorem dX1_darkWeight_0 : decode cX1_darkWeight 0 = .ok (.iconst 1, 1) := by decide +kernel
theorem dX1_darkWeight_1 : decode cX1_darkWeight 1 = .ok (.istore_n 3, 1) := by decide +kernel
theorem dX1_darkWeight_2 : decode cX1_darkWeight 2 = .ok (.iconst 0, 1) := by decide +kernel
theorem dX1_darkWeight_3 : decode cX1_darkWeight 3 = .ok (.istore 4, 2) := by decide +kernel
theorem dX1_darkWeight_5 : decode cX1_darkWeight 5 = .ok (.iload 4, 2) := by decide +kernel
theorem dX1_darkWeight_7 : decode cX1_darkWeight 7 = .ok (.iconst 5, 1) := by decide +kernel
theorem dX1_darkWeight_8 : decode cX1_darkWeight 8 = .ok (.if_icmp .ge 64, 3) := by decide +kernel
theorem dX1_darkWeight_11 : decode cX1_darkWeight 11 = .ok (.iload 4, 2) := by decide +kernel
theorem dX1_darkWeight_13 : decode cX1_darkWeight 13 = .ok (.aload_n 2, 1) := by decide +kernel
theorem dX1_darkWeight_14 : decode cX1_darkWeight 14 = .ok (.arraylength, 1) := by decide +kernel
theorem dX1_darkWeight_15 : decode cX1_darkWeight 15 = .ok (.if_icmp .ge 57, 3) := by decide +kernel
theorem dX1_darkWeight_18 : decode cX1_darkWeight 18 = .ok (.iload_n 0, 1) := by decide +kernel
theorem dX1_darkWeight_19 : decode cX1_darkWeight 19 = .ok (.iload 4, 2) := by decide +kernel
theorem dX1_darkWeight_21 : decode cX1_darkWeight 21 = .ok (.ishr, 1) := by decide +kernel
theorem dX1_darkWeight_22 : decode cX1_darkWeight 22 = .ok (.iconst 1, 1) := by decide +kernel
theorem dX1_darkWeight_23 : decode cX1_darkWeight 23 = .ok (.iand, 1) := by decide +kernel
theorem dX1_darkWeight_24 : decode cX1_darkWeight 24 = .ok (.iconst 1, 1) := by decide +kernel
theorem dX1_darkWeight_25 : decode cX1_darkWeight 25 = .ok (.if_icmp .ne 11, 3) := by decide +kernel
theorem dX1_darkWeight_28 : decode cX1_darkWeight 28 = .ok (.iload_n 3, 1) := by decide +kernel
theorem dX1_darkWeight_29 : decode cX1_darkWeight 29 = .ok (.bipush 10, 2) := by decide +kernel
theorem dX1_darkWeight_31 : decode cX1_darkWeight 31 = .ok (.imul, 1) := by decide +kernel
theorem dX1_darkWeight_32 : decode cX1_darkWeight 32 = .ok (.istore_n 3, 1) := by decide +kernel
theorem dX1_darkWeight_33 : decode cX1_darkWeight 33 = .ok (.goto 33, 3) := by decide +kernel
theorem dX1_darkWeight_36 : decode cX1_darkWeight 36 = .ok (.iload_n 1, 1) := by decide +kernel
theorem dX1_darkWeight_37 : decode cX1_darkWeight 37 = .ok (.iload 4, 2) := by decide +kernel
theorem dX1_darkWeight_39 : decode cX1_darkWeight 39 = .ok (.ishr, 1) := by decide +kernel
theorem dX1_darkWeight_40 : decode cX1_darkWeight 40 = .ok (.iconst 1, 1) := by decide +kernel
theorem dX1_darkWeight_41 : decode cX1_darkWeight 41 = .ok (.iand, 1) := by decide +kernel
theorem dX1_darkWeight_42 : decode cX1_darkWeight 42 = .ok (.iconst 1, 1) := by decide +kernel
theorem dX1_darkWeight_43 : decode cX1_darkWeight 43 = .ok (.if_icmp .ne 13, 3) := by decide +kernel
theorem dX1_darkWeight_46 : decode cX1_darkWeight 46 = .ok (.iload_n 3, 1) := by decide +kernel
theorem dX1_darkWeight_47 : decode cX1_darkWeight 47 = .ok (.aload_n 2, 1) := by decide +kernel
theorem dX1_darkWeight_48 : decode cX1_darkWeight 48 = .ok (.iload 4, 2) := by decide +kernel
theorem dX1_darkWeight_50 : decode cX1_darkWeight 50 = .ok (.iaload, 1) := by decide +kernel
theorem dX1_darkWeight_51 : decode cX1_darkWeight 51 = .ok (.imul, 1) := by decide +kernel
theorem dX1_darkWeight_52 : decode cX1_darkWeight 52 = .ok (.istore_n 3, 1) := by decide +kernel
theorem dX1_darkWeight_53 : decode cX1_darkWeight 53 = .ok (.goto 13, 3) := by decide +kernel
theorem dX1_darkWeight_56 : decode cX1_darkWeight 56 = .ok (.iload_n 3, 1) := by decide +kernel
theorem dX1_darkWeight_57 : decode cX1_darkWeight 57 = .ok (.bipush 10, 2) := by decide +kernel
theorem dX1_darkWeight_59 : decode cX1_darkWeight 59 = .ok (.aload_n 2, 1) := by decide +kernel
theorem dX1_darkWeight_60 : decode cX1_darkWeight 60 = .ok (.iload 4, 2) := by decide +kernel
theorem dX1_darkWeight_62 : decode cX1_darkWeight 62 = .ok (.iaload, 1) := by decide +kernel
theorem dX1_darkWeight_63 : decode cX1_darkWeight 63 = .ok (.isub, 1) := by decide +kernel
theorem dX1_darkWeight_64 : decode cX1_darkWeight 64 = .ok (.imul, 1) := by decide +kernel
theorem dX1_darkWeight_65 : decode cX1_darkWeight 65 = .ok (.istore_n 3, 1) := by decide +kernel
theorem dX1_darkWeight_66 : decode cX1_darkWeight 66 = .ok (.iinc 4 1, 3) := by decide +kernel
theorem dX1_darkWeight_69 : decode cX1_darkWeight 69 = .ok (.goto (-64), 3) := by decide +kernel
theorem dX1_darkWeight_72 : decode cX1_darkWeight 72 = .ok (.iload_n 3, 1) := by decide +kernel
theorem dX1_darkWeight_73 : decode cX1_darkWeight 73 = .ok (.ireturn, 1) := by decide +kernel
theorem dX2_init_0 : decode cX2_init 0 = .ok (.aload_n 0, 1) := by decide +kernel
theorem dX2_init_1 : decode cX2_init 1 = .ok (.invokespecial 3, 3) := by decide +kernel
theorem dX2_init_4 : decode cX2_init 4 = .ok (.aload_n 0, 1) := by decide +kernel
theorem dX2_init_5 : decode cX2_init 5 = .ok (.iload_n 1, 1) := by decide +kernel
theorem dX2_init_6 : decode cX2_init 6 = .ok (.anewarray 9, 3) := by decide +kernel
theorem dX2_init_9 : decode cX2_init 9 = .ok (.putfield 11, 3) := by decide +kernel
theorem dX2_init_12 : decode cX2_init 12 = .ok (.iconst 0, 1) := by decide +kernel
theorem dX2_init_13 : decode cX2_init 13 = .ok (.istore_n 2, 1) := by decide +kernel
theorem dX2_init_14 : decode cX2_init 14 = .ok (.iload_n 2, 1) := by decide +kernel
theorem dX2_init_15 : decode cX2_init 15 = .ok (.iload_n 1, 1) := by decide +kernel
theorem dX2_init_16 : decode cX2_init 16 = .ok (.if_icmp .ge 22, 3) := by decide +kernel
theorem dX2_init_19 : decode cX2_init 19 = .ok (.aload_n 0, 1) := by decide +kernel
theorem dX2_init_20 : decode cX2_init 20 = .ok (.getfield 11, 3) := by decide +kernel
theorem dX2_init_23 : decode cX2_init 23 = .ok (.iload_n 2, 1) := by decide +kernel
theorem dX2_init_24 : decode cX2_init 24 = .ok (.new 9, 3) := by decide +kernel
theorem dX2_init_27 : decode cX2_init 27 = .ok (.dup, 1) := by decide +kernel
theorem dX2_init_28 : decode cX2_init 28 = .ok (.invokespecial 17, 3) := by decide +kernel
theorem dX2_init_31 : decode cX2_init 31 = .ok (.aastore, 1) := by decide +kernel
theorem dX2_init_32 : decode cX2_init 32 = .ok (.iinc 2 1, 3) := by decide +kernel
theorem dX2_init_35 : decode cX2_init 35 = .ok (.goto (-21), 3) := by decide +kernel
theorem dX2_init_38 : decode cX2_init 38 = .ok (.return_, 1) := by decide +kernel
theorem dX2_append_0 : decode cX2_append 0 = .ok (.aload_n 0, 1) := by decide +kernel
theorem dX2_append_1 : decode cX2_append 1 = .ok (.getfield 18, 3) := by decide +kernel
theorem dX2_append_4 : decode cX2_append 4 = .ok (.aload_n 0, 1) := by decide +kernel
theorem dX2_append_5 : decode cX2_append 5 = .ok (.getfield 11, 3) := by decide +kernel
theorem dX2_append_8 : decode cX2_append 8 = .ok (.arraylength, 1) := by decide +kernel
theorem dX2_append_9 : decode cX2_append 9 = .ok (.if_icmp .ge 26, 3) := by decide +kernel
theorem dX2_append_12 : decode cX2_append 12 = .ok (.aload_n 0, 1) := by decide +kernel
theorem dX2_append_13 : decode cX2_append 13 = .ok (.getfield 11, 3) := by decide +kernel
theorem dX2_append_16 : decode cX2_append 16 = .ok (.aload_n 0, 1) := by decide +kernel
theorem dX2_append_17 : decode cX2_append 17 = .ok (.getfield 18, 3) := by decide +kernel
theorem dX2_append_20 : decode cX2_append 20 = .ok (.aaload, 1) := by decide +kernel
theorem dX2_append_21 : decode cX2_append 21 = .ok (.aload_n 1, 1) := by decide +kernel
theorem dX2_append_22 : decode cX2_append 22 = .ok (.invokevirtual 22, 3) := by decide +kernel
theorem dX2_append_25 : decode cX2_append 25 = .ok (.aload_n 0, 1) := by decide +kernel
theorem dX2_append_26 : decode cX2_append 26 = .ok (.dup, 1) := by decide +kernel
theorem dX2_append_27 : decode cX2_append 27 = .ok (.getfield 18, 3) := by decide +kernel
theorem dX2_append_30 : decode cX2_append 30 = .ok (.iconst 1, 1) := by decide +kernel
theorem dX2_append_31 : decode cX2_append 31 = .ok (.iadd, 1) := by decide +kernel
theorem dX2_append_32 : decode cX2_append 32 = .ok (.putfield 18, 3) := by decide +kernel
theorem dX2_append_35 : decode cX2_append 35 = .ok (.return_, 1) := by decide +kernel
theorem dX2_copyAll_0 : decode cX2_copyAll 0 = .ok (.aload_n 0, 1) := by decide +kernel
theorem dX2_copyAll_1 : decode cX2_copyAll 1 = .ok (.iconst 0, 1) := by decide +kernel
theorem dX2_copyAll_2 : decode cX2_copyAll 2 = .ok (.putfield 18, 3) := by decide +kernel
theorem dX2_copyAll_5 : decode cX2_copyAll 5 = .ok (.iconst 0, 1) := by decide +kernel
theorem dX2_copyAll_6 : decode cX2_copyAll 6 = .ok (.istore_n 2, 1) := by decide +kernel
theorem dX2_copyAll_7 : decode cX2_copyAll 7 = .ok (.iload_n 2, 1) := by decide +kernel
theorem dX2_copyAll_8 : decode cX2_copyAll 8 = .ok (.aload_n 1, 1) := by decide +kernel
theorem dX2_copyAll_9 : decode cX2_copyAll 9 = .ok (.getfield 18, 3) := by decide +kernel
theorem dX2_copyAll_12 : decode cX2_copyAll 12 = .ok (.if_icmp .ge 19, 3) := by decide +kernel
theorem dX2_copyAll_15 : decode cX2_copyAll 15 = .ok (.aload_n 0, 1) := by decide +kernel
theorem dX2_copyAll_16 : decode cX2_copyAll 16 = .ok (.aload_n 1, 1) := by decide +kernel
theorem dX2_copyAll_17 : decode cX2_copyAll 17 = .ok (.getfield 11, 3) := by decide +kernel
theorem dX2_copyAll_20 : decode cX2_copyAll 20 = .ok (.iload_n 2, 1) := by decide +kernel
theorem dX2_copyAll_21 : decode cX2_copyAll 21 = .ok (.aaload, 1) := by decide +kernel
theorem dX2_copyAll_22 : decode cX2_copyAll 22 = .ok (.invokevirtual 26, 3) := by decide +kernel
theorem dX2_copyAll_25 : decode cX2_copyAll 25 = .ok (.iinc 2 1, 3) := by decide +kernel
theorem dX2_copyAll_28 : decode cX2_copyAll 28 = .ok (.goto (-21), 3) := by decide +kernel
theorem dX2_copyAll_31 : decode cX2_copyAll 31 = .ok (.return_, 1) := by decide +kernel
theorem dX2_depthFor_0 : decode cX2_depthFor 0 = .ok (.iconst 1, 1) := by decide +kernel
theorem dX2_depthFor_1 : decode cX2_depthFor 1 = .ok (.istore_n 2, 1) := by decide +kernel
theorem dX2_depthFor_2 : decode cX2_depthFor 2 = .ok (.iconst 0, 1) := by decide +kernel
theorem dX2_depthFor_3 : decode cX2_depthFor 3 = .ok (.istore_n 3, 1) := by decide +kernel
theorem dX2_depthFor_4 : decode cX2_depthFor 4 = .ok (.iload_n 3, 1) := by decide +kernel
theorem dX2_depthFor_5 : decode cX2_depthFor 5 = .ok (.aload_n 0, 1) := by decide +kernel
theorem dX2_depthFor_6 : decode cX2_depthFor 6 = .ok (.getfield 18, 3) := by decide +kernel
theorem dX2_depthFor_9 : decode cX2_depthFor 9 = .ok (.if_icmp .ge 24, 3) := by decide +kernel
theorem dX2_depthFor_12 : decode cX2_depthFor 12 = .ok (.iload_n 2, 1) := by decide +kernel
theorem dX2_depthFor_13 : decode cX2_depthFor 13 = .ok (.aload_n 0, 1) := by decide +kernel
theorem dX2_depthFor_14 : decode cX2_depthFor 14 = .ok (.getfield 11, 3) := by decide +kernel
theorem dX2_depthFor_17 : decode cX2_depthFor 17 = .ok (.iload_n 3, 1) := by decide +kernel
theorem dX2_depthFor_18 : decode cX2_depthFor 18 = .ok (.aaload, 1) := by decide +kernel
theorem dX2_depthFor_19 : decode cX2_depthFor 19 = .ok (.invokevirtual 29, 3) := by decide +kernel
theorem dX2_depthFor_22 : decode cX2_depthFor 22 = .ok (.iload_n 1, 1) := by decide +kernel
theorem dX2_depthFor_23 : decode cX2_depthFor 23 = .ok (.invokestatic 33, 3) := by decide +kernel
theorem dX2_depthFor_26 : decode cX2_depthFor 26 = .ok (.istore_n 2, 1) := by decide +kernel
theorem dX2_depthFor_27 : decode cX2_depthFor 27 = .ok (.iinc 3 1, 3) := by decide +kernel
theorem dX2_depthFor_30 : decode cX2_depthFor 30 = .ok (.goto (-26), 3) := by decide +kernel
theorem dX2_depthFor_33 : decode cX2_depthFor 33 = .ok (.iload_n 2, 1) := by decide +kernel
theorem dX2_depthFor_34 : decode cX2_depthFor 34 = .ok (.ireturn, 1) := by decide +kernel
theorem dX2_deepen_0 : decode cX2_deepen 0 = .ok (.iload_n 0, 1) := by decide +kernel
theorem dX2_deepen_1 : decode cX2_deepen 1 = .ok (.istore_n 3, 1) := by decide +kernel
theorem dX2_deepen_2 : decode cX2_deepen 2 = .ok (.iconst 0, 1) := by decide +kernel
theorem dX2_deepen_3 : decode cX2_deepen 3 = .ok (.istore 4, 2) := by decide +kernel
theorem dX2_deepen_5 : decode cX2_deepen 5 = .ok (.iload 4, 2) := by decide +kernel
theorem dX2_deepen_7 : decode cX2_deepen 7 = .ok (.iload_n 2, 1) := by decide +kernel
theorem dX2_deepen_8 : decode cX2_deepen 8 = .ok (.if_icmp .ge 19, 3) := by decide +kernel
theorem dX2_deepen_11 : decode cX2_deepen 11 = .ok (.iload_n 3, 1) := by decide +kernel
theorem dX2_deepen_12 : decode cX2_deepen 12 = .ok (.ldc 37, 2) := by decide +kernel
theorem dX2_deepen_14 : decode cX2_deepen 14 = .ok (.if_icmp .gt 13, 3) := by decide +kernel
theorem dX2_deepen_17 : decode cX2_deepen 17 = .ok (.iload_n 3, 1) := by decide +kernel
theorem dX2_deepen_18 : decode cX2_deepen 18 = .ok (.iload_n 1, 1) := by decide +kernel
theorem dX2_deepen_19 : decode cX2_deepen 19 = .ok (.imul, 1) := by decide +kernel
theorem dX2_deepen_20 : decode cX2_deepen 20 = .ok (.istore_n 3, 1) := by decide +kernel
theorem dX2_deepen_21 : decode cX2_deepen 21 = .ok (.iinc 4 1, 3) := by decide +kernel
theorem dX2_deepen_24 : decode cX2_deepen 24 = .ok (.goto (-19), 3) := by decide +kernel
theorem dX2_deepen_27 : decode cX2_deepen 27 = .ok (.iload_n 3, 1) := by decide +kernel
theorem dX2_deepen_28 : decode cX2_deepen 28 = .ok (.ldc 38, 2) := by decide +kernel
theorem dX2_deepen_30 : decode cX2_deepen 30 = .ok (.invokestatic 39, 3) := by decide +kernel
theorem dX2_deepen_33 : decode cX2_deepen 33 = .ok (.ireturn, 1) := by decide +kernel
theorem dX3_init_0 : decode cX3_init 0 = .ok (.aload_n 0, 1) := by decide +kernel
theorem dX3_init_1 : decode cX3_init 1 = .ok (.invokespecial 3, 3) := by decide +kernel
theorem dX3_init_4 : decode cX3_init 4 = .ok (.aload_n 0, 1) := by decide +kernel
theorem dX3_init_5 : decode cX3_init 5 = .ok (.sipush 200, 3) := by decide +kernel
theorem dX3_init_8 : decode cX3_init 8 = .ok (.newarray .int, 2) := by decide +kernel
theorem dX3_init_10 : decode cX3_init 10 = .ok (.putfield 9, 3) := by decide +kernel
theorem dX3_init_13 : decode cX3_init 13 = .ok (.aload_n 0, 1) := by decide +kernel
theorem dX3_init_14 : decode cX3_init 14 = .ok (.sipush 200, 3) := by decide +kernel
theorem dX3_init_17 : decode cX3_init 17 = .ok (.newarray .int, 2) := by decide +kernel
theorem dX3_init_19 : decode cX3_init 19 = .ok (.putfield 15, 3) := by decide +kernel
theorem dX3_init_22 : decode cX3_init 22 = .ok (.aload_n 0, 1) := by decide +kernel
theorem dX3_init_23 : decode cX3_init 23 = .ok (.sipush 200, 3) := by decide +kernel
theorem dX3_init_26 : decode cX3_init 26 = .ok (.newarray .int, 2) := by decide +kernel
theorem dX3_init_28 : decode cX3_init 28 = .ok (.putfield 18, 3) := by decide +kernel
theorem dX3_init_31 : decode cX3_init 31 = .ok (.aload_n 0, 1) := by decide +kernel
theorem dX3_init_32 : decode cX3_init 32 = .ok (.bipush 32, 2) := by decide +kernel
theorem dX3_init_34 : decode cX3_init 34 = .ok (.newarray .int, 2) := by decide +kernel
theorem dX3_init_36 : decode cX3_init 36 = .ok (.putfield 21, 3) := by decide +kernel
theorem dX3_init_39 : decode cX3_init 39 = .ok (.aload_n 0, 1) := by decide +kernel
theorem dX3_init_40 : decode cX3_init 40 = .ok (.iconst 4, 1) := by decide +kernel
theorem dX3_init_41 : decode cX3_init 41 = .ok (.newarray .int, 2) := by decide +kernel
theorem dX3_init_43 : decode cX3_init 43 = .ok (.putfield 24, 3) := by decide +kernel
theorem dX3_init_46 : decode cX3_init 46 = .ok (.aload_n 0, 1) := by decide +kernel
theorem dX3_init_47 : decode cX3_init 47 = .ok (.iconst 4, 1) := by decide +kernel
theorem dX3_init_48 : decode cX3_init 48 = .ok (.newarray .int, 2) := by decide +kernel
theorem dX3_init_50 : decode cX3_init 50 = .ok (.putfield 27, 3) := by decide +kernel
theorem dX3_init_53 : decode cX3_init 53 = .ok (.return_, 1) := by decide +kernel
theorem dX3_append_0 : decode cX3_append 0 = .ok (.aload_n 0, 1) := by decide +kernel
theorem dX3_append_1 : decode cX3_append 1 = .ok (.getfield 30, 3) := by decide +kernel
theorem dX3_append_4 : decode cX3_append 4 = .ok (.sipush 200, 3) := by decide +kernel
theorem dX3_append_7 : decode cX3_append 7 = .ok (.if_icmp .ge 43, 3) := by decide +kernel
theorem dX3_append_10 : decode cX3_append 10 = .ok (.aload_n 0, 1) := by decide +kernel
theorem dX3_append_11 : decode cX3_append 11 = .ok (.getfield 9, 3) := by decide +kernel
theorem dX3_append_14 : decode cX3_append 14 = .ok (.aload_n 0, 1) := by decide +kernel
theorem dX3_append_15 : decode cX3_append 15 = .ok (.getfield 30, 3) := by decide +kernel
theorem dX3_append_18 : decode cX3_append 18 = .ok (.iload_n 1, 1) := by decide +kernel
theorem dX3_append_19 : decode cX3_append 19 = .ok (.iastore, 1) := by decide +kernel
theorem dX3_append_20 : decode cX3_append 20 = .ok (.aload_n 0, 1) := by decide +kernel
theorem dX3_append_21 : decode cX3_append 21 = .ok (.getfield 15, 3) := by decide +kernel
theorem dX3_append_24 : decode cX3_append 24 = .ok (.aload_n 0, 1) := by decide +kernel
theorem dX3_append_25 : decode cX3_append 25 = .ok (.getfield 30, 3) := by decide +kernel
theorem dX3_append_28 : decode cX3_append 28 = .ok (.iload_n 2, 1) := by decide +kernel
theorem dX3_append_29 : decode cX3_append 29 = .ok (.iastore, 1) := by decide +kernel
theorem dX3_append_30 : decode cX3_append 30 = .ok (.aload_n 0, 1) := by decide +kernel
theorem dX3_append_31 : decode cX3_append 31 = .ok (.getfield 18, 3) := by decide +kernel
theorem dX3_append_34 : decode cX3_append 34 = .ok (.aload_n 0, 1) := by decide +kernel
theorem dX3_append_35 : decode cX3_append 35 = .ok (.getfield 30, 3) := by decide +kernel
theorem dX3_append_38 : decode cX3_append 38 = .ok (.iload_n 3, 1) := by decide +kernel
theorem dX3_append_39 : decode cX3_append 39 = .ok (.iastore, 1) := by decide +kernel
theorem dX3_append_40 : decode cX3_append 40 = .ok (.aload_n 0, 1) := by decide +kernel
theorem dX3_append_41 : decode cX3_append 41 = .ok (.dup, 1) := by decide +kernel
theorem dX3_append_42 : decode cX3_append 42 = .ok (.getfield 30, 3) := by decide +kernel
theorem dX3_append_45 : decode cX3_append 45 = .ok (.iconst 1, 1) := by decide +kernel
theorem dX3_append_46 : decode cX3_append 46 = .ok (.iadd, 1) := by decide +kernel
theorem dX3_append_47 : decode cX3_append 47 = .ok (.putfield 30, 3) := by decide +kernel
theorem dX3_append_50 : decode cX3_append 50 = .ok (.return_, 1) := by decide +kernel
theorem dX3_tally_0 : decode cX3_tally 0 = .ok (.iconst 0, 1) := by decide +kernel
theorem dX3_tally_1 : decode cX3_tally 1 = .ok (.istore_n 3, 1) := by decide +kernel
theorem dX3_tally_2 : decode cX3_tally 2 = .ok (.iload_n 3, 1) := by decide +kernel
theorem dX3_tally_3 : decode cX3_tally 3 = .ok (.bipush 32, 2) := by decide +kernel
theorem dX3_tally_5 : decode cX3_tally 5 = .ok (.if_icmp .ge 16, 3) := by decide +kernel
theorem dX3_tally_8 : decode cX3_tally 8 = .ok (.aload_n 0, 1) := by decide +kernel
theorem dX3_tally_9 : decode cX3_tally 9 = .ok (.getfield 21, 3) := by decide +kernel
theorem dX3_tally_12 : decode cX3_tally 12 = .ok (.iload_n 3, 1) := by decide +kernel
theorem dX3_tally_13 : decode cX3_tally 13 = .ok (.iconst 0, 1) := by decide +kernel
theorem dX3_tally_14 : decode cX3_tally 14 = .ok (.iastore, 1) := by decide +kernel
theorem dX3_tally_15 : decode cX3_tally 15 = .ok (.iinc 3 1, 3) := by decide +kernel
theorem dX3_tally_18 : decode cX3_tally 18 = .ok (.goto (-16), 3) := by decide +kernel
theorem dX3_tally_21 : decode cX3_tally 21 = .ok (.aload_n 0, 1) := by decide +kernel
theorem dX3_tally_22 : decode cX3_tally 22 = .ok (.iconst 0, 1) := by decide +kernel
theorem dX3_tally_23 : decode cX3_tally 23 = .ok (.putfield 34, 3) := by decide +kernel
theorem dX3_tally_26 : decode cX3_tally 26 = .ok (.iconst 0, 1) := by decide +kernel
theorem dX3_tally_27 : decode cX3_tally 27 = .ok (.istore_n 3, 1) := by decide +kernel
theorem dX3_tally_28 : decode cX3_tally 28 = .ok (.iload_n 3, 1) := by decide +kernel
theorem dX3_tally_29 : decode cX3_tally 29 = .ok (.aload_n 0, 1) := by decide +kernel
theorem dX3_tally_30 : decode cX3_tally 30 = .ok (.getfield 30, 3) := by decide +kernel
theorem dX3_tally_33 : decode cX3_tally 33 = .ok (.if_icmp .ge 54, 3) := by decide +kernel
theorem dX3_tally_36 : decode cX3_tally 36 = .ok (.aload_n 0, 1) := by decide +kernel
theorem dX3_tally_37 : decode cX3_tally 37 = .ok (.getfield 9, 3) := by decide +kernel
theorem dX3_tally_40 : decode cX3_tally 40 = .ok (.iload_n 3, 1) := by decide +kernel
theorem dX3_tally_41 : decode cX3_tally 41 = .ok (.iaload, 1) := by decide +kernel
theorem dX3_tally_42 : decode cX3_tally 42 = .ok (.iload_n 1, 1) := by decide +kernel
theorem dX3_tally_43 : decode cX3_tally 43 = .ok (.if_icmp .ne 38, 3) := by decide +kernel
theorem dX3_tally_46 : decode cX3_tally 46 = .ok (.aload_n 0, 1) := by decide +kernel
theorem dX3_tally_47 : decode cX3_tally 47 = .ok (.getfield 18, 3) := by decide +kernel
theorem dX3_tally_50 : decode cX3_tally 50 = .ok (.iload_n 3, 1) := by decide +kernel
theorem dX3_tally_51 : decode cX3_tally 51 = .ok (.iaload, 1) := by decide +kernel
theorem dX3_tally_52 : decode cX3_tally 52 = .ok (.iload_n 2, 1) := by decide +kernel
theorem dX3_tally_53 : decode cX3_tally 53 = .ok (.if_icmp .gt 28, 3) := by decide +kernel
theorem dX3_tally_56 : decode cX3_tally 56 = .ok (.aload_n 0, 1) := by decide +kernel
theorem dX3_tally_57 : decode cX3_tally 57 = .ok (.getfield 21, 3) := by decide +kernel
theorem dX3_tally_60 : decode cX3_tally 60 = .ok (.aload_n 0, 1) := by decide +kernel
theorem dX3_tally_61 : decode cX3_tally 61 = .ok (.getfield 15, 3) := by decide +kernel
theorem dX3_tally_64 : decode cX3_tally 64 = .ok (.iload_n 3, 1) := by decide +kernel
theorem dX3_tally_65 : decode cX3_tally 65 = .ok (.iaload, 1) := by decide +kernel
theorem dX3_tally_66 : decode cX3_tally 66 = .ok (.dup2, 1) := by decide +kernel
theorem dX3_tally_67 : decode cX3_tally 67 = .ok (.iaload, 1) := by decide +kernel
theorem dX3_tally_68 : decode cX3_tally 68 = .ok (.iconst 1, 1) := by decide +kernel
theorem dX3_tally_69 : decode cX3_tally 69 = .ok (.iadd, 1) := by decide +kernel
theorem dX3_tally_70 : decode cX3_tally 70 = .ok (.iastore, 1) := by decide +kernel
theorem dX3_tally_71 : decode cX3_tally 71 = .ok (.aload_n 0, 1) := by decide +kernel
theorem dX3_tally_72 : decode cX3_tally 72 = .ok (.dup, 1) := by decide +kernel
theorem dX3_tally_73 : decode cX3_tally 73 = .ok (.getfield 34, 3) := by decide +kernel
theorem dX3_tally_76 : decode cX3_tally 76 = .ok (.iconst 1, 1) := by decide +kernel
theorem dX3_tally_77 : decode cX3_tally 77 = .ok (.iadd, 1) := by decide +kernel
theorem dX3_tally_78 : decode cX3_tally 78 = .ok (.putfield 34, 3) := by decide +kernel
theorem dX3_tally_81 : decode cX3_tally 81 = .ok (.iinc 3 1, 3) := by decide +kernel
theorem dX3_tally_84 : decode cX3_tally 84 = .ok (.goto (-56), 3) := by decide +kernel
theorem dX3_tally_87 : decode cX3_tally 87 = .ok (.return_, 1) := by decide +kernel
theorem dX3_like_0 : decode cX3_like 0 = .ok (.aload_n 0, 1) := by decide +kernel
theorem dX3_like_1 : decode cX3_like 1 = .ok (.getfield 21, 3) := by decide +kernel
theorem dX3_like_4 : decode cX3_like 4 = .ok (.iconst 5, 1) := by decide +kernel
theorem dX3_like_5 : decode cX3_like 5 = .ok (.iaload, 1) := by decide +kernel
theorem dX3_like_6 : decode cX3_like 6 = .ok (.aload_n 0, 1) := by decide +kernel
theorem dX3_like_7 : decode cX3_like 7 = .ok (.getfield 21, 3) := by decide +kernel
theorem dX3_like_10 : decode cX3_like 10 = .ok (.bipush 10, 2) := by decide +kernel
theorem dX3_like_12 : decode cX3_like 12 = .ok (.iaload, 1) := by decide +kernel
theorem dX3_like_13 : decode cX3_like 13 = .ok (.iadd, 1) := by decide +kernel
theorem dX3_like_14 : decode cX3_like 14 = .ok (.ireturn, 1) := by decide +kernel
theorem dX3_unlike_0 : decode cX3_unlike 0 = .ok (.aload_n 0, 1) := by decide +kernel
theorem dX3_unlike_1 : decode cX3_unlike 1 = .ok (.getfield 21, 3) := by decide +kernel
theorem dX3_unlike_4 : decode cX3_unlike 4 = .ok (.bipush 9, 2) := by decide +kernel
theorem dX3_unlike_6 : decode cX3_unlike 6 = .ok (.iaload, 1) := by decide +kernel
theorem dX3_unlike_7 : decode cX3_unlike 7 = .ok (.aload_n 0, 1) := by decide +kernel
theorem dX3_unlike_8 : decode cX3_unlike 8 = .ok (.getfield 21, 3) := by decide +kernel
theorem dX3_unlike_11 : decode cX3_unlike 11 = .ok (.bipush 6, 2) := by decide +kernel
theorem dX3_unlike_13 : decode cX3_unlike 13 = .ok (.iaload, 1) := by decide +kernel
theorem dX3_unlike_14 : decode cX3_unlike 14 = .ok (.iadd, 1) := by decide +kernel
theorem dX3_unlike_15 : decode cX3_unlike 15 = .ok (.ireturn, 1) := by decide +kernel
theorem dX3_sumSides_0 : decode cX3_sumSides 0 = .ok (.lconst 1, 1) := by decide +kernel
theorem dX3_sumSides_1 : decode cX3_sumSides 1 = .ok (.lstore_n 3, 1) := by decide +kernel
theorem dX3_sumSides_2 : decode cX3_sumSides 2 = .ok (.iconst 0, 1) := by decide +kernel
theorem dX3_sumSides_3 : decode cX3_sumSides 3 = .ok (.istore 5, 2) := by decide +kernel
theorem dX3_sumSides_5 : decode cX3_sumSides 5 = .ok (.iload 5, 2) := by decide +kernel
theorem dX3_sumSides_7 : decode cX3_sumSides 7 = .ok (.iconst 4, 1) := by decide +kernel
theorem dX3_sumSides_8 : decode cX3_sumSides 8 = .ok (.if_icmp .ge 71, 3) := by decide +kernel
theorem dX3_sumSides_11 : decode cX3_sumSides 11 = .ok (.aload_n 0, 1) := by decide +kernel
theorem dX3_sumSides_12 : decode cX3_sumSides 12 = .ok (.iload 5, 2) := by decide +kernel
theorem dX3_sumSides_14 : decode cX3_sumSides 14 = .ok (.iload_n 1, 1) := by decide +kernel
theorem dX3_sumSides_15 : decode cX3_sumSides 15 = .ok (.invokevirtual 37, 3) := by decide +kernel
theorem dX3_sumSides_18 : decode cX3_sumSides 18 = .ok (.aload_n 0, 1) := by decide +kernel
theorem dX3_sumSides_19 : decode cX3_sumSides 19 = .ok (.getfield 24, 3) := by decide +kernel
theorem dX3_sumSides_22 : decode cX3_sumSides 22 = .ok (.iload 5, 2) := by decide +kernel
theorem dX3_sumSides_24 : decode cX3_sumSides 24 = .ok (.aload_n 0, 1) := by decide +kernel
theorem dX3_sumSides_25 : decode cX3_sumSides 25 = .ok (.invokevirtual 41, 3) := by decide +kernel
theorem dX3_sumSides_28 : decode cX3_sumSides 28 = .ok (.aload_n 0, 1) := by decide +kernel
theorem dX3_sumSides_29 : decode cX3_sumSides 29 = .ok (.invokevirtual 45, 3) := by decide +kernel
theorem dX3_sumSides_32 : decode cX3_sumSides 32 = .ok (.isub, 1) := by decide +kernel
theorem dX3_sumSides_33 : decode cX3_sumSides 33 = .ok (.iastore, 1) := by decide +kernel
theorem dX3_sumSides_34 : decode cX3_sumSides 34 = .ok (.aload_n 0, 1) := by decide +kernel
theorem dX3_sumSides_35 : decode cX3_sumSides 35 = .ok (.getfield 27, 3) := by decide +kernel
theorem dX3_sumSides_38 : decode cX3_sumSides 38 = .ok (.iload 5, 2) := by decide +kernel
theorem dX3_sumSides_40 : decode cX3_sumSides 40 = .ok (.aload_n 0, 1) := by decide +kernel
theorem dX3_sumSides_41 : decode cX3_sumSides 41 = .ok (.invokevirtual 41, 3) := by decide +kernel
theorem dX3_sumSides_44 : decode cX3_sumSides 44 = .ok (.aload_n 0, 1) := by decide +kernel
theorem dX3_sumSides_45 : decode cX3_sumSides 45 = .ok (.invokevirtual 45, 3) := by decide +kernel
theorem dX3_sumSides_48 : decode cX3_sumSides 48 = .ok (.iadd, 1) := by decide +kernel
theorem dX3_sumSides_49 : decode cX3_sumSides 49 = .ok (.iastore, 1) := by decide +kernel
theorem dX3_sumSides_50 : decode cX3_sumSides 50 = .ok (.aload_n 0, 1) := by decide +kernel
theorem dX3_sumSides_51 : decode cX3_sumSides 51 = .ok (.getfield 27, 3) := by decide +kernel
theorem dX3_sumSides_54 : decode cX3_sumSides 54 = .ok (.iload 5, 2) := by decide +kernel
theorem dX3_sumSides_56 : decode cX3_sumSides 56 = .ok (.iaload, 1) := by decide +kernel
theorem dX3_sumSides_57 : decode cX3_sumSides 57 = .ok (.ifCond .gt 5, 3) := by decide +kernel
theorem dX3_sumSides_60 : decode cX3_sumSides 60 = .ok (.iconst 0, 1) := by decide +kernel
theorem dX3_sumSides_61 : decode cX3_sumSides 61 = .ok (.ireturn, 1) := by decide +kernel
theorem dX3_sumSides_62 : decode cX3_sumSides 62 = .ok (.lload_n 3, 1) := by decide +kernel
theorem dX3_sumSides_63 : decode cX3_sumSides 63 = .ok (.aload_n 0, 1) := by decide +kernel
theorem dX3_sumSides_64 : decode cX3_sumSides 64 = .ok (.getfield 27, 3) := by decide +kernel
theorem dX3_sumSides_67 : decode cX3_sumSides 67 = .ok (.iload 5, 2) := by decide +kernel
theorem dX3_sumSides_69 : decode cX3_sumSides 69 = .ok (.iaload, 1) := by decide +kernel
theorem dX3_sumSides_70 : decode cX3_sumSides 70 = .ok (.i2l, 1) := by decide +kernel
theorem dX3_sumSides_71 : decode cX3_sumSides 71 = .ok (.lmul, 1) := by decide +kernel
theorem dX3_sumSides_72 : decode cX3_sumSides 72 = .ok (.lstore_n 3, 1) := by decide +kernel
theorem dX3_sumSides_73 : decode cX3_sumSides 73 = .ok (.iinc 5 1, 3) := by decide +kernel
theorem dX3_sumSides_76 : decode cX3_sumSides 76 = .ok (.goto (-71), 3) := by decide +kernel
theorem dX3_sumSides_79 : decode cX3_sumSides 79 = .ok (.ldc2_w 48, 3) := by decide +kernel
theorem dX3_sumSides_82 : decode cX3_sumSides 82 = .ok (.lload_n 3, 1) := by decide +kernel
theorem dX3_sumSides_83 : decode cX3_sumSides 83 = .ok (.lmul, 1) := by decide +kernel
theorem dX3_sumSides_84 : decode cX3_sumSides 84 = .ok (.lstore 5, 2) := by decide +kernel
theorem dX3_sumSides_86 : decode cX3_sumSides 86 = .ok (.iconst 0, 1) := by decide +kernel
theorem dX3_sumSides_87 : decode cX3_sumSides 87 = .ok (.istore 7, 2) := by decide +kernel
theorem dX3_sumSides_89 : decode cX3_sumSides 89 = .ok (.iload 7, 2) := by decide +kernel
theorem dX3_sumSides_91 : decode cX3_sumSides 91 = .ok (.bipush 16, 2) := by decide +kernel
theorem dX3_sumSides_93 : decode cX3_sumSides 93 = .ok (.if_icmp .ge 34, 3) := by decide +kernel
theorem dX3_sumSides_96 : decode cX3_sumSides 96 = .ok (.iload 7, 2) := by decide +kernel
theorem dX3_sumSides_98 : decode cX3_sumSides 98 = .ok (.invokestatic 50, 3) := by decide +kernel
theorem dX3_sumSides_101 : decode cX3_sumSides 101 = .ok (.iconst 1, 1) := by decide +kernel
theorem dX3_sumSides_102 : decode cX3_sumSides 102 = .ok (.iand, 1) := by decide +kernel
theorem dX3_sumSides_103 : decode cX3_sumSides 103 = .ok (.iconst 1, 1) := by decide +kernel
theorem dX3_sumSides_104 : decode cX3_sumSides 104 = .ok (.if_icmp .ne 17, 3) := by decide +kernel
theorem dX3_sumSides_107 : decode cX3_sumSides 107 = .ok (.lload 5, 2) := by decide +kernel
theorem dX3_sumSides_109 : decode cX3_sumSides 109 = .ok (.aload_n 0, 1) := by decide +kernel
theorem dX3_sumSides_110 : decode cX3_sumSides 110 = .ok (.iload 7, 2) := by decide +kernel
theorem dX3_sumSides_112 : decode cX3_sumSides 112 = .ok (.lload_n 3, 1) := by decide +kernel
theorem dX3_sumSides_113 : decode cX3_sumSides 113 = .ok (.invokevirtual 56, 3) := by decide +kernel
theorem dX3_sumSides_116 : decode cX3_sumSides 116 = .ok (.invokestatic 60, 3) := by decide +kernel
theorem dX3_sumSides_119 : decode cX3_sumSides 119 = .ok (.lstore 5, 2) := by decide +kernel
theorem dX3_sumSides_121 : decode cX3_sumSides 121 = .ok (.iinc 7 1, 3) := by decide +kernel
theorem dX3_sumSides_124 : decode cX3_sumSides 124 = .ok (.goto (-35), 3) := by decide +kernel
theorem dX3_sumSides_127 : decode cX3_sumSides 127 = .ok (.aload_n 2, 1) := by decide +kernel
theorem dX3_sumSides_128 : decode cX3_sumSides 128 = .ok (.lload 5, 2) := by decide +kernel
theorem dX3_sumSides_130 : decode cX3_sumSides 130 = .ok (.lconst 0, 1) := by decide +kernel
theorem dX3_sumSides_131 : decode cX3_sumSides 131 = .ok (.lload_n 3, 1) := by decide +kernel
theorem dX3_sumSides_132 : decode cX3_sumSides 132 = .ok (.invokevirtual 66, 3) := by decide +kernel
theorem dX3_sumSides_135 : decode cX3_sumSides 135 = .ok (.iconst 1, 1) := by decide +kernel
theorem dX3_sumSides_136 : decode cX3_sumSides 136 = .ok (.ireturn, 1) := by decide +kernel
theorem dX3_signedSum_0 : decode cX3_signedSum 0 = .ok (.lconst 0, 1) := by decide +kernel
theorem dX3_signedSum_1 : decode cX3_signedSum 1 = .ok (.lstore 4, 2) := by decide +kernel
theorem dX3_signedSum_3 : decode cX3_signedSum 3 = .ok (.iconst 0, 1) := by decide +kernel
theorem dX3_signedSum_4 : decode cX3_signedSum 4 = .ok (.istore 6, 2) := by decide +kernel
theorem dX3_signedSum_6 : decode cX3_signedSum 6 = .ok (.iload 6, 2) := by decide +kernel
theorem dX3_signedSum_8 : decode cX3_signedSum 8 = .ok (.iconst 4, 1) := by decide +kernel
theorem dX3_signedSum_9 : decode cX3_signedSum 9 = .ok (.if_icmp .ge 64, 3) := by decide +kernel
theorem dX3_signedSum_12 : decode cX3_signedSum 12 = .ok (.aload_n 0, 1) := by decide +kernel
theorem dX3_signedSum_13 : decode cX3_signedSum 13 = .ok (.getfield 27, 3) := by decide +kernel
theorem dX3_signedSum_16 : decode cX3_signedSum 16 = .ok (.iload 6, 2) := by decide +kernel
theorem dX3_signedSum_18 : decode cX3_signedSum 18 = .ok (.iaload, 1) := by decide +kernel
theorem dX3_signedSum_19 : decode cX3_signedSum 19 = .ok (.i2l, 1) := by decide +kernel
theorem dX3_signedSum_20 : decode cX3_signedSum 20 = .ok (.lstore 7, 2) := by decide +kernel
theorem dX3_signedSum_22 : decode cX3_signedSum 22 = .ok (.lload 7, 2) := by decide +kernel
theorem dX3_signedSum_24 : decode cX3_signedSum 24 = .ok (.lconst 0, 1) := by decide +kernel
theorem dX3_signedSum_25 : decode cX3_signedSum 25 = .ok (.lcmp, 1) := by decide +kernel
theorem dX3_signedSum_26 : decode cX3_signedSum 26 = .ok (.ifCond .le 41, 3) := by decide +kernel
theorem dX3_signedSum_29 : decode cX3_signedSum 29 = .ok (.aload_n 0, 1) := by decide +kernel
theorem dX3_signedSum_30 : decode cX3_signedSum 30 = .ok (.getfield 24, 3) := by decide +kernel
theorem dX3_signedSum_33 : decode cX3_signedSum 33 = .ok (.iload 6, 2) := by decide +kernel
theorem dX3_signedSum_35 : decode cX3_signedSum 35 = .ok (.iaload, 1) := by decide +kernel
theorem dX3_signedSum_36 : decode cX3_signedSum 36 = .ok (.i2l, 1) := by decide +kernel
theorem dX3_signedSum_37 : decode cX3_signedSum 37 = .ok (.lload_n 2, 1) := by decide +kernel
theorem dX3_signedSum_38 : decode cX3_signedSum 38 = .ok (.lload 7, 2) := by decide +kernel
theorem dX3_signedSum_40 : decode cX3_signedSum 40 = .ok (.ldiv, 1) := by decide +kernel
theorem dX3_signedSum_41 : decode cX3_signedSum 41 = .ok (.lmul, 1) := by decide +kernel
theorem dX3_signedSum_42 : decode cX3_signedSum 42 = .ok (.lstore 9, 2) := by decide +kernel
theorem dX3_signedSum_44 : decode cX3_signedSum 44 = .ok (.lload 4, 2) := by decide +kernel
theorem dX3_signedSum_46 : decode cX3_signedSum 46 = .ok (.iload_n 1, 1) := by decide +kernel
theorem dX3_signedSum_47 : decode cX3_signedSum 47 = .ok (.iload 6, 2) := by decide +kernel
theorem dX3_signedSum_49 : decode cX3_signedSum 49 = .ok (.ishr, 1) := by decide +kernel
theorem dX3_signedSum_50 : decode cX3_signedSum 50 = .ok (.iconst 1, 1) := by decide +kernel
theorem dX3_signedSum_51 : decode cX3_signedSum 51 = .ok (.iand, 1) := by decide +kernel
theorem dX3_signedSum_52 : decode cX3_signedSum 52 = .ok (.iconst 1, 1) := by decide +kernel
theorem dX3_signedSum_53 : decode cX3_signedSum 53 = .ok (.if_icmp .ne 9, 3) := by decide +kernel
theorem dX3_signedSum_56 : decode cX3_signedSum 56 = .ok (.lload 9, 2) := by decide +kernel
theorem dX3_signedSum_58 : decode cX3_signedSum 58 = .ok (.lneg, 1) := by decide +kernel
theorem dX3_signedSum_59 : decode cX3_signedSum 59 = .ok (.goto 5, 3) := by decide +kernel
theorem dX3_signedSum_62 : decode cX3_signedSum 62 = .ok (.lload 9, 2) := by decide +kernel
theorem dX3_signedSum_64 : decode cX3_signedSum 64 = .ok (.ladd, 1) := by decide +kernel
theorem dX3_signedSum_65 : decode cX3_signedSum 65 = .ok (.lstore 4, 2) := by decide +kernel
theorem dX3_signedSum_67 : decode cX3_signedSum 67 = .ok (.iinc 6 1, 3) := by decide +kernel
theorem dX3_signedSum_70 : decode cX3_signedSum 70 = .ok (.goto (-64), 3) := by decide +kernel
theorem dX3_signedSum_73 : decode cX3_signedSum 73 = .ok (.lload 4, 2) := by decide +kernel
theorem dX3_signedSum_75 : decode cX3_signedSum 75 = .ok (.lreturn, 1) := by decide +kernel
theorem dX4_init_0 : decode cX4_init 0 = .ok (.aload_n 0, 1) := by decide +kernel
theorem dX4_init_1 : decode cX4_init 1 = .ok (.invokespecial 3, 3) := by decide +kernel
theorem dX4_init_4 : decode cX4_init 4 = .ok (.aload_n 0, 1) := by decide +kernel
theorem dX4_init_5 : decode cX4_init 5 = .ok (.bipush 17, 2) := by decide +kernel
theorem dX4_init_7 : decode cX4_init 7 = .ok (.newarray .int, 2) := by decide +kernel
theorem dX4_init_9 : decode cX4_init 9 = .ok (.putfield 9, 3) := by decide +kernel
theorem dX4_init_12 : decode cX4_init 12 = .ok (.aload_n 0, 1) := by decide +kernel
theorem dX4_init_13 : decode cX4_init 13 = .ok (.bipush 34, 2) := by decide +kernel
theorem dX4_init_15 : decode cX4_init 15 = .ok (.newarray .int, 2) := by decide +kernel
theorem dX4_init_17 : decode cX4_init 17 = .ok (.putfield 15, 3) := by decide +kernel
theorem dX4_init_20 : decode cX4_init 20 = .ok (.aload_n 0, 1) := by decide +kernel
theorem dX4_init_21 : decode cX4_init 21 = .ok (.bipush 34, 2) := by decide +kernel
theorem dX4_init_23 : decode cX4_init 23 = .ok (.newarray .int, 2) := by decide +kernel
theorem dX4_init_25 : decode cX4_init 25 = .ok (.putfield 18, 3) := by decide +kernel
theorem dX4_init_28 : decode cX4_init 28 = .ok (.aload_n 0, 1) := by decide +kernel
theorem dX4_init_29 : decode cX4_init 29 = .ok (.bipush 34, 2) := by decide +kernel
theorem dX4_init_31 : decode cX4_init 31 = .ok (.newarray .int, 2) := by decide +kernel
theorem dX4_init_33 : decode cX4_init 33 = .ok (.putfield 21, 3) := by decide +kernel
theorem dX4_init_36 : decode cX4_init 36 = .ok (.aload_n 0, 1) := by decide +kernel
theorem dX4_init_37 : decode cX4_init 37 = .ok (.bipush 34, 2) := by decide +kernel
theorem dX4_init_39 : decode cX4_init 39 = .ok (.newarray .int, 2) := by decide +kernel
theorem dX4_init_41 : decode cX4_init 41 = .ok (.putfield 24, 3) := by decide +kernel
theorem dX4_init_44 : decode cX4_init 44 = .ok (.return_, 1) := by decide +kernel
theorem dX4_aim_0 : decode cX4_aim 0 = .ok (.iconst 0, 1) := by decide +kernel
theorem dX4_aim_1 : decode cX4_aim 1 = .ok (.istore_n 2, 1) := by decide +kernel
theorem dX4_aim_2 : decode cX4_aim 2 = .ok (.iload_n 2, 1) := by decide +kernel
theorem dX4_aim_3 : decode cX4_aim 3 = .ok (.bipush 17, 2) := by decide +kernel
theorem dX4_aim_5 : decode cX4_aim 5 = .ok (.if_icmp .ge 36, 3) := by decide +kernel
theorem dX4_aim_8 : decode cX4_aim 8 = .ok (.aload_n 0, 1) := by decide +kernel
theorem dX4_aim_9 : decode cX4_aim 9 = .ok (.getfield 9, 3) := by decide +kernel
theorem dX4_aim_12 : decode cX4_aim 12 = .ok (.iload_n 2, 1) := by decide +kernel
theorem dX4_aim_13 : decode cX4_aim 13 = .ok (.iconst 0, 1) := by decide +kernel
theorem dX4_aim_14 : decode cX4_aim 14 = .ok (.iastore, 1) := by decide +kernel
theorem dX4_aim_15 : decode cX4_aim 15 = .ok (.aload_n 0, 1) := by decide +kernel
theorem dX4_aim_16 : decode cX4_aim 16 = .ok (.iload_n 2, 1) := by decide +kernel
theorem dX4_aim_17 : decode cX4_aim 17 = .ok (.iload_n 2, 1) := by decide +kernel
theorem dX4_aim_18 : decode cX4_aim 18 = .ok (.iload_n 2, 1) := by decide +kernel
theorem dX4_aim_19 : decode cX4_aim 19 = .ok (.ifCond .ne 7, 3) := by decide +kernel
theorem dX4_aim_22 : decode cX4_aim 22 = .ok (.iconst 1, 1) := by decide +kernel
theorem dX4_aim_23 : decode cX4_aim 23 = .ok (.goto 7, 3) := by decide +kernel
theorem dX4_aim_26 : decode cX4_aim 26 = .ok (.aload_n 1, 1) := by decide +kernel
theorem dX4_aim_27 : decode cX4_aim 27 = .ok (.invokevirtual 27, 3) := by decide +kernel
theorem dX4_aim_30 : decode cX4_aim 30 = .ok (.iconst 0, 1) := by decide +kernel
theorem dX4_aim_31 : decode cX4_aim 31 = .ok (.iconst 0, 1) := by decide +kernel
theorem dX4_aim_32 : decode cX4_aim 32 = .ok (.invokevirtual 33, 3) := by decide +kernel
theorem dX4_aim_35 : decode cX4_aim 35 = .ok (.iinc 2 1, 3) := by decide +kernel
theorem dX4_aim_38 : decode cX4_aim 38 = .ok (.goto (-36), 3) := by decide +kernel
theorem dX4_aim_41 : decode cX4_aim 41 = .ok (.iconst 0, 1) := by decide +kernel
theorem dX4_aim_42 : decode cX4_aim 42 = .ok (.istore_n 2, 1) := by decide +kernel
theorem dX4_aim_43 : decode cX4_aim 43 = .ok (.iload_n 2, 1) := by decide +kernel
theorem dX4_aim_44 : decode cX4_aim 44 = .ok (.iconst 2, 1) := by decide +kernel
theorem dX4_aim_45 : decode cX4_aim 45 = .ok (.if_icmp .ge 180, 3) := by decide +kernel
theorem dX4_aim_48 : decode cX4_aim 48 = .ok (.aload_n 1, 1) := by decide +kernel
theorem dX4_aim_49 : decode cX4_aim 49 = .ok (.getfield 37, 3) := by decide +kernel
theorem dX4_aim_52 : decode cX4_aim 52 = .ok (.iload_n 2, 1) := by decide +kernel
theorem dX4_aim_53 : decode cX4_aim 53 = .ok (.invokestatic 41, 3) := by decide +kernel
theorem dX4_aim_56 : decode cX4_aim 56 = .ok (.istore_n 3, 1) := by decide +kernel
theorem dX4_aim_57 : decode cX4_aim 57 = .ok (.aload_n 1, 1) := by decide +kernel
theorem dX4_aim_58 : decode cX4_aim 58 = .ok (.getfield 45, 3) := by decide +kernel
theorem dX4_aim_61 : decode cX4_aim 61 = .ok (.iload_n 2, 1) := by decide +kernel
theorem dX4_aim_62 : decode cX4_aim 62 = .ok (.invokestatic 41, 3) := by decide +kernel
theorem dX4_aim_65 : decode cX4_aim 65 = .ok (.istore 4, 2) := by decide +kernel
theorem dX4_aim_67 : decode cX4_aim 67 = .ok (.aload_n 1, 1) := by decide +kernel
theorem dX4_aim_68 : decode cX4_aim 68 = .ok (.getfield 48, 3) := by decide +kernel
theorem dX4_aim_71 : decode cX4_aim 71 = .ok (.tableswitch 148 0 4 #[33, 54, 76, 109, 128], 33) := by decide +kernel
theorem dX4_aim_104 : decode cX4_aim 104 = .ok (.aload_n 0, 1) := by decide +kernel
theorem dX4_aim_105 : decode cX4_aim 105 = .ok (.aload_n 1, 1) := by decide +kernel
theorem dX4_aim_106 : decode cX4_aim 106 = .ok (.iload_n 3, 1) := by decide +kernel
theorem dX4_aim_107 : decode cX4_aim 107 = .ok (.iload 4, 2) := by decide +kernel
theorem dX4_aim_109 : decode cX4_aim 109 = .ok (.iconst 1, 1) := by decide +kernel
theorem dX4_aim_110 : decode cX4_aim 110 = .ok (.invokevirtual 51, 3) := by decide +kernel
theorem dX4_aim_113 : decode cX4_aim 113 = .ok (.aload_n 0, 1) := by decide +kernel
theorem dX4_aim_114 : decode cX4_aim 114 = .ok (.aload_n 1, 1) := by decide +kernel
theorem dX4_aim_115 : decode cX4_aim 115 = .ok (.iload 4, 2) := by decide +kernel
theorem dX4_aim_117 : decode cX4_aim 117 = .ok (.iload_n 3, 1) := by decide +kernel
theorem dX4_aim_118 : decode cX4_aim 118 = .ok (.iconst 1, 1) := by decide +kernel
theorem dX4_aim_119 : decode cX4_aim 119 = .ok (.invokevirtual 51, 3) := by decide +kernel
theorem dX4_aim_122 : decode cX4_aim 122 = .ok (.goto 97, 3) := by decide +kernel
theorem dX4_aim_125 : decode cX4_aim 125 = .ok (.aload_n 0, 1) := by decide +kernel
theorem dX4_aim_126 : decode cX4_aim 126 = .ok (.aload_n 1, 1) := by decide +kernel
theorem dX4_aim_127 : decode cX4_aim 127 = .ok (.iload_n 3, 1) := by decide +kernel
theorem dX4_aim_128 : decode cX4_aim 128 = .ok (.aload_n 1, 1) := by decide +kernel
theorem dX4_aim_129 : decode cX4_aim 129 = .ok (.getfield 37, 3) := by decide +kernel
theorem dX4_aim_132 : decode cX4_aim 132 = .ok (.iconst 1, 1) := by decide +kernel
theorem dX4_aim_133 : decode cX4_aim 133 = .ok (.iload_n 2, 1) := by decide +kernel
theorem dX4_aim_134 : decode cX4_aim 134 = .ok (.isub, 1) := by decide +kernel
theorem dX4_aim_135 : decode cX4_aim 135 = .ok (.invokestatic 41, 3) := by decide +kernel
theorem dX4_aim_138 : decode cX4_aim 138 = .ok (.iconst 2, 1) := by decide +kernel
theorem dX4_aim_139 : decode cX4_aim 139 = .ok (.iload_n 2, 1) := by decide +kernel
theorem dX4_aim_140 : decode cX4_aim 140 = .ok (.imul, 1) := by decide +kernel
theorem dX4_aim_141 : decode cX4_aim 141 = .ok (.invokevirtual 51, 3) := by decide +kernel
theorem dX4_aim_144 : decode cX4_aim 144 = .ok (.goto 75, 3) := by decide +kernel
theorem dX4_aim_147 : decode cX4_aim 147 = .ok (.aload_n 0, 1) := by decide +kernel
theorem dX4_aim_148 : decode cX4_aim 148 = .ok (.iload_n 3, 1) := by decide +kernel
theorem dX4_aim_149 : decode cX4_aim 149 = .ok (.iload_n 3, 1) := by decide +kernel
theorem dX4_aim_150 : decode cX4_aim 150 = .ok (.aload_n 1, 1) := by decide +kernel
theorem dX4_aim_151 : decode cX4_aim 151 = .ok (.getfield 55, 3) := by decide +kernel
theorem dX4_aim_154 : decode cX4_aim 154 = .ok (.iconst (-1), 1) := by decide +kernel
theorem dX4_aim_155 : decode cX4_aim 155 = .ok (.if_icmp .eq 11, 3) := by decide +kernel
theorem dX4_aim_158 : decode cX4_aim 158 = .ok (.aload_n 1, 1) := by decide +kernel
theorem dX4_aim_159 : decode cX4_aim 159 = .ok (.getfield 55, 3) := by decide +kernel
theorem dX4_aim_162 : decode cX4_aim 162 = .ok (.iload_n 2, 1) := by decide +kernel
theorem dX4_aim_163 : decode cX4_aim 163 = .ok (.if_icmp .ne 10, 3) := by decide +kernel
theorem dX4_aim_166 : decode cX4_aim 166 = .ok (.aload_n 1, 1) := by decide +kernel
theorem dX4_aim_167 : decode cX4_aim 167 = .ok (.getfield 58, 3) := by decide +kernel
theorem dX4_aim_170 : decode cX4_aim 170 = .ok (.goto 4, 3) := by decide +kernel
theorem dX4_aim_173 : decode cX4_aim 173 = .ok (.iconst 0, 1) := by decide +kernel
theorem dX4_aim_174 : decode cX4_aim 174 = .ok (.invokevirtual 61, 3) := by decide +kernel
theorem dX4_aim_177 : decode cX4_aim 177 = .ok (.goto 42, 3) := by decide +kernel
theorem dX4_aim_180 : decode cX4_aim 180 = .ok (.aload_n 0, 1) := by decide +kernel
theorem dX4_aim_181 : decode cX4_aim 181 = .ok (.iload_n 3, 1) := by decide +kernel
theorem dX4_aim_182 : decode cX4_aim 182 = .ok (.iload 4, 2) := by decide +kernel
theorem dX4_aim_184 : decode cX4_aim 184 = .ok (.iconst 0, 1) := by decide +kernel
theorem dX4_aim_185 : decode cX4_aim 185 = .ok (.invokevirtual 61, 3) := by decide +kernel
theorem dX4_aim_188 : decode cX4_aim 188 = .ok (.aload_n 0, 1) := by decide +kernel
theorem dX4_aim_189 : decode cX4_aim 189 = .ok (.iload 4, 2) := by decide +kernel
theorem dX4_aim_191 : decode cX4_aim 191 = .ok (.iload_n 3, 1) := by decide +kernel
theorem dX4_aim_192 : decode cX4_aim 192 = .ok (.iconst 0, 1) := by decide +kernel
theorem dX4_aim_193 : decode cX4_aim 193 = .ok (.invokevirtual 61, 3) := by decide +kernel
theorem dX4_aim_196 : decode cX4_aim 196 = .ok (.goto 23, 3) := by decide +kernel
theorem dX4_aim_199 : decode cX4_aim 199 = .ok (.aload_n 0, 1) := by decide +kernel
theorem dX4_aim_200 : decode cX4_aim 200 = .ok (.aload_n 1, 1) := by decide +kernel
theorem dX4_aim_201 : decode cX4_aim 201 = .ok (.iload_n 3, 1) := by decide +kernel
theorem dX4_aim_202 : decode cX4_aim 202 = .ok (.iconst 5, 1) := by decide +kernel
theorem dX4_aim_203 : decode cX4_aim 203 = .ok (.aload_n 1, 1) := by decide +kernel
theorem dX4_aim_204 : decode cX4_aim 204 = .ok (.getfield 65, 3) := by decide +kernel
theorem dX4_aim_207 : decode cX4_aim 207 = .ok (.iadd, 1) := by decide +kernel
theorem dX4_aim_208 : decode cX4_aim 208 = .ok (.iload_n 2, 1) := by decide +kernel
theorem dX4_aim_209 : decode cX4_aim 209 = .ok (.invokestatic 41, 3) := by decide +kernel
theorem dX4_aim_212 : decode cX4_aim 212 = .ok (.iconst 1, 1) := by decide +kernel
theorem dX4_aim_213 : decode cX4_aim 213 = .ok (.invokevirtual 51, 3) := by decide +kernel
theorem dX4_aim_216 : decode cX4_aim 216 = .ok (.goto 3, 3) := by decide +kernel
theorem dX4_aim_219 : decode cX4_aim 219 = .ok (.iinc 2 1, 3) := by decide +kernel
theorem dX4_aim_222 : decode cX4_aim 222 = .ok (.goto (-179), 3) := by decide +kernel
theorem dX4_aim_225 : decode cX4_aim 225 = .ok (.return_, 1) := by decide +kernel
theorem dX4_seatOf_0 : decode cX4_seatOf 0 = .ok (.iconst 2, 1) := by decide +kernel
theorem dX4_seatOf_1 : decode cX4_seatOf 1 = .ok (.iload_n 0, 1) := by decide +kernel
theorem dX4_seatOf_2 : decode cX4_seatOf 2 = .ok (.imul, 1) := by decide +kernel
theorem dX4_seatOf_3 : decode cX4_seatOf 3 = .ok (.iload_n 1, 1) := by decide +kernel
theorem dX4_seatOf_4 : decode cX4_seatOf 4 = .ok (.iadd, 1) := by decide +kernel
theorem dX4_seatOf_5 : decode cX4_seatOf 5 = .ok (.iconst 1, 1) := by decide +kernel
theorem dX4_seatOf_6 : decode cX4_seatOf 6 = .ok (.iadd, 1) := by decide +kernel
theorem dX4_seatOf_7 : decode cX4_seatOf 7 = .ok (.ireturn, 1) := by decide +kernel
theorem dX4_fork_0 : decode cX4_fork 0 = .ok (.aload_n 0, 1) := by decide +kernel
theorem dX4_fork_1 : decode cX4_fork 1 = .ok (.getfield 9, 3) := by decide +kernel
theorem dX4_fork_4 : decode cX4_fork 4 = .ok (.iload_n 2, 1) := by decide +kernel
theorem dX4_fork_5 : decode cX4_fork 5 = .ok (.iconst 0, 1) := by decide +kernel
theorem dX4_fork_6 : decode cX4_fork 6 = .ok (.iastore, 1) := by decide +kernel
theorem dX4_fork_7 : decode cX4_fork 7 = .ok (.aload_n 0, 1) := by decide +kernel
theorem dX4_fork_8 : decode cX4_fork 8 = .ok (.iload_n 2, 1) := by decide +kernel
theorem dX4_fork_9 : decode cX4_fork 9 = .ok (.iload_n 2, 1) := by decide +kernel
theorem dX4_fork_10 : decode cX4_fork 10 = .ok (.aload_n 1, 1) := by decide +kernel
theorem dX4_fork_11 : decode cX4_fork 11 = .ok (.invokevirtual 68, 3) := by decide +kernel
theorem dX4_fork_14 : decode cX4_fork 14 = .ok (.aload_n 1, 1) := by decide +kernel
theorem dX4_fork_15 : decode cX4_fork 15 = .ok (.invokevirtual 71, 3) := by decide +kernel
theorem dX4_fork_18 : decode cX4_fork 18 = .ok (.iconst 0, 1) := by decide +kernel
theorem dX4_fork_19 : decode cX4_fork 19 = .ok (.invokevirtual 33, 3) := by decide +kernel
theorem dX4_fork_22 : decode cX4_fork 22 = .ok (.aload_n 0, 1) := by decide +kernel
theorem dX4_fork_23 : decode cX4_fork 23 = .ok (.iload_n 2, 1) := by decide +kernel
theorem dX4_fork_24 : decode cX4_fork 24 = .ok (.iload_n 3, 1) := by decide +kernel
theorem dX4_fork_25 : decode cX4_fork 25 = .ok (.aload_n 1, 1) := by decide +kernel
theorem dX4_fork_26 : decode cX4_fork 26 = .ok (.invokevirtual 73, 3) := by decide +kernel
theorem dX4_fork_29 : decode cX4_fork 29 = .ok (.aload_n 1, 1) := by decide +kernel
theorem dX4_fork_30 : decode cX4_fork 30 = .ok (.invokevirtual 71, 3) := by decide +kernel
theorem dX4_fork_33 : decode cX4_fork 33 = .ok (.iload 4, 2) := by decide +kernel
theorem dX4_fork_35 : decode cX4_fork 35 = .ok (.invokevirtual 33, 3) := by decide +kernel
theorem dX4_fork_38 : decode cX4_fork 38 = .ok (.return_, 1) := by decide +kernel
theorem dX4_bend_0 : decode cX4_bend 0 = .ok (.aload_n 0, 1) := by decide +kernel
theorem dX4_bend_1 : decode cX4_bend 1 = .ok (.getfield 9, 3) := by decide +kernel
theorem dX4_bend_4 : decode cX4_bend 4 = .ok (.iload_n 1, 1) := by decide +kernel
theorem dX4_bend_5 : decode cX4_bend 5 = .ok (.iconst 0, 1) := by decide +kernel
theorem dX4_bend_6 : decode cX4_bend 6 = .ok (.iastore, 1) := by decide +kernel
theorem dX4_bend_7 : decode cX4_bend 7 = .ok (.aload_n 0, 1) := by decide +kernel
theorem dX4_bend_8 : decode cX4_bend 8 = .ok (.iload_n 1, 1) := by decide +kernel
theorem dX4_bend_9 : decode cX4_bend 9 = .ok (.iload_n 2, 1) := by decide +kernel
theorem dX4_bend_10 : decode cX4_bend 10 = .ok (.iconst 1, 1) := by decide +kernel
theorem dX4_bend_11 : decode cX4_bend 11 = .ok (.iconst 0, 1) := by decide +kernel
theorem dX4_bend_12 : decode cX4_bend 12 = .ok (.iload_n 3, 1) := by decide +kernel
theorem dX4_bend_13 : decode cX4_bend 13 = .ok (.invokevirtual 33, 3) := by decide +kernel
theorem dX4_bend_16 : decode cX4_bend 16 = .ok (.return_, 1) := by decide +kernel
theorem dX4_lead_0 : decode cX4_lead 0 = .ok (.iconst 2, 1) := by decide +kernel
theorem dX4_lead_1 : decode cX4_lead 1 = .ok (.iload_n 1, 1) := by decide +kernel
theorem dX4_lead_2 : decode cX4_lead 2 = .ok (.imul, 1) := by decide +kernel
theorem dX4_lead_3 : decode cX4_lead 3 = .ok (.aload_n 0, 1) := by decide +kernel
theorem dX4_lead_4 : decode cX4_lead 4 = .ok (.getfield 9, 3) := by decide +kernel
theorem dX4_lead_7 : decode cX4_lead 7 = .ok (.iload_n 1, 1) := by decide +kernel
theorem dX4_lead_8 : decode cX4_lead 8 = .ok (.iaload, 1) := by decide +kernel
theorem dX4_lead_9 : decode cX4_lead 9 = .ok (.iadd, 1) := by decide +kernel
theorem dX4_lead_10 : decode cX4_lead 10 = .ok (.istore 6, 2) := by decide +kernel
theorem dX4_lead_12 : decode cX4_lead 12 = .ok (.aload_n 0, 1) := by decide +kernel
theorem dX4_lead_13 : decode cX4_lead 13 = .ok (.getfield 9, 3) := by decide +kernel
theorem dX4_lead_16 : decode cX4_lead 16 = .ok (.iload_n 1, 1) := by decide +kernel
theorem dX4_lead_17 : decode cX4_lead 17 = .ok (.dup2, 1) := by decide +kernel
theorem dX4_lead_18 : decode cX4_lead 18 = .ok (.iaload, 1) := by decide +kernel
theorem dX4_lead_19 : decode cX4_lead 19 = .ok (.iconst 1, 1) := by decide +kernel
theorem dX4_lead_20 : decode cX4_lead 20 = .ok (.iadd, 1) := by decide +kernel
theorem dX4_lead_21 : decode cX4_lead 21 = .ok (.iastore, 1) := by decide +kernel
theorem dX4_lead_22 : decode cX4_lead 22 = .ok (.aload_n 0, 1) := by decide +kernel
theorem dX4_lead_23 : decode cX4_lead 23 = .ok (.getfield 15, 3) := by decide +kernel
theorem dX4_lead_26 : decode cX4_lead 26 = .ok (.iload 6, 2) := by decide +kernel
theorem dX4_lead_28 : decode cX4_lead 28 = .ok (.iload_n 2, 1) := by decide +kernel
theorem dX4_lead_29 : decode cX4_lead 29 = .ok (.iastore, 1) := by decide +kernel
theorem dX4_lead_30 : decode cX4_lead 30 = .ok (.aload_n 0, 1) := by decide +kernel
theorem dX4_lead_31 : decode cX4_lead 31 = .ok (.getfield 18, 3) := by decide +kernel
theorem dX4_lead_34 : decode cX4_lead 34 = .ok (.iload 6, 2) := by decide +kernel
theorem dX4_lead_36 : decode cX4_lead 36 = .ok (.iload_n 3, 1) := by decide +kernel
theorem dX4_lead_37 : decode cX4_lead 37 = .ok (.iastore, 1) := by decide +kernel
theorem dX4_lead_38 : decode cX4_lead 38 = .ok (.aload_n 0, 1) := by decide +kernel
theorem dX4_lead_39 : decode cX4_lead 39 = .ok (.getfield 21, 3) := by decide +kernel
theorem dX4_lead_42 : decode cX4_lead 42 = .ok (.iload 6, 2) := by decide +kernel
theorem dX4_lead_44 : decode cX4_lead 44 = .ok (.iload 4, 2) := by decide +kernel
theorem dX4_lead_46 : decode cX4_lead 46 = .ok (.iastore, 1) := by decide +kernel
theorem dX4_lead_47 : decode cX4_lead 47 = .ok (.aload_n 0, 1) := by decide +kernel
theorem dX4_lead_48 : decode cX4_lead 48 = .ok (.getfield 24, 3) := by decide +kernel
theorem dX4_lead_51 : decode cX4_lead 51 = .ok (.iload 6, 2) := by decide +kernel
theorem dX4_lead_53 : decode cX4_lead 53 = .ok (.iload 5, 2) := by decide +kernel
theorem dX4_lead_55 : decode cX4_lead 55 = .ok (.iastore, 1) := by decide +kernel
theorem dX4_lead_56 : decode cX4_lead 56 = .ok (.return_, 1) := by decide +kernel
theorem dX5_init_0 : decode cX5_init 0 = .ok (.aload_n 0, 1) := by decide +kernel
theorem dX5_init_1 : decode cX5_init 1 = .ok (.invokespecial 3, 3) := by decide +kernel
theorem dX5_init_4 : decode cX5_init 4 = .ok (.return_, 1) := by decide +kernel
theorem dX5_reset_0 : decode cX5_reset 0 = .ok (.aload_n 0, 1) := by decide +kernel
theorem dX5_reset_1 : decode cX5_reset 1 = .ok (.iconst 5, 1) := by decide +kernel
theorem dX5_reset_2 : decode cX5_reset 2 = .ok (.putfield 9, 3) := by decide +kernel
theorem dX5_reset_5 : decode cX5_reset 5 = .ok (.aload_n 0, 1) := by decide +kernel
theorem dX5_reset_6 : decode cX5_reset 6 = .ok (.iconst 0, 1) := by decide +kernel
theorem dX5_reset_7 : decode cX5_reset 7 = .ok (.putfield 15, 3) := by decide +kernel
theorem dX5_reset_10 : decode cX5_reset 10 = .ok (.aload_n 0, 1) := by decide +kernel
theorem dX5_reset_11 : decode cX5_reset 11 = .ok (.iconst 0, 1) := by decide +kernel
theorem dX5_reset_12 : decode cX5_reset 12 = .ok (.putfield 18, 3) := by decide +kernel
theorem dX5_reset_15 : decode cX5_reset 15 = .ok (.aload_n 0, 1) := by decide +kernel
theorem dX5_reset_16 : decode cX5_reset 16 = .ok (.iconst 0, 1) := by decide +kernel
theorem dX5_reset_17 : decode cX5_reset 17 = .ok (.putfield 21, 3) := by decide +kernel
theorem dX5_reset_20 : decode cX5_reset 20 = .ok (.aload_n 0, 1) := by decide +kernel
theorem dX5_reset_21 : decode cX5_reset 21 = .ok (.iconst (-1), 1) := by decide +kernel
theorem dX5_reset_22 : decode cX5_reset 22 = .ok (.putfield 24, 3) := by decide +kernel
theorem dX5_reset_25 : decode cX5_reset 25 = .ok (.aload_n 0, 1) := by decide +kernel
theorem dX5_reset_26 : decode cX5_reset 26 = .ok (.iconst 0, 1) := by decide +kernel
theorem dX5_reset_27 : decode cX5_reset 27 = .ok (.putfield 27, 3) := by decide +kernel
theorem dX5_reset_30 : decode cX5_reset 30 = .ok (.aload_n 0, 1) := by decide +kernel
theorem dX5_reset_31 : decode cX5_reset 31 = .ok (.iconst (-1), 1) := by decide +kernel
theorem dX5_reset_32 : decode cX5_reset 32 = .ok (.putfield 30, 3) := by decide +kernel
theorem dX5_reset_35 : decode cX5_reset 35 = .ok (.aload_n 0, 1) := by decide +kernel
theorem dX5_reset_36 : decode cX5_reset 36 = .ok (.iconst 0, 1) := by decide +kernel
theorem dX5_reset_37 : decode cX5_reset 37 = .ok (.putfield 33, 3) := by decide +kernel
theorem dX5_reset_40 : decode cX5_reset 40 = .ok (.aload_n 0, 1) := by decide +kernel
theorem dX5_reset_41 : decode cX5_reset 41 = .ok (.iconst 0, 1) := by decide +kernel
theorem dX5_reset_42 : decode cX5_reset 42 = .ok (.putfield 36, 3) := by decide +kernel
theorem dX5_reset_45 : decode cX5_reset 45 = .ok (.return_, 1) := by decide +kernel
theorem dX5_copyPart_0 : decode cX5_copyPart 0 = .ok (.aload_n 0, 1) := by decide +kernel
theorem dX5_copyPart_1 : decode cX5_copyPart 1 = .ok (.aload_n 1, 1) := by decide +kernel
theorem dX5_copyPart_2 : decode cX5_copyPart 2 = .ok (.getfield 9, 3) := by decide +kernel
theorem dX5_copyPart_5 : decode cX5_copyPart 5 = .ok (.putfield 9, 3) := by decide +kernel
theorem dX5_copyPart_8 : decode cX5_copyPart 8 = .ok (.aload_n 0, 1) := by decide +kernel
theorem dX5_copyPart_9 : decode cX5_copyPart 9 = .ok (.aload_n 1, 1) := by decide +kernel
theorem dX5_copyPart_10 : decode cX5_copyPart 10 = .ok (.getfield 15, 3) := by decide +kernel
theorem dX5_copyPart_13 : decode cX5_copyPart 13 = .ok (.putfield 15, 3) := by decide +kernel
theorem dX5_copyPart_16 : decode cX5_copyPart 16 = .ok (.aload_n 0, 1) := by decide +kernel
theorem dX5_copyPart_17 : decode cX5_copyPart 17 = .ok (.aload_n 1, 1) := by decide +kernel
theorem dX5_copyPart_18 : decode cX5_copyPart 18 = .ok (.getfield 18, 3) := by decide +kernel
theorem dX5_copyPart_21 : decode cX5_copyPart 21 = .ok (.putfield 18, 3) := by decide +kernel
theorem dX5_copyPart_24 : decode cX5_copyPart 24 = .ok (.aload_n 0, 1) := by decide +kernel
theorem dX5_copyPart_25 : decode cX5_copyPart 25 = .ok (.aload_n 1, 1) := by decide +kernel
theorem dX5_copyPart_26 : decode cX5_copyPart 26 = .ok (.getfield 21, 3) := by decide +kernel
theorem dX5_copyPart_29 : decode cX5_copyPart 29 = .ok (.putfield 21, 3) := by decide +kernel
theorem dX5_copyPart_32 : decode cX5_copyPart 32 = .ok (.aload_n 0, 1) := by decide +kernel
theorem dX5_copyPart_33 : decode cX5_copyPart 33 = .ok (.aload_n 1, 1) := by decide +kernel
theorem dX5_copyPart_34 : decode cX5_copyPart 34 = .ok (.getfield 24, 3) := by decide +kernel
theorem dX5_copyPart_37 : decode cX5_copyPart 37 = .ok (.putfield 24, 3) := by decide +kernel
theorem dX5_copyPart_40 : decode cX5_copyPart 40 = .ok (.aload_n 0, 1) := by decide +kernel
theorem dX5_copyPart_41 : decode cX5_copyPart 41 = .ok (.aload_n 1, 1) := by decide +kernel
theorem dX5_copyPart_42 : decode cX5_copyPart 42 = .ok (.getfield 27, 3) := by decide +kernel
theorem dX5_copyPart_45 : decode cX5_copyPart 45 = .ok (.putfield 27, 3) := by decide +kernel
theorem dX5_copyPart_48 : decode cX5_copyPart 48 = .ok (.aload_n 0, 1) := by decide +kernel
theorem dX5_copyPart_49 : decode cX5_copyPart 49 = .ok (.aload_n 1, 1) := by decide +kernel
theorem dX5_copyPart_50 : decode cX5_copyPart 50 = .ok (.getfield 30, 3) := by decide +kernel
theorem dX5_copyPart_53 : decode cX5_copyPart 53 = .ok (.putfield 30, 3) := by decide +kernel
theorem dX5_copyPart_56 : decode cX5_copyPart 56 = .ok (.aload_n 0, 1) := by decide +kernel
theorem dX5_copyPart_57 : decode cX5_copyPart 57 = .ok (.aload_n 1, 1) := by decide +kernel
theorem dX5_copyPart_58 : decode cX5_copyPart 58 = .ok (.getfield 33, 3) := by decide +kernel
theorem dX5_copyPart_61 : decode cX5_copyPart 61 = .ok (.putfield 33, 3) := by decide +kernel
theorem dX5_copyPart_64 : decode cX5_copyPart 64 = .ok (.aload_n 0, 1) := by decide +kernel
theorem dX5_copyPart_65 : decode cX5_copyPart 65 = .ok (.aload_n 1, 1) := by decide +kernel
theorem dX5_copyPart_66 : decode cX5_copyPart 66 = .ok (.getfield 36, 3) := by decide +kernel
theorem dX5_copyPart_69 : decode cX5_copyPart 69 = .ok (.putfield 36, 3) := by decide +kernel
theorem dX5_copyPart_72 : decode cX5_copyPart 72 = .ok (.return_, 1) := by decide +kernel
theorem dX5_base_0 : decode cX5_base 0 = .ok (.aload_n 0, 1) := by decide +kernel
theorem dX5_base_1 : decode cX5_base 1 = .ok (.getfield 21, 3) := by decide +kernel
theorem dX5_base_4 : decode cX5_base 4 = .ok (.ifCond .ne 5, 3) := by decide +kernel
theorem dX5_base_7 : decode cX5_base 7 = .ok (.iconst 1, 1) := by decide +kernel
theorem dX5_base_8 : decode cX5_base 8 = .ok (.ireturn, 1) := by decide +kernel
theorem dX5_base_9 : decode cX5_base 9 = .ok (.aload_n 0, 1) := by decide +kernel
theorem dX5_base_10 : decode cX5_base 10 = .ok (.getfield 21, 3) := by decide +kernel
theorem dX5_base_13 : decode cX5_base 13 = .ok (.iconst 3, 1) := by decide +kernel
theorem dX5_base_14 : decode cX5_base 14 = .ok (.if_icmp .ne 7, 3) := by decide +kernel
theorem dX5_base_17 : decode cX5_base 17 = .ok (.iconst 2, 1) := by decide +kernel
theorem dX5_base_18 : decode cX5_base 18 = .ok (.goto 4, 3) := by decide +kernel
theorem dX5_base_21 : decode cX5_base 21 = .ok (.iconst 5, 1) := by decide +kernel
theorem dX5_base_22 : decode cX5_base 22 = .ok (.ireturn, 1) := by decide +kernel
theorem dX5_stays_0 : decode cX5_stays 0 = .ok (.aload_n 0, 1) := by decide +kernel
theorem dX5_stays_1 : decode cX5_stays 1 = .ok (.getfield 21, 3) := by decide +kernel
theorem dX5_stays_4 : decode cX5_stays 4 = .ok (.iconst 1, 1) := by decide +kernel
theorem dX5_stays_5 : decode cX5_stays 5 = .ok (.if_icmp .ne 5, 3) := by decide +kernel
theorem dX5_stays_8 : decode cX5_stays 8 = .ok (.iconst 3, 1) := by decide +kernel
theorem dX5_stays_9 : decode cX5_stays 9 = .ok (.ireturn, 1) := by decide +kernel
theorem dX5_stays_10 : decode cX5_stays 10 = .ok (.aload_n 0, 1) := by decide +kernel
theorem dX5_stays_11 : decode cX5_stays 11 = .ok (.getfield 21, 3) := by decide +kernel
theorem dX5_stays_14 : decode cX5_stays 14 = .ok (.iconst 2, 1) := by decide +kernel
theorem dX5_stays_15 : decode cX5_stays 15 = .ok (.if_icmp .ne 7, 3) := by decide +kernel
theorem dX5_stays_18 : decode cX5_stays 18 = .ok (.iconst 4, 1) := by decide +kernel
theorem dX5_stays_19 : decode cX5_stays 19 = .ok (.goto 4, 3) := by decide +kernel
theorem dX5_stays_22 : decode cX5_stays 22 = .ok (.iconst 1, 1) := by decide +kernel
theorem dX5_stays_23 : decode cX5_stays 23 = .ok (.ireturn, 1) := by decide +kernel
theorem dX5_goes_0 : decode cX5_goes 0 = .ok (.aload_n 0, 1) := by decide +kernel
theorem dX5_goes_1 : decode cX5_goes 1 = .ok (.getfield 21, 3) := by decide +kernel
theorem dX5_goes_4 : decode cX5_goes 4 = .ok (.iconst 1, 1) := by decide +kernel
theorem dX5_goes_5 : decode cX5_goes 5 = .ok (.if_icmp .ne 5, 3) := by decide +kernel
theorem dX5_goes_8 : decode cX5_goes 8 = .ok (.iconst 4, 1) := by decide +kernel
theorem dX5_goes_9 : decode cX5_goes 9 = .ok (.ireturn, 1) := by decide +kernel
theorem dX5_goes_10 : decode cX5_goes 10 = .ok (.aload_n 0, 1) := by decide +kernel
theorem dX5_goes_11 : decode cX5_goes 11 = .ok (.getfield 21, 3) := by decide +kernel
theorem dX5_goes_14 : decode cX5_goes 14 = .ok (.iconst 2, 1) := by decide +kernel
theorem dX5_goes_15 : decode cX5_goes 15 = .ok (.if_icmp .ne 7, 3) := by decide +kernel
theorem dX5_goes_18 : decode cX5_goes 18 = .ok (.iconst 3, 1) := by decide +kernel
theorem dX5_goes_19 : decode cX5_goes 19 = .ok (.goto 4, 3) := by decide +kernel
theorem dX5_goes_22 : decode cX5_goes 22 = .ok (.iconst 1, 1) := by decide +kernel
theorem dX5_goes_23 : decode cX5_goes 23 = .ok (.ireturn, 1) := by decide +kernel
theorem dX5_roots_0 : decode cX5_roots 0 = .ok (.aload_n 0, 1) := by decide +kernel
theorem dX5_roots_1 : decode cX5_roots 1 = .ok (.getfield 21, 3) := by decide +kernel
theorem dX5_roots_4 : decode cX5_roots 4 = .ok (.iconst 3, 1) := by decide +kernel
theorem dX5_roots_5 : decode cX5_roots 5 = .ok (.if_icmp .ne 7, 3) := by decide +kernel
theorem dX5_roots_8 : decode cX5_roots 8 = .ok (.iconst 1, 1) := by decide +kernel
theorem dX5_roots_9 : decode cX5_roots 9 = .ok (.goto 4, 3) := by decide +kernel
theorem dX5_roots_12 : decode cX5_roots 12 = .ok (.iconst 0, 1) := by decide +kernel
theorem dX5_roots_13 : decode cX5_roots 13 = .ok (.ireturn, 1) := by decide +kernel
theorem dX5_joinsPaths_0 : decode cX5_joinsPaths 0 = .ok (.aload_n 0, 1) := by decide +kernel
theorem dX5_joinsPaths_1 : decode cX5_joinsPaths 1 = .ok (.getfield 9, 3) := by decide +kernel
theorem dX5_joinsPaths_4 : decode cX5_joinsPaths 4 = .ok (.ifCond .eq 11, 3) := by decide +kernel
theorem dX5_joinsPaths_7 : decode cX5_joinsPaths 7 = .ok (.aload_n 0, 1) := by decide +kernel
theorem dX5_joinsPaths_8 : decode cX5_joinsPaths 8 = .ok (.getfield 9, 3) := by decide +kernel
theorem dX5_joinsPaths_11 : decode cX5_joinsPaths 11 = .ok (.iconst 3, 1) := by decide +kernel
theorem dX5_joinsPaths_12 : decode cX5_joinsPaths 12 = .ok (.if_icmp .ne 7, 3) := by decide +kernel
theorem dX5_joinsPaths_15 : decode cX5_joinsPaths 15 = .ok (.iconst 1, 1) := by decide +kernel
theorem dX5_joinsPaths_16 : decode cX5_joinsPaths 16 = .ok (.goto 4, 3) := by decide +kernel
theorem dX5_joinsPaths_19 : decode cX5_joinsPaths 19 = .ok (.iconst 0, 1) := by decide +kernel
theorem dX5_joinsPaths_20 : decode cX5_joinsPaths 20 = .ok (.ireturn, 1) := by decide +kernel
theorem dX5_actsOn_0 : decode cX5_actsOn 0 = .ok (.aload_n 0, 1) := by decide +kernel
theorem dX5_actsOn_1 : decode cX5_actsOn 1 = .ok (.getfield 30, 3) := by decide +kernel
theorem dX5_actsOn_4 : decode cX5_actsOn 4 = .ok (.iconst (-1), 1) := by decide +kernel
theorem dX5_actsOn_5 : decode cX5_actsOn 5 = .ok (.if_icmp .eq 20, 3) := by decide +kernel
theorem dX5_actsOn_8 : decode cX5_actsOn 8 = .ok (.iload_n 1, 1) := by decide +kernel
theorem dX5_actsOn_9 : decode cX5_actsOn 9 = .ok (.aload_n 0, 1) := by decide +kernel
theorem dX5_actsOn_10 : decode cX5_actsOn 10 = .ok (.getfield 30, 3) := by decide +kernel
theorem dX5_actsOn_13 : decode cX5_actsOn 13 = .ok (.iconst 1, 1) := by decide +kernel
theorem dX5_actsOn_14 : decode cX5_actsOn 14 = .ok (.iadd, 1) := by decide +kernel
theorem dX5_actsOn_15 : decode cX5_actsOn 15 = .ok (.invokestatic 39, 3) := by decide +kernel
theorem dX5_actsOn_18 : decode cX5_actsOn 18 = .ok (.aload_n 0, 1) := by decide +kernel
theorem dX5_actsOn_19 : decode cX5_actsOn 19 = .ok (.getfield 33, 3) := by decide +kernel
theorem dX5_actsOn_22 : decode cX5_actsOn 22 = .ok (.if_icmp .ne 7, 3) := by decide +kernel
theorem dX5_actsOn_25 : decode cX5_actsOn 25 = .ok (.iconst 1, 1) := by decide +kernel
theorem dX5_actsOn_26 : decode cX5_actsOn 26 = .ok (.goto 4, 3) := by decide +kernel
theorem dX5_actsOn_29 : decode cX5_actsOn 29 = .ok (.iconst 0, 1) := by decide +kernel
theorem dX5_actsOn_30 : decode cX5_actsOn 30 = .ok (.ireturn, 1) := by decide +kernel
theorem dX6_init_0 : decode cX6_init 0 = .ok (.aload_n 0, 1) := by decide +kernel
theorem dX6_init_1 : decode cX6_init 1 = .ok (.invokespecial 3, 3) := by decide +kernel
theorem dX6_init_4 : decode cX6_init 4 = .ok (.aload_n 0, 1) := by decide +kernel
theorem dX6_init_5 : decode cX6_init 5 = .ok (.bipush 8, 2) := by decide +kernel
theorem dX6_init_7 : decode cX6_init 7 = .ok (.anewarray 9, 3) := by decide +kernel
theorem dX6_init_10 : decode cX6_init 10 = .ok (.putfield 11, 3) := by decide +kernel
theorem dX6_init_13 : decode cX6_init 13 = .ok (.aload_n 0, 1) := by decide +kernel
theorem dX6_init_14 : decode cX6_init 14 = .ok (.iconst 4, 1) := by decide +kernel
theorem dX6_init_15 : decode cX6_init 15 = .ok (.anewarray 17, 3) := by decide +kernel
theorem dX6_init_18 : decode cX6_init 18 = .ok (.putfield 19, 3) := by decide +kernel
theorem dX6_init_21 : decode cX6_init 21 = .ok (.aload_n 0, 1) := by decide +kernel
theorem dX6_init_22 : decode cX6_init 22 = .ok (.iconst 4, 1) := by decide +kernel
theorem dX6_init_23 : decode cX6_init 23 = .ok (.newarray .int, 2) := by decide +kernel
theorem dX6_init_25 : decode cX6_init 25 = .ok (.putfield 23, 3) := by decide +kernel
theorem dX6_init_28 : decode cX6_init 28 = .ok (.aload_n 0, 1) := by decide +kernel
theorem dX6_init_29 : decode cX6_init 29 = .ok (.iconst 4, 1) := by decide +kernel
theorem dX6_init_30 : decode cX6_init 30 = .ok (.newarray .int, 2) := by decide +kernel
theorem dX6_init_32 : decode cX6_init 32 = .ok (.putfield 27, 3) := by decide +kernel
theorem dX6_init_35 : decode cX6_init 35 = .ok (.aload_n 0, 1) := by decide +kernel
theorem dX6_init_36 : decode cX6_init 36 = .ok (.iconst 4, 1) := by decide +kernel
theorem dX6_init_37 : decode cX6_init 37 = .ok (.newarray .int, 2) := by decide +kernel
theorem dX6_init_39 : decode cX6_init 39 = .ok (.putfield 30, 3) := by decide +kernel
theorem dX6_init_42 : decode cX6_init 42 = .ok (.aload_n 0, 1) := by decide +kernel
theorem dX6_init_43 : decode cX6_init 43 = .ok (.iconst 3, 1) := by decide +kernel
theorem dX6_init_44 : decode cX6_init 44 = .ok (.newarray .int, 2) := by decide +kernel
theorem dX6_init_46 : decode cX6_init 46 = .ok (.putfield 33, 3) := by decide +kernel
theorem dX6_init_49 : decode cX6_init 49 = .ok (.aload_n 0, 1) := by decide +kernel
theorem dX6_init_50 : decode cX6_init 50 = .ok (.iconst (-1), 1) := by decide +kernel
theorem dX6_init_51 : decode cX6_init 51 = .ok (.putfield 36, 3) := by decide +kernel
theorem dX6_init_54 : decode cX6_init 54 = .ok (.aload_n 0, 1) := by decide +kernel
theorem dX6_init_55 : decode cX6_init 55 = .ok (.new 40, 3) := by decide +kernel
theorem dX6_init_58 : decode cX6_init 58 = .ok (.dup, 1) := by decide +kernel
theorem dX6_init_59 : decode cX6_init 59 = .ok (.invokespecial 42, 3) := by decide +kernel
theorem dX6_init_62 : decode cX6_init 62 = .ok (.putfield 43, 3) := by decide +kernel
theorem dX6_init_65 : decode cX6_init 65 = .ok (.aload_n 0, 1) := by decide +kernel
theorem dX6_init_66 : decode cX6_init 66 = .ok (.new 40, 3) := by decide +kernel
theorem dX6_init_69 : decode cX6_init 69 = .ok (.dup, 1) := by decide +kernel
theorem dX6_init_70 : decode cX6_init 70 = .ok (.invokespecial 42, 3) := by decide +kernel
theorem dX6_init_73 : decode cX6_init 73 = .ok (.putfield 47, 3) := by decide +kernel
theorem dX6_init_76 : decode cX6_init 76 = .ok (.aload_n 0, 1) := by decide +kernel
theorem dX6_init_77 : decode cX6_init 77 = .ok (.aload_n 1, 1) := by decide +kernel
theorem dX6_init_78 : decode cX6_init 78 = .ok (.putfield 50, 3) := by decide +kernel
theorem dX6_init_81 : decode cX6_init 81 = .ok (.iconst 0, 1) := by decide +kernel
theorem dX6_init_82 : decode cX6_init 82 = .ok (.istore_n 2, 1) := by decide +kernel
theorem dX6_init_83 : decode cX6_init 83 = .ok (.iload_n 2, 1) := by decide +kernel
theorem dX6_init_84 : decode cX6_init 84 = .ok (.bipush 8, 2) := by decide +kernel
theorem dX6_init_86 : decode cX6_init 86 = .ok (.if_icmp .ge 22, 3) := by decide +kernel
theorem dX6_init_89 : decode cX6_init 89 = .ok (.aload_n 0, 1) := by decide +kernel
theorem dX6_init_90 : decode cX6_init 90 = .ok (.getfield 11, 3) := by decide +kernel
theorem dX6_init_93 : decode cX6_init 93 = .ok (.iload_n 2, 1) := by decide +kernel
theorem dX6_init_94 : decode cX6_init 94 = .ok (.new 9, 3) := by decide +kernel
theorem dX6_init_97 : decode cX6_init 97 = .ok (.dup, 1) := by decide +kernel
theorem dX6_init_98 : decode cX6_init 98 = .ok (.invokespecial 54, 3) := by decide +kernel
theorem dX6_init_101 : decode cX6_init 101 = .ok (.aastore, 1) := by decide +kernel
theorem dX6_init_102 : decode cX6_init 102 = .ok (.iinc 2 1, 3) := by decide +kernel
theorem dX6_init_105 : decode cX6_init 105 = .ok (.goto (-22), 3) := by decide +kernel
theorem dX6_init_108 : decode cX6_init 108 = .ok (.iconst 0, 1) := by decide +kernel
theorem dX6_init_109 : decode cX6_init 109 = .ok (.istore_n 2, 1) := by decide +kernel
theorem dX6_init_110 : decode cX6_init 110 = .ok (.iload_n 2, 1) := by decide +kernel
theorem dX6_init_111 : decode cX6_init 111 = .ok (.iconst 3, 1) := by decide +kernel
theorem dX6_init_112 : decode cX6_init 112 = .ok (.if_icmp .gt 24, 3) := by decide +kernel
theorem dX6_init_115 : decode cX6_init 115 = .ok (.aload_n 0, 1) := by decide +kernel
theorem dX6_init_116 : decode cX6_init 116 = .ok (.getfield 19, 3) := by decide +kernel
theorem dX6_init_119 : decode cX6_init 119 = .ok (.iload_n 2, 1) := by decide +kernel
theorem dX6_init_120 : decode cX6_init 120 = .ok (.new 17, 3) := by decide +kernel
theorem dX6_init_123 : decode cX6_init 123 = .ok (.dup, 1) := by decide +kernel
theorem dX6_init_124 : decode cX6_init 124 = .ok (.bipush 11, 2) := by decide +kernel
theorem dX6_init_126 : decode cX6_init 126 = .ok (.invokespecial 55, 3) := by decide +kernel
theorem dX6_init_129 : decode cX6_init 129 = .ok (.aastore, 1) := by decide +kernel
theorem dX6_init_130 : decode cX6_init 130 = .ok (.iinc 2 1, 3) := by decide +kernel
theorem dX6_init_133 : decode cX6_init 133 = .ok (.goto (-23), 3) := by decide +kernel
theorem dX6_init_136 : decode cX6_init 136 = .ok (.return_, 1) := by decide +kernel
theorem dX6_search_0 : decode cX6_search 0 = .ok (.iload_n 2, 1) := by decide +kernel
theorem dX6_search_1 : decode cX6_search 1 = .ok (.invokestatic 58, 3) := by decide +kernel
theorem dX6_search_4 : decode cX6_search 4 = .ok (.istore 5, 2) := by decide +kernel
theorem dX6_search_6 : decode cX6_search 6 = .ok (.iconst 0, 1) := by decide +kernel
theorem dX6_search_7 : decode cX6_search 7 = .ok (.istore 6, 2) := by decide +kernel
theorem dX6_search_9 : decode cX6_search 9 = .ok (.iload 6, 2) := by decide +kernel
theorem dX6_search_11 : decode cX6_search 11 = .ok (.aload_n 0, 1) := by decide +kernel
theorem dX6_search_12 : decode cX6_search 12 = .ok (.getfield 50, 3) := by decide +kernel
theorem dX6_search_15 : decode cX6_search 15 = .ok (.getfield 62, 3) := by decide +kernel
theorem dX6_search_18 : decode cX6_search 18 = .ok (.if_icmp .ge 29, 3) := by decide +kernel
theorem dX6_search_21 : decode cX6_search 21 = .ok (.aload_n 0, 1) := by decide +kernel
theorem dX6_search_22 : decode cX6_search 22 = .ok (.getfield 11, 3) := by decide +kernel
theorem dX6_search_25 : decode cX6_search 25 = .ok (.iload 6, 2) := by decide +kernel
theorem dX6_search_27 : decode cX6_search 27 = .ok (.aaload, 1) := by decide +kernel
theorem dX6_search_28 : decode cX6_search 28 = .ok (.aload_n 0, 1) := by decide +kernel
theorem dX6_search_29 : decode cX6_search 29 = .ok (.getfield 50, 3) := by decide +kernel
theorem dX6_search_32 : decode cX6_search 32 = .ok (.getfield 67, 3) := by decide +kernel
theorem dX6_search_35 : decode cX6_search 35 = .ok (.iload 6, 2) := by decide +kernel
theorem dX6_search_37 : decode cX6_search 37 = .ok (.aaload, 1) := by decide +kernel
theorem dX6_search_38 : decode cX6_search 38 = .ok (.invokevirtual 71, 3) := by decide +kernel
theorem dX6_search_41 : decode cX6_search 41 = .ok (.iinc 6 1, 3) := by decide +kernel
theorem dX6_search_44 : decode cX6_search 44 = .ok (.goto (-35), 3) := by decide +kernel
theorem dX6_search_47 : decode cX6_search 47 = .ok (.aload_n 0, 1) := by decide +kernel
theorem dX6_search_48 : decode cX6_search 48 = .ok (.iconst (-1), 1) := by decide +kernel
theorem dX6_search_49 : decode cX6_search 49 = .ok (.putfield 36, 3) := by decide +kernel
theorem dX6_search_52 : decode cX6_search 52 = .ok (.aload_n 0, 1) := by decide +kernel
theorem dX6_search_53 : decode cX6_search 53 = .ok (.getfield 19, 3) := by decide +kernel
theorem dX6_search_56 : decode cX6_search 56 = .ok (.iconst 0, 1) := by decide +kernel
theorem dX6_search_57 : decode cX6_search 57 = .ok (.aaload, 1) := by decide +kernel
theorem dX6_search_58 : decode cX6_search 58 = .ok (.iload_n 2, 1) := by decide +kernel
theorem dX6_search_59 : decode cX6_search 59 = .ok (.invokevirtual 75, 3) := by decide +kernel
theorem dX6_search_62 : decode cX6_search 62 = .ok (.aload_n 0, 1) := by decide +kernel
theorem dX6_search_63 : decode cX6_search 63 = .ok (.getfield 23, 3) := by decide +kernel
theorem dX6_search_66 : decode cX6_search 66 = .ok (.iconst 0, 1) := by decide +kernel
theorem dX6_search_67 : decode cX6_search 67 = .ok (.iconst 1, 1) := by decide +kernel
theorem dX6_search_68 : decode cX6_search 68 = .ok (.iastore, 1) := by decide +kernel
theorem dX6_search_69 : decode cX6_search 69 = .ok (.aload_n 0, 1) := by decide +kernel
theorem dX6_search_70 : decode cX6_search 70 = .ok (.getfield 30, 3) := by decide +kernel
theorem dX6_search_73 : decode cX6_search 73 = .ok (.iconst 0, 1) := by decide +kernel
theorem dX6_search_74 : decode cX6_search 74 = .ok (.iconst 0, 1) := by decide +kernel
theorem dX6_search_75 : decode cX6_search 75 = .ok (.iastore, 1) := by decide +kernel
theorem dX6_search_76 : decode cX6_search 76 = .ok (.aload_n 0, 1) := by decide +kernel
theorem dX6_search_77 : decode cX6_search 77 = .ok (.iconst 0, 1) := by decide +kernel
theorem dX6_search_78 : decode cX6_search 78 = .ok (.iload 4, 2) := by decide +kernel
theorem dX6_search_80 : decode cX6_search 80 = .ok (.iload 5, 2) := by decide +kernel
theorem dX6_search_82 : decode cX6_search 82 = .ok (.invokevirtual 78, 3) := by decide +kernel
theorem dX6_search_85 : decode cX6_search 85 = .ok (.iconst 0, 1) := by decide +kernel
theorem dX6_search_86 : decode cX6_search 86 = .ok (.istore 6, 2) := by decide +kernel
theorem dX6_search_88 : decode cX6_search 88 = .ok (.iconst 0, 1) := by decide +kernel
theorem dX6_search_89 : decode cX6_search 89 = .ok (.istore 7, 2) := by decide +kernel
theorem dX6_search_91 : decode cX6_search 91 = .ok (.iload 7, 2) := by decide +kernel
theorem dX6_search_93 : decode cX6_search 93 = .ok (.sipush 10000, 3) := by decide +kernel
theorem dX6_search_96 : decode cX6_search 96 = .ok (.if_icmp .ge 73, 3) := by decide +kernel
theorem dX6_search_99 : decode cX6_search 99 = .ok (.iload 6, 2) := by decide +kernel
theorem dX6_search_101 : decode cX6_search 101 = .ok (.ifCond .lt 68, 3) := by decide +kernel
theorem dX6_search_104 : decode cX6_search 104 = .ok (.iload 6, 2) := by decide +kernel
theorem dX6_search_106 : decode cX6_search 106 = .ok (.iload_n 1, 1) := by decide +kernel
theorem dX6_search_107 : decode cX6_search 107 = .ok (.if_icmp .ge 26, 3) := by decide +kernel
theorem dX6_search_110 : decode cX6_search 110 = .ok (.iload 6, 2) := by decide +kernel
theorem dX6_search_112 : decode cX6_search 112 = .ok (.iconst 3, 1) := by decide +kernel
theorem dX6_search_113 : decode cX6_search 113 = .ok (.if_icmp .ge 20, 3) := by decide +kernel
theorem dX6_search_116 : decode cX6_search 116 = .ok (.aload_n 0, 1) := by decide +kernel
theorem dX6_search_117 : decode cX6_search 117 = .ok (.getfield 30, 3) := by decide +kernel
theorem dX6_search_120 : decode cX6_search 120 = .ok (.iload 6, 2) := by decide +kernel
theorem dX6_search_122 : decode cX6_search 122 = .ok (.iaload, 1) := by decide +kernel
theorem dX6_search_123 : decode cX6_search 123 = .ok (.aload_n 0, 1) := by decide +kernel
theorem dX6_search_124 : decode cX6_search 124 = .ok (.getfield 50, 3) := by decide +kernel
theorem dX6_search_127 : decode cX6_search 127 = .ok (.getfield 62, 3) := by decide +kernel
theorem dX6_search_130 : decode cX6_search 130 = .ok (.if_icmp .lt 9, 3) := by decide +kernel
theorem dX6_search_133 : decode cX6_search 133 = .ok (.iinc 6 (-1), 3) := by decide +kernel
theorem dX6_search_136 : decode cX6_search 136 = .ok (.goto 27, 3) := by decide +kernel
theorem dX6_search_139 : decode cX6_search 139 = .ok (.aload_n 0, 1) := by decide +kernel
theorem dX6_search_140 : decode cX6_search 140 = .ok (.iload 6, 2) := by decide +kernel
theorem dX6_search_142 : decode cX6_search 142 = .ok (.iload_n 1, 1) := by decide +kernel
theorem dX6_search_143 : decode cX6_search 143 = .ok (.iload_n 3, 1) := by decide +kernel
theorem dX6_search_144 : decode cX6_search 144 = .ok (.invokevirtual 82, 3) := by decide +kernel
theorem dX6_search_147 : decode cX6_search 147 = .ok (.ifCond .eq 16, 3) := by decide +kernel
theorem dX6_search_150 : decode cX6_search 150 = .ok (.iinc 6 1, 3) := by decide +kernel
theorem dX6_search_153 : decode cX6_search 153 = .ok (.aload_n 0, 1) := by decide +kernel
theorem dX6_search_154 : decode cX6_search 154 = .ok (.iload 6, 2) := by decide +kernel
theorem dX6_search_156 : decode cX6_search 156 = .ok (.iload 4, 2) := by decide +kernel
theorem dX6_search_158 : decode cX6_search 158 = .ok (.iload 5, 2) := by decide +kernel
theorem dX6_search_160 : decode cX6_search 160 = .ok (.invokevirtual 78, 3) := by decide +kernel
theorem dX6_search_163 : decode cX6_search 163 = .ok (.iinc 7 1, 3) := by decide +kernel
theorem dX6_search_166 : decode cX6_search 166 = .ok (.goto (-75), 3) := by decide +kernel
theorem dX6_search_169 : decode cX6_search 169 = .ok (.return_, 1) := by decide +kernel
theorem dX6_lengthen_0 : decode cX6_lengthen 0 = .ok (.aload_n 0, 1) := by decide +kernel
theorem dX6_lengthen_1 : decode cX6_lengthen 1 = .ok (.getfield 30, 3) := by decide +kernel
theorem dX6_lengthen_4 : decode cX6_lengthen 4 = .ok (.iload_n 1, 1) := by decide +kernel
theorem dX6_lengthen_5 : decode cX6_lengthen 5 = .ok (.iaload, 1) := by decide +kernel
theorem dX6_lengthen_6 : decode cX6_lengthen 6 = .ok (.istore 4, 2) := by decide +kernel
theorem dX6_lengthen_8 : decode cX6_lengthen 8 = .ok (.aload_n 0, 1) := by decide +kernel
theorem dX6_lengthen_9 : decode cX6_lengthen 9 = .ok (.getfield 30, 3) := by decide +kernel
theorem dX6_lengthen_12 : decode cX6_lengthen 12 = .ok (.iload_n 1, 1) := by decide +kernel
theorem dX6_lengthen_13 : decode cX6_lengthen 13 = .ok (.dup2, 1) := by decide +kernel
theorem dX6_lengthen_14 : decode cX6_lengthen 14 = .ok (.iaload, 1) := by decide +kernel
theorem dX6_lengthen_15 : decode cX6_lengthen 15 = .ok (.iconst 1, 1) := by decide +kernel
theorem dX6_lengthen_16 : decode cX6_lengthen 16 = .ok (.iadd, 1) := by decide +kernel
theorem dX6_lengthen_17 : decode cX6_lengthen 17 = .ok (.iastore, 1) := by decide +kernel
theorem dX6_lengthen_18 : decode cX6_lengthen 18 = .ok (.aload_n 0, 1) := by decide +kernel
theorem dX6_lengthen_19 : decode cX6_lengthen 19 = .ok (.getfield 50, 3) := by decide +kernel
theorem dX6_lengthen_22 : decode cX6_lengthen 22 = .ok (.getfield 67, 3) := by decide +kernel
theorem dX6_lengthen_25 : decode cX6_lengthen 25 = .ok (.iload 4, 2) := by decide +kernel
theorem dX6_lengthen_27 : decode cX6_lengthen 27 = .ok (.aaload, 1) := by decide +kernel
theorem dX6_lengthen_28 : decode cX6_lengthen 28 = .ok (.astore 5, 2) := by decide +kernel
theorem dX6_lengthen_30 : decode cX6_lengthen 30 = .ok (.aload_n 0, 1) := by decide +kernel
theorem dX6_lengthen_31 : decode cX6_lengthen 31 = .ok (.getfield 23, 3) := by decide +kernel
theorem dX6_lengthen_34 : decode cX6_lengthen 34 = .ok (.iload_n 1, 1) := by decide +kernel
theorem dX6_lengthen_35 : decode cX6_lengthen 35 = .ok (.iaload, 1) := by decide +kernel
theorem dX6_lengthen_36 : decode cX6_lengthen 36 = .ok (.aload 5, 2) := by decide +kernel
theorem dX6_lengthen_38 : decode cX6_lengthen 38 = .ok (.invokevirtual 86, 3) := by decide +kernel
theorem dX6_lengthen_41 : decode cX6_lengthen 41 = .ok (.iload_n 3, 1) := by decide +kernel
theorem dX6_lengthen_42 : decode cX6_lengthen 42 = .ok (.invokestatic 92, 3) := by decide +kernel
theorem dX6_lengthen_45 : decode cX6_lengthen 45 = .ok (.istore 6, 2) := by decide +kernel
theorem dX6_lengthen_47 : decode cX6_lengthen 47 = .ok (.iload 6, 2) := by decide +kernel
theorem dX6_lengthen_49 : decode cX6_lengthen 49 = .ok (.ldc 96, 2) := by decide +kernel
theorem dX6_lengthen_51 : decode cX6_lengthen 51 = .ok (.if_icmp .gt 29, 3) := by decide +kernel
theorem dX6_lengthen_54 : decode cX6_lengthen 54 = .ok (.aload 5, 2) := by decide +kernel
theorem dX6_lengthen_56 : decode cX6_lengthen 56 = .ok (.aload_n 0, 1) := by decide +kernel
theorem dX6_lengthen_57 : decode cX6_lengthen 57 = .ok (.getfield 19, 3) := by decide +kernel
theorem dX6_lengthen_60 : decode cX6_lengthen 60 = .ok (.iload_n 1, 1) := by decide +kernel
theorem dX6_lengthen_61 : decode cX6_lengthen 61 = .ok (.aaload, 1) := by decide +kernel
theorem dX6_lengthen_62 : decode cX6_lengthen 62 = .ok (.iload_n 1, 1) := by decide +kernel
theorem dX6_lengthen_63 : decode cX6_lengthen 63 = .ok (.iconst 1, 1) := by decide +kernel
theorem dX6_lengthen_64 : decode cX6_lengthen 64 = .ok (.iadd, 1) := by decide +kernel
theorem dX6_lengthen_65 : decode cX6_lengthen 65 = .ok (.iload_n 2, 1) := by decide +kernel
theorem dX6_lengthen_66 : decode cX6_lengthen 66 = .ok (.if_icmp .lt 7, 3) := by decide +kernel
theorem dX6_lengthen_69 : decode cX6_lengthen 69 = .ok (.iconst 1, 1) := by decide +kernel
theorem dX6_lengthen_70 : decode cX6_lengthen 70 = .ok (.goto 4, 3) := by decide +kernel
theorem dX6_lengthen_73 : decode cX6_lengthen 73 = .ok (.iconst 0, 1) := by decide +kernel
theorem dX6_lengthen_74 : decode cX6_lengthen 74 = .ok (.invokestatic 97, 3) := by decide +kernel
theorem dX6_lengthen_77 : decode cX6_lengthen 77 = .ok (.ifCond .eq 5, 3) := by decide +kernel
theorem dX6_lengthen_80 : decode cX6_lengthen 80 = .ok (.iconst 0, 1) := by decide +kernel
theorem dX6_lengthen_81 : decode cX6_lengthen 81 = .ok (.ireturn, 1) := by decide +kernel
theorem dX6_lengthen_82 : decode cX6_lengthen 82 = .ok (.aload_n 0, 1) := by decide +kernel
theorem dX6_lengthen_83 : decode cX6_lengthen 83 = .ok (.getfield 27, 3) := by decide +kernel
theorem dX6_lengthen_86 : decode cX6_lengthen 86 = .ok (.iload_n 1, 1) := by decide +kernel
theorem dX6_lengthen_87 : decode cX6_lengthen 87 = .ok (.iload 4, 2) := by decide +kernel
theorem dX6_lengthen_89 : decode cX6_lengthen 89 = .ok (.iastore, 1) := by decide +kernel
theorem dX6_lengthen_90 : decode cX6_lengthen 90 = .ok (.aload_n 0, 1) := by decide +kernel
theorem dX6_lengthen_91 : decode cX6_lengthen 91 = .ok (.getfield 19, 3) := by decide +kernel
theorem dX6_lengthen_94 : decode cX6_lengthen 94 = .ok (.iload_n 1, 1) := by decide +kernel
theorem dX6_lengthen_95 : decode cX6_lengthen 95 = .ok (.aaload, 1) := by decide +kernel
theorem dX6_lengthen_96 : decode cX6_lengthen 96 = .ok (.aload 5, 2) := by decide +kernel
theorem dX6_lengthen_98 : decode cX6_lengthen 98 = .ok (.aload_n 0, 1) := by decide +kernel
theorem dX6_lengthen_99 : decode cX6_lengthen 99 = .ok (.getfield 11, 3) := by decide +kernel
theorem dX6_lengthen_102 : decode cX6_lengthen 102 = .ok (.iload 4, 2) := by decide +kernel
theorem dX6_lengthen_104 : decode cX6_lengthen 104 = .ok (.aaload, 1) := by decide +kernel
theorem dX6_lengthen_105 : decode cX6_lengthen 105 = .ok (.aload_n 0, 1) := by decide +kernel
theorem dX6_lengthen_106 : decode cX6_lengthen 106 = .ok (.getfield 19, 3) := by decide +kernel
theorem dX6_lengthen_109 : decode cX6_lengthen 109 = .ok (.iload_n 1, 1) := by decide +kernel
theorem dX6_lengthen_110 : decode cX6_lengthen 110 = .ok (.iconst 1, 1) := by decide +kernel
theorem dX6_lengthen_111 : decode cX6_lengthen 111 = .ok (.iadd, 1) := by decide +kernel
theorem dX6_lengthen_112 : decode cX6_lengthen 112 = .ok (.aaload, 1) := by decide +kernel
theorem dX6_lengthen_113 : decode cX6_lengthen 113 = .ok (.invokevirtual 101, 3) := by decide +kernel
theorem dX6_lengthen_116 : decode cX6_lengthen 116 = .ok (.aload_n 0, 1) := by decide +kernel
theorem dX6_lengthen_117 : decode cX6_lengthen 117 = .ok (.getfield 23, 3) := by decide +kernel
theorem dX6_lengthen_120 : decode cX6_lengthen 120 = .ok (.iload_n 1, 1) := by decide +kernel
theorem dX6_lengthen_121 : decode cX6_lengthen 121 = .ok (.iconst 1, 1) := by decide +kernel
theorem dX6_lengthen_122 : decode cX6_lengthen 122 = .ok (.iadd, 1) := by decide +kernel
theorem dX6_lengthen_123 : decode cX6_lengthen 123 = .ok (.iload 6, 2) := by decide +kernel
theorem dX6_lengthen_125 : decode cX6_lengthen 125 = .ok (.iastore, 1) := by decide +kernel
theorem dX6_lengthen_126 : decode cX6_lengthen 126 = .ok (.aload_n 0, 1) := by decide +kernel
theorem dX6_lengthen_127 : decode cX6_lengthen 127 = .ok (.getfield 30, 3) := by decide +kernel
theorem dX6_lengthen_130 : decode cX6_lengthen 130 = .ok (.iload_n 1, 1) := by decide +kernel
theorem dX6_lengthen_131 : decode cX6_lengthen 131 = .ok (.iconst 1, 1) := by decide +kernel
theorem dX6_lengthen_132 : decode cX6_lengthen 132 = .ok (.iadd, 1) := by decide +kernel
theorem dX6_lengthen_133 : decode cX6_lengthen 133 = .ok (.iconst 0, 1) := by decide +kernel
theorem dX6_lengthen_134 : decode cX6_lengthen 134 = .ok (.iastore, 1) := by decide +kernel
theorem dX6_lengthen_135 : decode cX6_lengthen 135 = .ok (.iconst 1, 1) := by decide +kernel
theorem dX6_lengthen_136 : decode cX6_lengthen 136 = .ok (.ireturn, 1) := by decide +kernel
theorem dX6_isVain_0 : decode cX6_isVain 0 = .ok (.iload_n 2, 1) := by decide +kernel
theorem dX6_isVain_1 : decode cX6_isVain 1 = .ok (.ifCond .eq 10, 3) := by decide +kernel
theorem dX6_isVain_4 : decode cX6_isVain 4 = .ok (.aload_n 0, 1) := by decide +kernel
theorem dX6_isVain_5 : decode cX6_isVain 5 = .ok (.invokevirtual 105, 3) := by decide +kernel
theorem dX6_isVain_8 : decode cX6_isVain 8 = .ok (.ifCond .eq 11, 3) := by decide +kernel
theorem dX6_isVain_11 : decode cX6_isVain 11 = .ok (.aload_n 1, 1) := by decide +kernel
theorem dX6_isVain_12 : decode cX6_isVain 12 = .ok (.aload_n 0, 1) := by decide +kernel
theorem dX6_isVain_13 : decode cX6_isVain 13 = .ok (.invokevirtual 109, 3) := by decide +kernel
theorem dX6_isVain_16 : decode cX6_isVain 16 = .ok (.ifCond .ne 7, 3) := by decide +kernel
theorem dX6_isVain_19 : decode cX6_isVain 19 = .ok (.iconst 1, 1) := by decide +kernel
theorem dX6_isVain_20 : decode cX6_isVain 20 = .ok (.goto 4, 3) := by decide +kernel
theorem dX6_isVain_23 : decode cX6_isVain 23 = .ok (.iconst 0, 1) := by decide +kernel
theorem dX6_isVain_24 : decode cX6_isVain 24 = .ok (.ireturn, 1) := by decide +kernel
theorem dX6_weigh_0 : decode cX6_weigh 0 = .ok (.aload_n 0, 1) := by decide +kernel
theorem dX6_weigh_1 : decode cX6_weigh 1 = .ok (.getfield 23, 3) := by decide +kernel
theorem dX6_weigh_4 : decode cX6_weigh 4 = .ok (.iload_n 1, 1) := by decide +kernel
theorem dX6_weigh_5 : decode cX6_weigh 5 = .ok (.iaload, 1) := by decide +kernel
theorem dX6_weigh_6 : decode cX6_weigh 6 = .ok (.i2l, 1) := by decide +kernel
theorem dX6_weigh_7 : decode cX6_weigh 7 = .ok (.aload_n 0, 1) := by decide +kernel
theorem dX6_weigh_8 : decode cX6_weigh 8 = .ok (.getfield 23, 3) := by decide +kernel
theorem dX6_weigh_11 : decode cX6_weigh 11 = .ok (.iload_n 1, 1) := by decide +kernel
theorem dX6_weigh_12 : decode cX6_weigh 12 = .ok (.iaload, 1) := by decide +kernel
theorem dX6_weigh_13 : decode cX6_weigh 13 = .ok (.i2l, 1) := by decide +kernel
theorem dX6_weigh_14 : decode cX6_weigh 14 = .ok (.lmul, 1) := by decide +kernel
theorem dX6_weigh_15 : decode cX6_weigh 15 = .ok (.iload_n 3, 1) := by decide +kernel
theorem dX6_weigh_16 : decode cX6_weigh 16 = .ok (.i2l, 1) := by decide +kernel
theorem dX6_weigh_17 : decode cX6_weigh 17 = .ok (.lmul, 1) := by decide +kernel
theorem dX6_weigh_18 : decode cX6_weigh 18 = .ok (.lstore 4, 2) := by decide +kernel
theorem dX6_weigh_20 : decode cX6_weigh 20 = .ok (.aload_n 0, 1) := by decide +kernel
theorem dX6_weigh_21 : decode cX6_weigh 21 = .ok (.getfield 19, 3) := by decide +kernel
theorem dX6_weigh_24 : decode cX6_weigh 24 = .ok (.iload_n 1, 1) := by decide +kernel
theorem dX6_weigh_25 : decode cX6_weigh 25 = .ok (.aaload, 1) := by decide +kernel
theorem dX6_weigh_26 : decode cX6_weigh 26 = .ok (.iload_n 2, 1) := by decide +kernel
theorem dX6_weigh_27 : decode cX6_weigh 27 = .ok (.lload 4, 2) := by decide +kernel
theorem dX6_weigh_29 : decode cX6_weigh 29 = .ok (.aload_n 0, 1) := by decide +kernel
theorem dX6_weigh_30 : decode cX6_weigh 30 = .ok (.getfield 47, 3) := by decide +kernel
theorem dX6_weigh_33 : decode cX6_weigh 33 = .ok (.invokevirtual 113, 3) := by decide +kernel
theorem dX6_weigh_36 : decode cX6_weigh 36 = .ok (.aload_n 0, 1) := by decide +kernel
theorem dX6_weigh_37 : decode cX6_weigh 37 = .ok (.getfield 36, 3) := by decide +kernel
theorem dX6_weigh_40 : decode cX6_weigh 40 = .ok (.iconst (-1), 1) := by decide +kernel
theorem dX6_weigh_41 : decode cX6_weigh 41 = .ok (.if_icmp .ne 7, 3) := by decide +kernel
theorem dX6_weigh_44 : decode cX6_weigh 44 = .ok (.iconst 1, 1) := by decide +kernel
theorem dX6_weigh_45 : decode cX6_weigh 45 = .ok (.goto 14, 3) := by decide +kernel
theorem dX6_weigh_48 : decode cX6_weigh 48 = .ok (.aload_n 0, 1) := by decide +kernel
theorem dX6_weigh_49 : decode cX6_weigh 49 = .ok (.getfield 47, 3) := by decide +kernel
theorem dX6_weigh_52 : decode cX6_weigh 52 = .ok (.aload_n 0, 1) := by decide +kernel
theorem dX6_weigh_53 : decode cX6_weigh 53 = .ok (.getfield 43, 3) := by decide +kernel
theorem dX6_weigh_56 : decode cX6_weigh 56 = .ok (.invokevirtual 117, 3) := by decide +kernel
theorem dX6_weigh_59 : decode cX6_weigh 59 = .ok (.istore 6, 2) := by decide +kernel
theorem dX6_weigh_61 : decode cX6_weigh 61 = .ok (.iload 6, 2) := by decide +kernel
theorem dX6_weigh_63 : decode cX6_weigh 63 = .ok (.ifCond .gt 16, 3) := by decide +kernel
theorem dX6_weigh_66 : decode cX6_weigh 66 = .ok (.iload 6, 2) := by decide +kernel
theorem dX6_weigh_68 : decode cX6_weigh 68 = .ok (.ifCond .ne 56, 3) := by decide +kernel
theorem dX6_weigh_71 : decode cX6_weigh 71 = .ok (.iload_n 1, 1) := by decide +kernel
theorem dX6_weigh_72 : decode cX6_weigh 72 = .ok (.aload_n 0, 1) := by decide +kernel
theorem dX6_weigh_73 : decode cX6_weigh 73 = .ok (.getfield 36, 3) := by decide +kernel
theorem dX6_weigh_76 : decode cX6_weigh 76 = .ok (.if_icmp .ge 48, 3) := by decide +kernel
theorem dX6_weigh_79 : decode cX6_weigh 79 = .ok (.aload_n 0, 1) := by decide +kernel
theorem dX6_weigh_80 : decode cX6_weigh 80 = .ok (.getfield 43, 3) := by decide +kernel
theorem dX6_weigh_83 : decode cX6_weigh 83 = .ok (.aload_n 0, 1) := by decide +kernel
theorem dX6_weigh_84 : decode cX6_weigh 84 = .ok (.getfield 47, 3) := by decide +kernel
theorem dX6_weigh_87 : decode cX6_weigh 87 = .ok (.invokevirtual 121, 3) := by decide +kernel
theorem dX6_weigh_90 : decode cX6_weigh 90 = .ok (.aload_n 0, 1) := by decide +kernel
theorem dX6_weigh_91 : decode cX6_weigh 91 = .ok (.iload_n 1, 1) := by decide +kernel
theorem dX6_weigh_92 : decode cX6_weigh 92 = .ok (.putfield 36, 3) := by decide +kernel
theorem dX6_weigh_95 : decode cX6_weigh 95 = .ok (.iconst 0, 1) := by decide +kernel
theorem dX6_weigh_96 : decode cX6_weigh 96 = .ok (.istore 7, 2) := by decide +kernel
theorem dX6_weigh_98 : decode cX6_weigh 98 = .ok (.iload 7, 2) := by decide +kernel
theorem dX6_weigh_100 : decode cX6_weigh 100 = .ok (.iload_n 1, 1) := by decide +kernel
theorem dX6_weigh_101 : decode cX6_weigh 101 = .ok (.if_icmp .ge 23, 3) := by decide +kernel
theorem dX6_weigh_104 : decode cX6_weigh 104 = .ok (.aload_n 0, 1) := by decide +kernel
theorem dX6_weigh_105 : decode cX6_weigh 105 = .ok (.getfield 33, 3) := by decide +kernel
theorem dX6_weigh_108 : decode cX6_weigh 108 = .ok (.iload 7, 2) := by decide +kernel
theorem dX6_weigh_110 : decode cX6_weigh 110 = .ok (.aload_n 0, 1) := by decide +kernel
theorem dX6_weigh_111 : decode cX6_weigh 111 = .ok (.getfield 27, 3) := by decide +kernel
theorem dX6_weigh_114 : decode cX6_weigh 114 = .ok (.iload 7, 2) := by decide +kernel
theorem dX6_weigh_116 : decode cX6_weigh 116 = .ok (.iaload, 1) := by decide +kernel
theorem dX6_weigh_117 : decode cX6_weigh 117 = .ok (.iastore, 1) := by decide +kernel
theorem dX6_weigh_118 : decode cX6_weigh 118 = .ok (.iinc 7 1, 3) := by decide +kernel
theorem dX6_weigh_121 : decode cX6_weigh 121 = .ok (.goto (-23), 3) := by decide +kernel
theorem dX6_weigh_124 : decode cX6_weigh 124 = .ok (.return_, 1) := by decide +kernel
theorem dX7_init_0 : decode cX7_init 0 = .ok (.aload_n 0, 1) := by decide +kernel
theorem dX7_init_1 : decode cX7_init 1 = .ok (.invokespecial 3, 3) := by decide +kernel
theorem dX7_init_4 : decode cX7_init 4 = .ok (.aload_n 0, 1) := by decide +kernel
theorem dX7_init_5 : decode cX7_init 5 = .ok (.new 9, 3) := by decide +kernel
theorem dX7_init_8 : decode cX7_init 8 = .ok (.dup, 1) := by decide +kernel
theorem dX7_init_9 : decode cX7_init 9 = .ok (.bipush 16, 2) := by decide +kernel
theorem dX7_init_11 : decode cX7_init 11 = .ok (.invokespecial 11, 3) := by decide +kernel
theorem dX7_init_14 : decode cX7_init 14 = .ok (.putfield 14, 3) := by decide +kernel
theorem dX7_init_17 : decode cX7_init 17 = .ok (.aload_n 0, 1) := by decide +kernel
theorem dX7_init_18 : decode cX7_init 18 = .ok (.aload_n 1, 1) := by decide +kernel
theorem dX7_init_19 : decode cX7_init 19 = .ok (.putfield 20, 3) := by decide +kernel
theorem dX7_init_22 : decode cX7_init 22 = .ok (.return_, 1) := by decide +kernel
theorem dX7_readParts_0 : decode cX7_readParts 0 = .ok (.aload_n 0, 1) := by decide +kernel
theorem dX7_readParts_1 : decode cX7_readParts 1 = .ok (.invokevirtual 24, 3) := by decide +kernel
theorem dX7_readParts_4 : decode cX7_readParts 4 = .ok (.aload_n 0, 1) := by decide +kernel
theorem dX7_readParts_5 : decode cX7_readParts 5 = .ok (.invokevirtual 27, 3) := by decide +kernel
theorem dX7_readParts_8 : decode cX7_readParts 8 = .ok (.ifCond .eq 5, 3) := by decide +kernel
theorem dX7_readParts_11 : decode cX7_readParts 11 = .ok (.iconst (-1), 1) := by decide +kernel
theorem dX7_readParts_12 : decode cX7_readParts 12 = .ok (.ireturn, 1) := by decide +kernel
theorem dX7_readParts_13 : decode cX7_readParts 13 = .ok (.iconst 0, 1) := by decide +kernel
theorem dX7_readParts_14 : decode cX7_readParts 14 = .ok (.istore_n 1, 1) := by decide +kernel
theorem dX7_readParts_15 : decode cX7_readParts 15 = .ok (.iload_n 1, 1) := by decide +kernel
theorem dX7_readParts_16 : decode cX7_readParts 16 = .ok (.bipush 16, 2) := by decide +kernel
theorem dX7_readParts_18 : decode cX7_readParts 18 = .ok (.if_icmp .ge 44, 3) := by decide +kernel
theorem dX7_readParts_21 : decode cX7_readParts 21 = .ok (.aload_n 0, 1) := by decide +kernel
theorem dX7_readParts_22 : decode cX7_readParts 22 = .ok (.invokevirtual 31, 3) := by decide +kernel
theorem dX7_readParts_25 : decode cX7_readParts 25 = .ok (.ifCond .ne 8, 3) := by decide +kernel
theorem dX7_readParts_28 : decode cX7_readParts 28 = .ok (.aload_n 0, 1) := by decide +kernel
theorem dX7_readParts_29 : decode cX7_readParts 29 = .ok (.getfield 34, 3) := by decide +kernel
theorem dX7_readParts_32 : decode cX7_readParts 32 = .ok (.ireturn, 1) := by decide +kernel
theorem dX7_readParts_33 : decode cX7_readParts 33 = .ok (.aload_n 0, 1) := by decide +kernel
theorem dX7_readParts_34 : decode cX7_readParts 34 = .ok (.invokevirtual 27, 3) := by decide +kernel
theorem dX7_readParts_37 : decode cX7_readParts 37 = .ok (.ifCond .eq 5, 3) := by decide +kernel
theorem dX7_readParts_40 : decode cX7_readParts 40 = .ok (.iconst (-1), 1) := by decide +kernel
theorem dX7_readParts_41 : decode cX7_readParts 41 = .ok (.ireturn, 1) := by decide +kernel
theorem dX7_readParts_42 : decode cX7_readParts 42 = .ok (.aload_n 0, 1) := by decide +kernel
theorem dX7_readParts_43 : decode cX7_readParts 43 = .ok (.ldc 38, 2) := by decide +kernel
theorem dX7_readParts_45 : decode cX7_readParts 45 = .ok (.invokevirtual 40, 3) := by decide +kernel
theorem dX7_readParts_48 : decode cX7_readParts 48 = .ok (.ifCond .ne 8, 3) := by decide +kernel
theorem dX7_readParts_51 : decode cX7_readParts 51 = .ok (.aload_n 0, 1) := by decide +kernel
theorem dX7_readParts_52 : decode cX7_readParts 52 = .ok (.getfield 34, 3) := by decide +kernel
theorem dX7_readParts_55 : decode cX7_readParts 55 = .ok (.ireturn, 1) := by decide +kernel
theorem dX7_readParts_56 : decode cX7_readParts 56 = .ok (.iinc 1 1, 3) := by decide +kernel
theorem dX7_readParts_59 : decode cX7_readParts 59 = .ok (.goto (-44), 3) := by decide +kernel
theorem dX7_readParts_62 : decode cX7_readParts 62 = .ok (.aload_n 0, 1) := by decide +kernel
theorem dX7_readParts_63 : decode cX7_readParts 63 = .ok (.getfield 34, 3) := by decide +kernel
theorem dX7_readParts_66 : decode cX7_readParts 66 = .ok (.ireturn, 1) := by decide +kernel
theorem dX7_readDeedAlone_0 : decode cX7_readDeedAlone 0 = .ok (.aload_n 0, 1) := by decide +kernel
theorem dX7_readDeedAlone_1 : decode cX7_readDeedAlone 1 = .ok (.invokevirtual 24, 3) := by decide +kernel
theorem dX7_readDeedAlone_4 : decode cX7_readDeedAlone 4 = .ok (.aload_n 0, 1) := by decide +kernel
theorem dX7_readDeedAlone_5 : decode cX7_readDeedAlone 5 = .ok (.getfield 14, 3) := by decide +kernel
theorem dX7_readDeedAlone_8 : decode cX7_readDeedAlone 8 = .ok (.getfield 44, 3) := by decide +kernel
theorem dX7_readDeedAlone_11 : decode cX7_readDeedAlone 11 = .ok (.iconst 0, 1) := by decide +kernel
theorem dX7_readDeedAlone_12 : decode cX7_readDeedAlone 12 = .ok (.aaload, 1) := by decide +kernel
theorem dX7_readDeedAlone_13 : decode cX7_readDeedAlone 13 = .ok (.astore_n 1, 1) := by decide +kernel
theorem dX7_readDeedAlone_14 : decode cX7_readDeedAlone 14 = .ok (.aload_n 1, 1) := by decide +kernel
theorem dX7_readDeedAlone_15 : decode cX7_readDeedAlone 15 = .ok (.invokevirtual 48, 3) := by decide +kernel
theorem dX7_readDeedAlone_18 : decode cX7_readDeedAlone 18 = .ok (.aload_n 0, 1) := by decide +kernel
theorem dX7_readDeedAlone_19 : decode cX7_readDeedAlone 19 = .ok (.aload_n 1, 1) := by decide +kernel
theorem dX7_readDeedAlone_20 : decode cX7_readDeedAlone 20 = .ok (.invokevirtual 53, 3) := by decide +kernel
theorem dX7_readDeedAlone_23 : decode cX7_readDeedAlone 23 = .ok (.ifCond .eq 14, 3) := by decide +kernel
theorem dX7_readDeedAlone_26 : decode cX7_readDeedAlone 26 = .ok (.aload_n 0, 1) := by decide +kernel
theorem dX7_readDeedAlone_27 : decode cX7_readDeedAlone 27 = .ok (.invokevirtual 27, 3) := by decide +kernel
theorem dX7_readDeedAlone_30 : decode cX7_readDeedAlone 30 = .ok (.ifCond .eq 7, 3) := by decide +kernel
theorem dX7_readDeedAlone_33 : decode cX7_readDeedAlone 33 = .ok (.iconst (-1), 1) := by decide +kernel
theorem dX7_readDeedAlone_34 : decode cX7_readDeedAlone 34 = .ok (.goto 7, 3) := by decide +kernel
theorem dX7_readDeedAlone_37 : decode cX7_readDeedAlone 37 = .ok (.aload_n 0, 1) := by decide +kernel
theorem dX7_readDeedAlone_38 : decode cX7_readDeedAlone 38 = .ok (.getfield 34, 3) := by decide +kernel
theorem dX7_readDeedAlone_41 : decode cX7_readDeedAlone 41 = .ok (.ireturn, 1) := by decide +kernel
theorem dX7_restart_0 : decode cX7_restart 0 = .ok (.aload_n 0, 1) := by decide +kernel
theorem dX7_restart_1 : decode cX7_restart 1 = .ok (.getfield 14, 3) := by decide +kernel
theorem dX7_restart_4 : decode cX7_restart 4 = .ok (.iconst 0, 1) := by decide +kernel
theorem dX7_restart_5 : decode cX7_restart 5 = .ok (.putfield 57, 3) := by decide +kernel
theorem dX7_restart_8 : decode cX7_restart 8 = .ok (.aload_n 0, 1) := by decide +kernel
theorem dX7_restart_9 : decode cX7_restart 9 = .ok (.iconst 0, 1) := by decide +kernel
theorem dX7_restart_10 : decode cX7_restart 10 = .ok (.putfield 60, 3) := by decide +kernel
theorem dX7_restart_13 : decode cX7_restart 13 = .ok (.aload_n 0, 1) := by decide +kernel
theorem dX7_restart_14 : decode cX7_restart 14 = .ok (.iconst 0, 1) := by decide +kernel
theorem dX7_restart_15 : decode cX7_restart 15 = .ok (.putfield 63, 3) := by decide +kernel
theorem dX7_restart_18 : decode cX7_restart 18 = .ok (.aload_n 0, 1) := by decide +kernel
theorem dX7_restart_19 : decode cX7_restart 19 = .ok (.iconst 0, 1) := by decide +kernel
theorem dX7_restart_20 : decode cX7_restart 20 = .ok (.putfield 66, 3) := by decide +kernel
theorem dX7_restart_23 : decode cX7_restart 23 = .ok (.aload_n 0, 1) := by decide +kernel
theorem dX7_restart_24 : decode cX7_restart 24 = .ok (.invokevirtual 69, 3) := by decide +kernel
theorem dX7_restart_27 : decode cX7_restart 27 = .ok (.return_, 1) := by decide +kernel
theorem dX7_readPart_0 : decode cX7_readPart 0 = .ok (.aload_n 0, 1) := by decide +kernel
theorem dX7_readPart_1 : decode cX7_readPart 1 = .ok (.getfield 14, 3) := by decide +kernel
theorem dX7_readPart_4 : decode cX7_readPart 4 = .ok (.getfield 57, 3) := by decide +kernel
theorem dX7_readPart_7 : decode cX7_readPart 7 = .ok (.bipush 16, 2) := by decide +kernel
theorem dX7_readPart_9 : decode cX7_readPart 9 = .ok (.if_icmp .lt 5, 3) := by decide +kernel
theorem dX7_readPart_12 : decode cX7_readPart 12 = .ok (.iconst 0, 1) := by decide +kernel
theorem dX7_readPart_13 : decode cX7_readPart 13 = .ok (.ireturn, 1) := by decide +kernel
theorem dX7_readPart_14 : decode cX7_readPart 14 = .ok (.aload_n 0, 1) := by decide +kernel
theorem dX7_readPart_15 : decode cX7_readPart 15 = .ok (.getfield 14, 3) := by decide +kernel
theorem dX7_readPart_18 : decode cX7_readPart 18 = .ok (.getfield 44, 3) := by decide +kernel
theorem dX7_readPart_21 : decode cX7_readPart 21 = .ok (.aload_n 0, 1) := by decide +kernel
theorem dX7_readPart_22 : decode cX7_readPart 22 = .ok (.getfield 14, 3) := by decide +kernel
theorem dX7_readPart_25 : decode cX7_readPart 25 = .ok (.getfield 57, 3) := by decide +kernel
theorem dX7_readPart_28 : decode cX7_readPart 28 = .ok (.aaload, 1) := by decide +kernel
theorem dX7_readPart_29 : decode cX7_readPart 29 = .ok (.astore_n 1, 1) := by decide +kernel
theorem dX7_readPart_30 : decode cX7_readPart 30 = .ok (.aload_n 1, 1) := by decide +kernel
theorem dX7_readPart_31 : decode cX7_readPart 31 = .ok (.invokevirtual 48, 3) := by decide +kernel
theorem dX7_readPart_34 : decode cX7_readPart 34 = .ok (.aload_n 0, 1) := by decide +kernel
theorem dX7_readPart_35 : decode cX7_readPart 35 = .ok (.ldc 72, 2) := by decide +kernel
theorem dX7_readPart_37 : decode cX7_readPart 37 = .ok (.invokevirtual 40, 3) := by decide +kernel
theorem dX7_readPart_40 : decode cX7_readPart 40 = .ok (.ifCond .eq 28, 3) := by decide +kernel
theorem dX7_readPart_43 : decode cX7_readPart 43 = .ok (.aload_n 0, 1) := by decide +kernel
theorem dX7_readPart_44 : decode cX7_readPart 44 = .ok (.aload_n 1, 1) := by decide +kernel
theorem dX7_readPart_45 : decode cX7_readPart 45 = .ok (.invokevirtual 74, 3) := by decide +kernel
theorem dX7_readPart_48 : decode cX7_readPart 48 = .ok (.ifCond .eq 15, 3) := by decide +kernel
theorem dX7_readPart_51 : decode cX7_readPart 51 = .ok (.aload_n 0, 1) := by decide +kernel
theorem dX7_readPart_52 : decode cX7_readPart 52 = .ok (.aload_n 1, 1) := by decide +kernel
theorem dX7_readPart_53 : decode cX7_readPart 53 = .ok (.invokevirtual 53, 3) := by decide +kernel
theorem dX7_readPart_56 : decode cX7_readPart 56 = .ok (.ifCond .eq 7, 3) := by decide +kernel
theorem dX7_readPart_59 : decode cX7_readPart 59 = .ok (.iconst 1, 1) := by decide +kernel
theorem dX7_readPart_60 : decode cX7_readPart 60 = .ok (.goto 4, 3) := by decide +kernel
theorem dX7_readPart_63 : decode cX7_readPart 63 = .ok (.iconst 0, 1) := by decide +kernel
theorem dX7_readPart_64 : decode cX7_readPart 64 = .ok (.istore_n 2, 1) := by decide +kernel
theorem dX7_readPart_65 : decode cX7_readPart 65 = .ok (.goto 45, 3) := by decide +kernel
theorem dX7_readPart_68 : decode cX7_readPart 68 = .ok (.aload_n 0, 1) := by decide +kernel
theorem dX7_readPart_69 : decode cX7_readPart 69 = .ok (.ldc 77, 2) := by decide +kernel
theorem dX7_readPart_71 : decode cX7_readPart 71 = .ok (.invokevirtual 79, 3) := by decide +kernel
theorem dX7_readPart_74 : decode cX7_readPart 74 = .ok (.ifCond .eq 12, 3) := by decide +kernel
theorem dX7_readPart_77 : decode cX7_readPart 77 = .ok (.aload_n 0, 1) := by decide +kernel
theorem dX7_readPart_78 : decode cX7_readPart 78 = .ok (.aload_n 1, 1) := by decide +kernel
theorem dX7_readPart_79 : decode cX7_readPart 79 = .ok (.invokevirtual 82, 3) := by decide +kernel
theorem dX7_readPart_82 : decode cX7_readPart 82 = .ok (.istore_n 2, 1) := by decide +kernel
theorem dX7_readPart_83 : decode cX7_readPart 83 = .ok (.goto 27, 3) := by decide +kernel
theorem dX7_readPart_86 : decode cX7_readPart 86 = .ok (.aload_n 0, 1) := by decide +kernel
theorem dX7_readPart_87 : decode cX7_readPart 87 = .ok (.ldc 85, 2) := by decide +kernel
theorem dX7_readPart_89 : decode cX7_readPart 89 = .ok (.invokevirtual 40, 3) := by decide +kernel
theorem dX7_readPart_92 : decode cX7_readPart 92 = .ok (.ifCond .eq 12, 3) := by decide +kernel
theorem dX7_readPart_95 : decode cX7_readPart 95 = .ok (.aload_n 0, 1) := by decide +kernel
theorem dX7_readPart_96 : decode cX7_readPart 96 = .ok (.aload_n 1, 1) := by decide +kernel
theorem dX7_readPart_97 : decode cX7_readPart 97 = .ok (.invokevirtual 87, 3) := by decide +kernel
theorem dX7_readPart_100 : decode cX7_readPart 100 = .ok (.istore_n 2, 1) := by decide +kernel
theorem dX7_readPart_101 : decode cX7_readPart 101 = .ok (.goto 9, 3) := by decide +kernel
theorem dX7_readPart_104 : decode cX7_readPart 104 = .ok (.aload_n 0, 1) := by decide +kernel
theorem dX7_readPart_105 : decode cX7_readPart 105 = .ok (.aload_n 1, 1) := by decide +kernel
theorem dX7_readPart_106 : decode cX7_readPart 106 = .ok (.invokevirtual 53, 3) := by decide +kernel
theorem dX7_readPart_109 : decode cX7_readPart 109 = .ok (.istore_n 2, 1) := by decide +kernel
theorem dX7_readPart_110 : decode cX7_readPart 110 = .ok (.aload_n 0, 1) := by decide +kernel
theorem dX7_readPart_111 : decode cX7_readPart 111 = .ok (.getfield 14, 3) := by decide +kernel
theorem dX7_readPart_114 : decode cX7_readPart 114 = .ok (.dup, 1) := by decide +kernel
