theorem dX11_next_125 : decode cX11_next 125 = .ok (.aload_n 0, 1) := by decide +kernel
theorem dX11_next_126 : decode cX11_next 126 = .ok (.getfield 121, 3) := by decide +kernel
theorem dX11_next_129 : decode cX11_next 129 = .ok (.bipush 48, 2) := by decide +kernel
theorem dX11_next_131 : decode cX11_next 131 = .ok (.bipush 57, 2) := by decide +kernel
theorem dX11_next_133 : decode cX11_next 133 = .ok (.invokevirtual 127, 3) := by decide +kernel
theorem dX11_next_136 : decode cX11_next 136 = .ok (.ifCond .eq 26, 3) := by decide +kernel
theorem dX11_next_139 : decode cX11_next 139 = .ok (.aload_n 0, 1) := by decide +kernel
theorem dX11_next_140 : decode cX11_next 140 = .ok (.dup, 1) := by decide +kernel
theorem dX11_next_141 : decode cX11_next 141 = .ok (.getfield 121, 3) := by decide +kernel
theorem dX11_next_144 : decode cX11_next 144 = .ok (.iconst 1, 1) := by decide +kernel
theorem dX11_next_145 : decode cX11_next 145 = .ok (.iadd, 1) := by decide +kernel
theorem dX11_next_146 : decode cX11_next 146 = .ok (.putfield 121, 3) := by decide +kernel
theorem dX11_next_149 : decode cX11_next 149 = .ok (.goto (-25), 3) := by decide +kernel
theorem dX11_next_152 : decode cX11_next 152 = .ok (.aload_n 0, 1) := by decide +kernel
theorem dX11_next_153 : decode cX11_next 153 = .ok (.dup, 1) := by decide +kernel
theorem dX11_next_154 : decode cX11_next 154 = .ok (.getfield 121, 3) := by decide +kernel
theorem dX11_next_157 : decode cX11_next 157 = .ok (.iconst 1, 1) := by decide +kernel
theorem dX11_next_158 : decode cX11_next 158 = .ok (.iadd, 1) := by decide +kernel
theorem dX11_next_159 : decode cX11_next 159 = .ok (.putfield 121, 3) := by decide +kernel
theorem dX11_next_162 : decode cX11_next 162 = .ok (.return_, 1) := by decide +kernel
theorem dX11_begins_0 : decode cX11_begins 0 = .ok (.aload_n 0, 1) := by decide +kernel
theorem dX11_begins_1 : decode cX11_begins 1 = .ok (.aload_n 0, 1) := by decide +kernel
theorem dX11_begins_2 : decode cX11_begins 2 = .ok (.getfield 115, 3) := by decide +kernel
theorem dX11_begins_5 : decode cX11_begins 5 = .ok (.putfield 118, 3) := by decide +kernel
theorem dX11_begins_8 : decode cX11_begins 8 = .ok (.aload_n 0, 1) := by decide +kernel
theorem dX11_begins_9 : decode cX11_begins 9 = .ok (.iconst 0, 1) := by decide +kernel
theorem dX11_begins_10 : decode cX11_begins 10 = .ok (.putfield 115, 3) := by decide +kernel
theorem dX11_begins_13 : decode cX11_begins 13 = .ok (.iconst 0, 1) := by decide +kernel
theorem dX11_begins_14 : decode cX11_begins 14 = .ok (.istore_n 1, 1) := by decide +kernel
theorem dX11_begins_15 : decode cX11_begins 15 = .ok (.iload_n 1, 1) := by decide +kernel
theorem dX11_begins_16 : decode cX11_begins 16 = .ok (.aload_n 0, 1) := by decide +kernel
theorem dX11_begins_17 : decode cX11_begins 17 = .ok (.getfield 118, 3) := by decide +kernel
theorem dX11_begins_20 : decode cX11_begins 20 = .ok (.if_icmp .ge 21, 3) := by decide +kernel
theorem dX11_begins_23 : decode cX11_begins 23 = .ok (.aload_n 0, 1) := by decide +kernel
theorem dX11_begins_24 : decode cX11_begins 24 = .ok (.getfield 33, 3) := by decide +kernel
theorem dX11_begins_27 : decode cX11_begins 27 = .ok (.iload_n 1, 1) := by decide +kernel
theorem dX11_begins_28 : decode cX11_begins 28 = .ok (.aload_n 0, 1) := by decide +kernel
theorem dX11_begins_29 : decode cX11_begins 29 = .ok (.getfield 29, 3) := by decide +kernel
theorem dX11_begins_32 : decode cX11_begins 32 = .ok (.iload_n 1, 1) := by decide +kernel
theorem dX11_begins_33 : decode cX11_begins 33 = .ok (.baload, 1) := by decide +kernel
theorem dX11_begins_34 : decode cX11_begins 34 = .ok (.bastore, 1) := by decide +kernel
theorem dX11_begins_35 : decode cX11_begins 35 = .ok (.iinc 1 1, 3) := by decide +kernel
theorem dX11_begins_38 : decode cX11_begins 38 = .ok (.goto (-23), 3) := by decide +kernel
theorem dX11_begins_41 : decode cX11_begins 41 = .ok (.aload_n 0, 1) := by decide +kernel
theorem dX11_begins_42 : decode cX11_begins 42 = .ok (.iconst 0, 1) := by decide +kernel
theorem dX11_begins_43 : decode cX11_begins 43 = .ok (.putfield 121, 3) := by decide +kernel
theorem dX11_begins_46 : decode cX11_begins 46 = .ok (.aload_n 0, 1) := by decide +kernel
theorem dX11_begins_47 : decode cX11_begins 47 = .ok (.iconst (-1), 1) := by decide +kernel
theorem dX11_begins_48 : decode cX11_begins 48 = .ok (.putfield 130, 3) := by decide +kernel
theorem dX11_begins_51 : decode cX11_begins 51 = .ok (.aload_n 0, 1) := by decide +kernel
theorem dX11_begins_52 : decode cX11_begins 52 = .ok (.iconst 0, 1) := by decide +kernel
theorem dX11_begins_53 : decode cX11_begins 53 = .ok (.putfield 133, 3) := by decide +kernel
theorem dX11_begins_56 : decode cX11_begins 56 = .ok (.aload_n 0, 1) := by decide +kernel
theorem dX11_begins_57 : decode cX11_begins 57 = .ok (.iconst 0, 1) := by decide +kernel
theorem dX11_begins_58 : decode cX11_begins 58 = .ok (.putfield 136, 3) := by decide +kernel
theorem dX11_begins_61 : decode cX11_begins 61 = .ok (.iconst 0, 1) := by decide +kernel
theorem dX11_begins_62 : decode cX11_begins 62 = .ok (.istore_n 1, 1) := by decide +kernel
theorem dX11_begins_63 : decode cX11_begins 63 = .ok (.iload_n 1, 1) := by decide +kernel
theorem dX11_begins_64 : decode cX11_begins 64 = .ok (.iconst 5, 1) := by decide +kernel
theorem dX11_begins_65 : decode cX11_begins 65 = .ok (.if_icmp .ge 16, 3) := by decide +kernel
theorem dX11_begins_68 : decode cX11_begins 68 = .ok (.aload_n 0, 1) := by decide +kernel
theorem dX11_begins_69 : decode cX11_begins 69 = .ok (.getfield 25, 3) := by decide +kernel
theorem dX11_begins_72 : decode cX11_begins 72 = .ok (.iload_n 1, 1) := by decide +kernel
theorem dX11_begins_73 : decode cX11_begins 73 = .ok (.iconst 0, 1) := by decide +kernel
theorem dX11_begins_74 : decode cX11_begins 74 = .ok (.bastore, 1) := by decide +kernel
theorem dX11_begins_75 : decode cX11_begins 75 = .ok (.iinc 1 1, 3) := by decide +kernel
theorem dX11_begins_78 : decode cX11_begins 78 = .ok (.goto (-15), 3) := by decide +kernel
theorem dX11_begins_81 : decode cX11_begins 81 = .ok (.aload_n 0, 1) := by decide +kernel
theorem dX11_begins_82 : decode cX11_begins 82 = .ok (.invokevirtual 139, 3) := by decide +kernel
theorem dX11_begins_85 : decode cX11_begins 85 = .ok (.return_, 1) := by decide +kernel
theorem dX11_isWord_0 : decode cX11_isWord 0 = .ok (.lload_n 1, 1) := by decide +kernel
theorem dX11_isWord_1 : decode cX11_isWord 1 = .ok (.lstore_n 3, 1) := by decide +kernel
theorem dX11_isWord_2 : decode cX11_isWord 2 = .ok (.aload_n 0, 1) := by decide +kernel
theorem dX11_isWord_3 : decode cX11_isWord 3 = .ok (.getfield 124, 3) := by decide +kernel
theorem dX11_isWord_6 : decode cX11_isWord 6 = .ok (.istore 5, 2) := by decide +kernel
theorem dX11_isWord_8 : decode cX11_isWord 8 = .ok (.lload_n 3, 1) := by decide +kernel
theorem dX11_isWord_9 : decode cX11_isWord 9 = .ok (.lconst 0, 1) := by decide +kernel
theorem dX11_isWord_10 : decode cX11_isWord 10 = .ok (.lcmp, 1) := by decide +kernel
theorem dX11_isWord_11 : decode cX11_isWord 11 = .ok (.ifCond .le 45, 3) := by decide +kernel
theorem dX11_isWord_14 : decode cX11_isWord 14 = .ok (.iload 5, 2) := by decide +kernel
theorem dX11_isWord_16 : decode cX11_isWord 16 = .ok (.aload_n 0, 1) := by decide +kernel
theorem dX11_isWord_17 : decode cX11_isWord 17 = .ok (.getfield 121, 3) := by decide +kernel
theorem dX11_isWord_20 : decode cX11_isWord 20 = .ok (.if_icmp .ge 24, 3) := by decide +kernel
theorem dX11_isWord_23 : decode cX11_isWord 23 = .ok (.aload_n 0, 1) := by decide +kernel
theorem dX11_isWord_24 : decode cX11_isWord 24 = .ok (.getfield 33, 3) := by decide +kernel
theorem dX11_isWord_27 : decode cX11_isWord 27 = .ok (.iload 5, 2) := by decide +kernel
theorem dX11_isWord_29 : decode cX11_isWord 29 = .ok (.baload, 1) := by decide +kernel
theorem dX11_isWord_30 : decode cX11_isWord 30 = .ok (.i2l, 1) := by decide +kernel
theorem dX11_isWord_31 : decode cX11_isWord 31 = .ok (.ldc2_w 142, 3) := by decide +kernel
theorem dX11_isWord_34 : decode cX11_isWord 34 = .ok (.lload_n 3, 1) := by decide +kernel
theorem dX11_isWord_35 : decode cX11_isWord 35 = .ok (.ldc2_w 144, 3) := by decide +kernel
theorem dX11_isWord_38 : decode cX11_isWord 38 = .ok (.land, 1) := by decide +kernel
theorem dX11_isWord_39 : decode cX11_isWord 39 = .ok (.ladd, 1) := by decide +kernel
theorem dX11_isWord_40 : decode cX11_isWord 40 = .ok (.lcmp, 1) := by decide +kernel
theorem dX11_isWord_41 : decode cX11_isWord 41 = .ok (.ifCond .eq 5, 3) := by decide +kernel
theorem dX11_isWord_44 : decode cX11_isWord 44 = .ok (.iconst 0, 1) := by decide +kernel
theorem dX11_isWord_45 : decode cX11_isWord 45 = .ok (.ireturn, 1) := by decide +kernel
theorem dX11_isWord_46 : decode cX11_isWord 46 = .ok (.lload_n 3, 1) := by decide +kernel
theorem dX11_isWord_47 : decode cX11_isWord 47 = .ok (.iconst 5, 1) := by decide +kernel
theorem dX11_isWord_48 : decode cX11_isWord 48 = .ok (.lshr, 1) := by decide +kernel
theorem dX11_isWord_49 : decode cX11_isWord 49 = .ok (.lstore_n 3, 1) := by decide +kernel
theorem dX11_isWord_50 : decode cX11_isWord 50 = .ok (.iinc 5 1, 3) := by decide +kernel
theorem dX11_isWord_53 : decode cX11_isWord 53 = .ok (.goto (-45), 3) := by decide +kernel
theorem dX11_isWord_56 : decode cX11_isWord 56 = .ok (.iload 5, 2) := by decide +kernel
theorem dX11_isWord_58 : decode cX11_isWord 58 = .ok (.aload_n 0, 1) := by decide +kernel
theorem dX11_isWord_59 : decode cX11_isWord 59 = .ok (.getfield 121, 3) := by decide +kernel
theorem dX11_isWord_62 : decode cX11_isWord 62 = .ok (.if_icmp .ne 7, 3) := by decide +kernel
theorem dX11_isWord_65 : decode cX11_isWord 65 = .ok (.iconst 1, 1) := by decide +kernel
theorem dX11_isWord_66 : decode cX11_isWord 66 = .ok (.goto 4, 3) := by decide +kernel
theorem dX11_isWord_69 : decode cX11_isWord 69 = .ok (.iconst 0, 1) := by decide +kernel
theorem dX11_isWord_70 : decode cX11_isWord 70 = .ok (.ireturn, 1) := by decide +kernel
theorem dX11_good_0 : decode cX11_good 0 = .ok (.aload_n 0, 1) := by decide +kernel
theorem dX11_good_1 : decode cX11_good 1 = .ok (.getfield 130, 3) := by decide +kernel
theorem dX11_good_4 : decode cX11_good 4 = .ok (.iconst (-1), 1) := by decide +kernel
theorem dX11_good_5 : decode cX11_good 5 = .ok (.if_icmp .ne 7, 3) := by decide +kernel
theorem dX11_good_8 : decode cX11_good 8 = .ok (.iconst 1, 1) := by decide +kernel
theorem dX11_good_9 : decode cX11_good 9 = .ok (.goto 4, 3) := by decide +kernel
theorem dX11_good_12 : decode cX11_good 12 = .ok (.iconst 0, 1) := by decide +kernel
theorem dX11_good_13 : decode cX11_good 13 = .ok (.ireturn, 1) := by decide +kernel
theorem dX11_faults_0 : decode cX11_faults 0 = .ok (.aload_n 0, 1) := by decide +kernel
theorem dX11_faults_1 : decode cX11_faults 1 = .ok (.invokevirtual 146, 3) := by decide +kernel
theorem dX11_faults_4 : decode cX11_faults 4 = .ok (.ifCond .eq 11, 3) := by decide +kernel
theorem dX11_faults_7 : decode cX11_faults 7 = .ok (.aload_n 0, 1) := by decide +kernel
theorem dX11_faults_8 : decode cX11_faults 8 = .ok (.aload_n 0, 1) := by decide +kernel
theorem dX11_faults_9 : decode cX11_faults 9 = .ok (.getfield 124, 3) := by decide +kernel
theorem dX11_faults_12 : decode cX11_faults 12 = .ok (.putfield 130, 3) := by decide +kernel
theorem dX11_faults_15 : decode cX11_faults 15 = .ok (.return_, 1) := by decide +kernel
theorem dX11_takesWord_0 : decode cX11_takesWord 0 = .ok (.aload_n 0, 1) := by decide +kernel
theorem dX11_takesWord_1 : decode cX11_takesWord 1 = .ok (.invokevirtual 146, 3) := by decide +kernel
theorem dX11_takesWord_4 : decode cX11_takesWord 4 = .ok (.ifCond .eq 15, 3) := by decide +kernel
theorem dX11_takesWord_7 : decode cX11_takesWord 7 = .ok (.aload_n 0, 1) := by decide +kernel
theorem dX11_takesWord_8 : decode cX11_takesWord 8 = .ok (.lload_n 1, 1) := by decide +kernel
theorem dX11_takesWord_9 : decode cX11_takesWord 9 = .ok (.invokevirtual 150, 3) := by decide +kernel
theorem dX11_takesWord_12 : decode cX11_takesWord 12 = .ok (.ifCond .eq 7, 3) := by decide +kernel
theorem dX11_takesWord_15 : decode cX11_takesWord 15 = .ok (.iconst 1, 1) := by decide +kernel
theorem dX11_takesWord_16 : decode cX11_takesWord 16 = .ok (.goto 4, 3) := by decide +kernel
theorem dX11_takesWord_19 : decode cX11_takesWord 19 = .ok (.iconst 0, 1) := by decide +kernel
theorem dX11_takesWord_20 : decode cX11_takesWord 20 = .ok (.istore_n 3, 1) := by decide +kernel
theorem dX11_takesWord_21 : decode cX11_takesWord 21 = .ok (.iload_n 3, 1) := by decide +kernel
theorem dX11_takesWord_22 : decode cX11_takesWord 22 = .ok (.ifCond .eq 7, 3) := by decide +kernel
theorem dX11_takesWord_25 : decode cX11_takesWord 25 = .ok (.aload_n 0, 1) := by decide +kernel
theorem dX11_takesWord_26 : decode cX11_takesWord 26 = .ok (.invokevirtual 139, 3) := by decide +kernel
theorem dX11_takesWord_29 : decode cX11_takesWord 29 = .ok (.iload_n 3, 1) := by decide +kernel
theorem dX11_takesWord_30 : decode cX11_takesWord 30 = .ok (.ireturn, 1) := by decide +kernel
theorem dX11_takesSign_0 : decode cX11_takesSign 0 = .ok (.aload_n 0, 1) := by decide +kernel
theorem dX11_takesSign_1 : decode cX11_takesSign 1 = .ok (.invokevirtual 146, 3) := by decide +kernel
theorem dX11_takesSign_4 : decode cX11_takesSign 4 = .ok (.ifCond .eq 31, 3) := by decide +kernel
theorem dX11_takesSign_7 : decode cX11_takesSign 7 = .ok (.aload_n 0, 1) := by decide +kernel
theorem dX11_takesSign_8 : decode cX11_takesSign 8 = .ok (.getfield 124, 3) := by decide +kernel
theorem dX11_takesSign_11 : decode cX11_takesSign 11 = .ok (.aload_n 0, 1) := by decide +kernel
theorem dX11_takesSign_12 : decode cX11_takesSign 12 = .ok (.getfield 118, 3) := by decide +kernel
theorem dX11_takesSign_15 : decode cX11_takesSign 15 = .ok (.if_icmp .ge 20, 3) := by decide +kernel
theorem dX11_takesSign_18 : decode cX11_takesSign 18 = .ok (.aload_n 0, 1) := by decide +kernel
theorem dX11_takesSign_19 : decode cX11_takesSign 19 = .ok (.getfield 33, 3) := by decide +kernel
theorem dX11_takesSign_22 : decode cX11_takesSign 22 = .ok (.aload_n 0, 1) := by decide +kernel
theorem dX11_takesSign_23 : decode cX11_takesSign 23 = .ok (.getfield 124, 3) := by decide +kernel
theorem dX11_takesSign_26 : decode cX11_takesSign 26 = .ok (.baload, 1) := by decide +kernel
theorem dX11_takesSign_27 : decode cX11_takesSign 27 = .ok (.iload_n 1, 1) := by decide +kernel
theorem dX11_takesSign_28 : decode cX11_takesSign 28 = .ok (.if_icmp .ne 7, 3) := by decide +kernel
theorem dX11_takesSign_31 : decode cX11_takesSign 31 = .ok (.iconst 1, 1) := by decide +kernel
theorem dX11_takesSign_32 : decode cX11_takesSign 32 = .ok (.goto 4, 3) := by decide +kernel
theorem dX11_takesSign_35 : decode cX11_takesSign 35 = .ok (.iconst 0, 1) := by decide +kernel
theorem dX11_takesSign_36 : decode cX11_takesSign 36 = .ok (.istore_n 2, 1) := by decide +kernel
theorem dX11_takesSign_37 : decode cX11_takesSign 37 = .ok (.iload_n 2, 1) := by decide +kernel
theorem dX11_takesSign_38 : decode cX11_takesSign 38 = .ok (.ifCond .eq 7, 3) := by decide +kernel
theorem dX11_takesSign_41 : decode cX11_takesSign 41 = .ok (.aload_n 0, 1) := by decide +kernel
theorem dX11_takesSign_42 : decode cX11_takesSign 42 = .ok (.invokevirtual 139, 3) := by decide +kernel
theorem dX11_takesSign_45 : decode cX11_takesSign 45 = .ok (.iload_n 2, 1) := by decide +kernel
theorem dX11_takesSign_46 : decode cX11_takesSign 46 = .ok (.ireturn, 1) := by decide +kernel
theorem dX11_number_0 : decode cX11_number 0 = .ok (.aload_n 0, 1) := by decide +kernel
theorem dX11_number_1 : decode cX11_number 1 = .ok (.invokevirtual 146, 3) := by decide +kernel
theorem dX11_number_4 : decode cX11_number 4 = .ok (.ifCond .ne 5, 3) := by decide +kernel
theorem dX11_number_7 : decode cX11_number 7 = .ok (.iconst 0, 1) := by decide +kernel
theorem dX11_number_8 : decode cX11_number 8 = .ok (.ireturn, 1) := by decide +kernel
theorem dX11_number_9 : decode cX11_number 9 = .ok (.aload_n 0, 1) := by decide +kernel
theorem dX11_number_10 : decode cX11_number 10 = .ok (.aload_n 0, 1) := by decide +kernel
theorem dX11_number_11 : decode cX11_number 11 = .ok (.getfield 124, 3) := by decide +kernel
theorem dX11_number_14 : decode cX11_number 14 = .ok (.bipush 48, 2) := by decide +kernel
theorem dX11_number_16 : decode cX11_number 16 = .ok (.bipush 57, 2) := by decide +kernel
theorem dX11_number_18 : decode cX11_number 18 = .ok (.invokevirtual 127, 3) := by decide +kernel
theorem dX11_number_21 : decode cX11_number 21 = .ok (.ifCond .ne 9, 3) := by decide +kernel
theorem dX11_number_24 : decode cX11_number 24 = .ok (.aload_n 0, 1) := by decide +kernel
theorem dX11_number_25 : decode cX11_number 25 = .ok (.invokevirtual 154, 3) := by decide +kernel
theorem dX11_number_28 : decode cX11_number 28 = .ok (.iconst 0, 1) := by decide +kernel
theorem dX11_number_29 : decode cX11_number 29 = .ok (.ireturn, 1) := by decide +kernel
theorem dX11_number_30 : decode cX11_number 30 = .ok (.iconst 0, 1) := by decide +kernel
theorem dX11_number_31 : decode cX11_number 31 = .ok (.istore_n 2, 1) := by decide +kernel
theorem dX11_number_32 : decode cX11_number 32 = .ok (.aload_n 0, 1) := by decide +kernel
theorem dX11_number_33 : decode cX11_number 33 = .ok (.getfield 124, 3) := by decide +kernel
theorem dX11_number_36 : decode cX11_number 36 = .ok (.istore_n 3, 1) := by decide +kernel
theorem dX11_number_37 : decode cX11_number 37 = .ok (.iload_n 3, 1) := by decide +kernel
theorem dX11_number_38 : decode cX11_number 38 = .ok (.aload_n 0, 1) := by decide +kernel
theorem dX11_number_39 : decode cX11_number 39 = .ok (.getfield 121, 3) := by decide +kernel
theorem dX11_number_42 : decode cX11_number 42 = .ok (.if_icmp .ge 33, 3) := by decide +kernel
theorem dX11_number_45 : decode cX11_number 45 = .ok (.iload_n 2, 1) := by decide +kernel
theorem dX11_number_46 : decode cX11_number 46 = .ok (.iload_n 1, 1) := by decide +kernel
theorem dX11_number_47 : decode cX11_number 47 = .ok (.if_icmp .le 7, 3) := by decide +kernel
theorem dX11_number_50 : decode cX11_number 50 = .ok (.iload_n 2, 1) := by decide +kernel
theorem dX11_number_51 : decode cX11_number 51 = .ok (.goto 17, 3) := by decide +kernel
theorem dX11_number_54 : decode cX11_number 54 = .ok (.bipush 10, 2) := by decide +kernel
theorem dX11_number_56 : decode cX11_number 56 = .ok (.iload_n 2, 1) := by decide +kernel
theorem dX11_number_57 : decode cX11_number 57 = .ok (.imul, 1) := by decide +kernel
theorem dX11_number_58 : decode cX11_number 58 = .ok (.aload_n 0, 1) := by decide +kernel
theorem dX11_number_59 : decode cX11_number 59 = .ok (.getfield 33, 3) := by decide +kernel
theorem dX11_number_62 : decode cX11_number 62 = .ok (.iload_n 3, 1) := by decide +kernel
theorem dX11_number_63 : decode cX11_number 63 = .ok (.baload, 1) := by decide +kernel
theorem dX11_number_64 : decode cX11_number 64 = .ok (.iadd, 1) := by decide +kernel
theorem dX11_number_65 : decode cX11_number 65 = .ok (.bipush 48, 2) := by decide +kernel
theorem dX11_number_67 : decode cX11_number 67 = .ok (.isub, 1) := by decide +kernel
theorem dX11_number_68 : decode cX11_number 68 = .ok (.istore_n 2, 1) := by decide +kernel
theorem dX11_number_69 : decode cX11_number 69 = .ok (.iinc 3 1, 3) := by decide +kernel
theorem dX11_number_72 : decode cX11_number 72 = .ok (.goto (-35), 3) := by decide +kernel
theorem dX11_number_75 : decode cX11_number 75 = .ok (.iload_n 2, 1) := by decide +kernel
theorem dX11_number_76 : decode cX11_number 76 = .ok (.iload_n 1, 1) := by decide +kernel
theorem dX11_number_77 : decode cX11_number 77 = .ok (.if_icmp .le 9, 3) := by decide +kernel
theorem dX11_number_80 : decode cX11_number 80 = .ok (.aload_n 0, 1) := by decide +kernel
theorem dX11_number_81 : decode cX11_number 81 = .ok (.invokevirtual 154, 3) := by decide +kernel
theorem dX11_number_84 : decode cX11_number 84 = .ok (.iconst 0, 1) := by decide +kernel
theorem dX11_number_85 : decode cX11_number 85 = .ok (.ireturn, 1) := by decide +kernel
theorem dX11_number_86 : decode cX11_number 86 = .ok (.aload_n 0, 1) := by decide +kernel
theorem dX11_number_87 : decode cX11_number 87 = .ok (.invokevirtual 139, 3) := by decide +kernel
theorem dX11_number_90 : decode cX11_number 90 = .ok (.iload_n 2, 1) := by decide +kernel
theorem dX11_number_91 : decode cX11_number 91 = .ok (.ireturn, 1) := by decide +kernel
theorem dX11_path_0 : decode cX11_path 0 = .ok (.aload_n 0, 1) := by decide +kernel
theorem dX11_path_1 : decode cX11_path 1 = .ok (.invokevirtual 146, 3) := by decide +kernel
theorem dX11_path_4 : decode cX11_path 4 = .ok (.ifCond .ne 5, 3) := by decide +kernel
theorem dX11_path_7 : decode cX11_path 7 = .ok (.iconst 0, 1) := by decide +kernel
theorem dX11_path_8 : decode cX11_path 8 = .ok (.ireturn, 1) := by decide +kernel
theorem dX11_path_9 : decode cX11_path 9 = .ok (.aload_n 0, 1) := by decide +kernel
theorem dX11_path_10 : decode cX11_path 10 = .ok (.getfield 124, 3) := by decide +kernel
theorem dX11_path_13 : decode cX11_path 13 = .ok (.istore_n 3, 1) := by decide +kernel
theorem dX11_path_14 : decode cX11_path 14 = .ok (.aload_n 0, 1) := by decide +kernel
theorem dX11_path_15 : decode cX11_path 15 = .ok (.iconst 4, 1) := by decide +kernel
theorem dX11_path_16 : decode cX11_path 16 = .ok (.invokevirtual 157, 3) := by decide +kernel
theorem dX11_path_19 : decode cX11_path 19 = .ok (.istore 4, 2) := by decide +kernel
theorem dX11_path_21 : decode cX11_path 21 = .ok (.aload_n 0, 1) := by decide +kernel
theorem dX11_path_22 : decode cX11_path 22 = .ok (.invokevirtual 146, 3) := by decide +kernel
theorem dX11_path_25 : decode cX11_path 25 = .ok (.ifCond .eq 25, 3) := by decide +kernel
theorem dX11_path_28 : decode cX11_path 28 = .ok (.aload_n 0, 1) := by decide +kernel
theorem dX11_path_29 : decode cX11_path 29 = .ok (.getfield 25, 3) := by decide +kernel
theorem dX11_path_32 : decode cX11_path 32 = .ok (.iload 4, 2) := by decide +kernel
theorem dX11_path_34 : decode cX11_path 34 = .ok (.baload, 1) := by decide +kernel
theorem dX11_path_35 : decode cX11_path 35 = .ok (.iload_n 1, 1) := by decide +kernel
theorem dX11_path_36 : decode cX11_path 36 = .ok (.if_icmp .ne 9, 3) := by decide +kernel
theorem dX11_path_39 : decode cX11_path 39 = .ok (.iload 4, 2) := by decide +kernel
theorem dX11_path_41 : decode cX11_path 41 = .ok (.iload_n 2, 1) := by decide +kernel
theorem dX11_path_42 : decode cX11_path 42 = .ok (.if_icmp .ne 8, 3) := by decide +kernel
theorem dX11_path_45 : decode cX11_path 45 = .ok (.aload_n 0, 1) := by decide +kernel
theorem dX11_path_46 : decode cX11_path 46 = .ok (.iload_n 3, 1) := by decide +kernel
theorem dX11_path_47 : decode cX11_path 47 = .ok (.putfield 130, 3) := by decide +kernel
theorem dX11_path_50 : decode cX11_path 50 = .ok (.iload 4, 2) := by decide +kernel
theorem dX11_path_52 : decode cX11_path 52 = .ok (.ireturn, 1) := by decide +kernel
theorem dX11_kind_0 : decode cX11_kind 0 = .ok (.aload_n 0, 1) := by decide +kernel
theorem dX11_kind_1 : decode cX11_kind 1 = .ok (.ldc2_w 160, 3) := by decide +kernel
theorem dX11_kind_4 : decode cX11_kind 4 = .ok (.invokevirtual 162, 3) := by decide +kernel
theorem dX11_kind_7 : decode cX11_kind 7 = .ok (.ifCond .eq 5, 3) := by decide +kernel
theorem dX11_kind_10 : decode cX11_kind 10 = .ok (.iconst 0, 1) := by decide +kernel
theorem dX11_kind_11 : decode cX11_kind 11 = .ok (.ireturn, 1) := by decide +kernel
theorem dX11_kind_12 : decode cX11_kind 12 = .ok (.aload_n 0, 1) := by decide +kernel
theorem dX11_kind_13 : decode cX11_kind 13 = .ok (.ldc2_w 165, 3) := by decide +kernel
theorem dX11_kind_16 : decode cX11_kind 16 = .ok (.invokevirtual 162, 3) := by decide +kernel
theorem dX11_kind_19 : decode cX11_kind 19 = .ok (.ifCond .eq 5, 3) := by decide +kernel
theorem dX11_kind_22 : decode cX11_kind 22 = .ok (.iconst 1, 1) := by decide +kernel
theorem dX11_kind_23 : decode cX11_kind 23 = .ok (.ireturn, 1) := by decide +kernel
theorem dX11_kind_24 : decode cX11_kind 24 = .ok (.aload_n 0, 1) := by decide +kernel
theorem dX11_kind_25 : decode cX11_kind 25 = .ok (.ldc2_w 167, 3) := by decide +kernel
theorem dX11_kind_28 : decode cX11_kind 28 = .ok (.invokevirtual 162, 3) := by decide +kernel
theorem dX11_kind_31 : decode cX11_kind 31 = .ok (.ifCond .eq 5, 3) := by decide +kernel
theorem dX11_kind_34 : decode cX11_kind 34 = .ok (.iconst 2, 1) := by decide +kernel
theorem dX11_kind_35 : decode cX11_kind 35 = .ok (.ireturn, 1) := by decide +kernel
theorem dX11_kind_36 : decode cX11_kind 36 = .ok (.aload_n 0, 1) := by decide +kernel
theorem dX11_kind_37 : decode cX11_kind 37 = .ok (.invokevirtual 154, 3) := by decide +kernel
theorem dX11_kind_40 : decode cX11_kind 40 = .ok (.iconst 0, 1) := by decide +kernel
theorem dX11_kind_41 : decode cX11_kind 41 = .ok (.ireturn, 1) := by decide +kernel
theorem dX11_deed_0 : decode cX11_deed 0 = .ok (.aload_n 0, 1) := by decide +kernel
theorem dX11_deed_1 : decode cX11_deed 1 = .ok (.ldc2_w 169, 3) := by decide +kernel
theorem dX11_deed_4 : decode cX11_deed 4 = .ok (.invokevirtual 162, 3) := by decide +kernel
theorem dX11_deed_7 : decode cX11_deed 7 = .ok (.ifCond .eq 60, 3) := by decide +kernel
theorem dX11_deed_10 : decode cX11_deed 10 = .ok (.aload_n 0, 1) := by decide +kernel
theorem dX11_deed_11 : decode cX11_deed 11 = .ok (.getfield 22, 3) := by decide +kernel
theorem dX11_deed_14 : decode cX11_deed 14 = .ok (.iload_n 1, 1) := by decide +kernel
theorem dX11_deed_15 : decode cX11_deed 15 = .ok (.iconst 0, 1) := by decide +kernel
theorem dX11_deed_16 : decode cX11_deed 16 = .ok (.iastore, 1) := by decide +kernel
theorem dX11_deed_17 : decode cX11_deed 17 = .ok (.aload_n 0, 1) := by decide +kernel
theorem dX11_deed_18 : decode cX11_deed 18 = .ok (.getfield 22, 3) := by decide +kernel
theorem dX11_deed_21 : decode cX11_deed 21 = .ok (.iload_n 1, 1) := by decide +kernel
theorem dX11_deed_22 : decode cX11_deed 22 = .ok (.iconst 1, 1) := by decide +kernel
theorem dX11_deed_23 : decode cX11_deed 23 = .ok (.iadd, 1) := by decide +kernel
theorem dX11_deed_24 : decode cX11_deed 24 = .ok (.aload_n 0, 1) := by decide +kernel
theorem dX11_deed_25 : decode cX11_deed 25 = .ok (.iconst 0, 1) := by decide +kernel
theorem dX11_deed_26 : decode cX11_deed 26 = .ok (.iconst (-1), 1) := by decide +kernel
theorem dX11_deed_27 : decode cX11_deed 27 = .ok (.invokevirtual 171, 3) := by decide +kernel
theorem dX11_deed_30 : decode cX11_deed 30 = .ok (.iastore, 1) := by decide +kernel
theorem dX11_deed_31 : decode cX11_deed 31 = .ok (.aload_n 0, 1) := by decide +kernel
theorem dX11_deed_32 : decode cX11_deed 32 = .ok (.getfield 22, 3) := by decide +kernel
theorem dX11_deed_35 : decode cX11_deed 35 = .ok (.iload_n 1, 1) := by decide +kernel
theorem dX11_deed_36 : decode cX11_deed 36 = .ok (.iconst 2, 1) := by decide +kernel
theorem dX11_deed_37 : decode cX11_deed 37 = .ok (.iadd, 1) := by decide +kernel
theorem dX11_deed_38 : decode cX11_deed 38 = .ok (.aload_n 0, 1) := by decide +kernel
theorem dX11_deed_39 : decode cX11_deed 39 = .ok (.iconst 0, 1) := by decide +kernel
theorem dX11_deed_40 : decode cX11_deed 40 = .ok (.aload_n 0, 1) := by decide +kernel
theorem dX11_deed_41 : decode cX11_deed 41 = .ok (.getfield 22, 3) := by decide +kernel
theorem dX11_deed_44 : decode cX11_deed 44 = .ok (.iload_n 1, 1) := by decide +kernel
theorem dX11_deed_45 : decode cX11_deed 45 = .ok (.iconst 1, 1) := by decide +kernel
theorem dX11_deed_46 : decode cX11_deed 46 = .ok (.iadd, 1) := by decide +kernel
theorem dX11_deed_47 : decode cX11_deed 47 = .ok (.iaload, 1) := by decide +kernel
theorem dX11_deed_48 : decode cX11_deed 48 = .ok (.invokevirtual 171, 3) := by decide +kernel
theorem dX11_deed_51 : decode cX11_deed 51 = .ok (.iastore, 1) := by decide +kernel
theorem dX11_deed_52 : decode cX11_deed 52 = .ok (.aload_n 0, 1) := by decide +kernel
theorem dX11_deed_53 : decode cX11_deed 53 = .ok (.getfield 22, 3) := by decide +kernel
theorem dX11_deed_56 : decode cX11_deed 56 = .ok (.iload_n 1, 1) := by decide +kernel
theorem dX11_deed_57 : decode cX11_deed 57 = .ok (.iconst 3, 1) := by decide +kernel
theorem dX11_deed_58 : decode cX11_deed 58 = .ok (.iadd, 1) := by decide +kernel
theorem dX11_deed_59 : decode cX11_deed 59 = .ok (.aload_n 0, 1) := by decide +kernel
theorem dX11_deed_60 : decode cX11_deed 60 = .ok (.invokevirtual 175, 3) := by decide +kernel
theorem dX11_deed_63 : decode cX11_deed 63 = .ok (.iastore, 1) := by decide +kernel
theorem dX11_deed_64 : decode cX11_deed 64 = .ok (.goto 178, 3) := by decide +kernel
theorem dX11_deed_67 : decode cX11_deed 67 = .ok (.aload_n 0, 1) := by decide +kernel
theorem dX11_deed_68 : decode cX11_deed 68 = .ok (.ldc2_w 179, 3) := by decide +kernel
theorem dX11_deed_71 : decode cX11_deed 71 = .ok (.invokevirtual 162, 3) := by decide +kernel
theorem dX11_deed_74 : decode cX11_deed 74 = .ok (.ifCond .eq 39, 3) := by decide +kernel
theorem dX11_deed_77 : decode cX11_deed 77 = .ok (.aload_n 0, 1) := by decide +kernel
theorem dX11_deed_78 : decode cX11_deed 78 = .ok (.getfield 22, 3) := by decide +kernel
theorem dX11_deed_81 : decode cX11_deed 81 = .ok (.iload_n 1, 1) := by decide +kernel
theorem dX11_deed_82 : decode cX11_deed 82 = .ok (.iconst 1, 1) := by decide +kernel
theorem dX11_deed_83 : decode cX11_deed 83 = .ok (.iastore, 1) := by decide +kernel
theorem dX11_deed_84 : decode cX11_deed 84 = .ok (.aload_n 0, 1) := by decide +kernel
theorem dX11_deed_85 : decode cX11_deed 85 = .ok (.getfield 22, 3) := by decide +kernel
theorem dX11_deed_88 : decode cX11_deed 88 = .ok (.iload_n 1, 1) := by decide +kernel
theorem dX11_deed_89 : decode cX11_deed 89 = .ok (.iconst 1, 1) := by decide +kernel
theorem dX11_deed_90 : decode cX11_deed 90 = .ok (.iadd, 1) := by decide +kernel
theorem dX11_deed_91 : decode cX11_deed 91 = .ok (.aload_n 0, 1) := by decide +kernel
theorem dX11_deed_92 : decode cX11_deed 92 = .ok (.iconst 0, 1) := by decide +kernel
theorem dX11_deed_93 : decode cX11_deed 93 = .ok (.iconst (-1), 1) := by decide +kernel
theorem dX11_deed_94 : decode cX11_deed 94 = .ok (.invokevirtual 171, 3) := by decide +kernel
theorem dX11_deed_97 : decode cX11_deed 97 = .ok (.iastore, 1) := by decide +kernel
theorem dX11_deed_98 : decode cX11_deed 98 = .ok (.aload_n 0, 1) := by decide +kernel
theorem dX11_deed_99 : decode cX11_deed 99 = .ok (.getfield 22, 3) := by decide +kernel
theorem dX11_deed_102 : decode cX11_deed 102 = .ok (.iload_n 1, 1) := by decide +kernel
theorem dX11_deed_103 : decode cX11_deed 103 = .ok (.iconst 3, 1) := by decide +kernel
theorem dX11_deed_104 : decode cX11_deed 104 = .ok (.iadd, 1) := by decide +kernel
theorem dX11_deed_105 : decode cX11_deed 105 = .ok (.aload_n 0, 1) := by decide +kernel
theorem dX11_deed_106 : decode cX11_deed 106 = .ok (.invokevirtual 175, 3) := by decide +kernel
theorem dX11_deed_109 : decode cX11_deed 109 = .ok (.iastore, 1) := by decide +kernel
theorem dX11_deed_110 : decode cX11_deed 110 = .ok (.goto 132, 3) := by decide +kernel
theorem dX11_deed_113 : decode cX11_deed 113 = .ok (.aload_n 0, 1) := by decide +kernel
theorem dX11_deed_114 : decode cX11_deed 114 = .ok (.ldc2_w 181, 3) := by decide +kernel
theorem dX11_deed_117 : decode cX11_deed 117 = .ok (.invokevirtual 162, 3) := by decide +kernel
theorem dX11_deed_120 : decode cX11_deed 120 = .ok (.ifCond .eq 63, 3) := by decide +kernel
theorem dX11_deed_123 : decode cX11_deed 123 = .ok (.aload_n 0, 1) := by decide +kernel
theorem dX11_deed_124 : decode cX11_deed 124 = .ok (.getfield 22, 3) := by decide +kernel
theorem dX11_deed_127 : decode cX11_deed 127 = .ok (.iload_n 1, 1) := by decide +kernel
theorem dX11_deed_128 : decode cX11_deed 128 = .ok (.iconst 2, 1) := by decide +kernel
theorem dX11_deed_129 : decode cX11_deed 129 = .ok (.iastore, 1) := by decide +kernel
theorem dX11_deed_130 : decode cX11_deed 130 = .ok (.aload_n 0, 1) := by decide +kernel
theorem dX11_deed_131 : decode cX11_deed 131 = .ok (.getfield 22, 3) := by decide +kernel
theorem dX11_deed_134 : decode cX11_deed 134 = .ok (.iload_n 1, 1) := by decide +kernel
theorem dX11_deed_135 : decode cX11_deed 135 = .ok (.iconst 1, 1) := by decide +kernel
theorem dX11_deed_136 : decode cX11_deed 136 = .ok (.iadd, 1) := by decide +kernel
theorem dX11_deed_137 : decode cX11_deed 137 = .ok (.aload_n 0, 1) := by decide +kernel
theorem dX11_deed_138 : decode cX11_deed 138 = .ok (.iconst 0, 1) := by decide +kernel
theorem dX11_deed_139 : decode cX11_deed 139 = .ok (.iconst (-1), 1) := by decide +kernel
theorem dX11_deed_140 : decode cX11_deed 140 = .ok (.invokevirtual 171, 3) := by decide +kernel
theorem dX11_deed_143 : decode cX11_deed 143 = .ok (.iastore, 1) := by decide +kernel
theorem dX11_deed_144 : decode cX11_deed 144 = .ok (.aload_n 0, 1) := by decide +kernel
theorem dX11_deed_145 : decode cX11_deed 145 = .ok (.ldc2_w 183, 3) := by decide +kernel
theorem dX11_deed_148 : decode cX11_deed 148 = .ok (.invokevirtual 162, 3) := by decide +kernel
theorem dX11_deed_151 : decode cX11_deed 151 = .ok (.ifCond .eq 16, 3) := by decide +kernel
theorem dX11_deed_154 : decode cX11_deed 154 = .ok (.aload_n 0, 1) := by decide +kernel
theorem dX11_deed_155 : decode cX11_deed 155 = .ok (.getfield 22, 3) := by decide +kernel
theorem dX11_deed_158 : decode cX11_deed 158 = .ok (.iload_n 1, 1) := by decide +kernel
theorem dX11_deed_159 : decode cX11_deed 159 = .ok (.iconst 4, 1) := by decide +kernel
theorem dX11_deed_160 : decode cX11_deed 160 = .ok (.iadd, 1) := by decide +kernel
theorem dX11_deed_161 : decode cX11_deed 161 = .ok (.aload_n 0, 1) := by decide +kernel
theorem dX11_deed_162 : decode cX11_deed 162 = .ok (.iconst 1, 1) := by decide +kernel
theorem dX11_deed_163 : decode cX11_deed 163 = .ok (.invokevirtual 157, 3) := by decide +kernel
theorem dX11_deed_166 : decode cX11_deed 166 = .ok (.iastore, 1) := by decide +kernel
theorem dX11_deed_167 : decode cX11_deed 167 = .ok (.aload_n 0, 1) := by decide +kernel
theorem dX11_deed_168 : decode cX11_deed 168 = .ok (.getfield 22, 3) := by decide +kernel
theorem dX11_deed_171 : decode cX11_deed 171 = .ok (.iload_n 1, 1) := by decide +kernel
theorem dX11_deed_172 : decode cX11_deed 172 = .ok (.iconst 5, 1) := by decide +kernel
theorem dX11_deed_173 : decode cX11_deed 173 = .ok (.iadd, 1) := by decide +kernel
theorem dX11_deed_174 : decode cX11_deed 174 = .ok (.aload_n 0, 1) := by decide +kernel
theorem dX11_deed_175 : decode cX11_deed 175 = .ok (.iconst 3, 1) := by decide +kernel
theorem dX11_deed_176 : decode cX11_deed 176 = .ok (.invokevirtual 157, 3) := by decide +kernel
theorem dX11_deed_179 : decode cX11_deed 179 = .ok (.iastore, 1) := by decide +kernel
theorem dX11_deed_180 : decode cX11_deed 180 = .ok (.goto 62, 3) := by decide +kernel
theorem dX11_deed_183 : decode cX11_deed 183 = .ok (.aload_n 0, 1) := by decide +kernel
theorem dX11_deed_184 : decode cX11_deed 184 = .ok (.ldc2_w 185, 3) := by decide +kernel
theorem dX11_deed_187 : decode cX11_deed 187 = .ok (.invokevirtual 162, 3) := by decide +kernel
theorem dX11_deed_190 : decode cX11_deed 190 = .ok (.ifCond .eq 48, 3) := by decide +kernel
theorem dX11_deed_193 : decode cX11_deed 193 = .ok (.aload_n 0, 1) := by decide +kernel
theorem dX11_deed_194 : decode cX11_deed 194 = .ok (.getfield 22, 3) := by decide +kernel
theorem dX11_deed_197 : decode cX11_deed 197 = .ok (.iload_n 1, 1) := by decide +kernel
theorem dX11_deed_198 : decode cX11_deed 198 = .ok (.iconst 3, 1) := by decide +kernel
theorem dX11_deed_199 : decode cX11_deed 199 = .ok (.iastore, 1) := by decide +kernel
theorem dX11_deed_200 : decode cX11_deed 200 = .ok (.aload_n 0, 1) := by decide +kernel
theorem dX11_deed_201 : decode cX11_deed 201 = .ok (.getfield 22, 3) := by decide +kernel
theorem dX11_deed_204 : decode cX11_deed 204 = .ok (.iload_n 1, 1) := by decide +kernel
theorem dX11_deed_205 : decode cX11_deed 205 = .ok (.iconst 1, 1) := by decide +kernel
theorem dX11_deed_206 : decode cX11_deed 206 = .ok (.iadd, 1) := by decide +kernel
theorem dX11_deed_207 : decode cX11_deed 207 = .ok (.aload_n 0, 1) := by decide +kernel
theorem dX11_deed_208 : decode cX11_deed 208 = .ok (.iconst 0, 1) := by decide +kernel
theorem dX11_deed_209 : decode cX11_deed 209 = .ok (.iconst (-1), 1) := by decide +kernel
theorem dX11_deed_210 : decode cX11_deed 210 = .ok (.invokevirtual 171, 3) := by decide +kernel
theorem dX11_deed_213 : decode cX11_deed 213 = .ok (.iastore, 1) := by decide +kernel
theorem dX11_deed_214 : decode cX11_deed 214 = .ok (.aload_n 0, 1) := by decide +kernel
theorem dX11_deed_215 : decode cX11_deed 215 = .ok (.getfield 22, 3) := by decide +kernel
theorem dX11_deed_218 : decode cX11_deed 218 = .ok (.iload_n 1, 1) := by decide +kernel
theorem dX11_deed_219 : decode cX11_deed 219 = .ok (.iconst 2, 1) := by decide +kernel
theorem dX11_deed_220 : decode cX11_deed 220 = .ok (.iadd, 1) := by decide +kernel
theorem dX11_deed_221 : decode cX11_deed 221 = .ok (.aload_n 0, 1) := by decide +kernel
theorem dX11_deed_222 : decode cX11_deed 222 = .ok (.iconst 0, 1) := by decide +kernel
theorem dX11_deed_223 : decode cX11_deed 223 = .ok (.aload_n 0, 1) := by decide +kernel
theorem dX11_deed_224 : decode cX11_deed 224 = .ok (.getfield 22, 3) := by decide +kernel
theorem dX11_deed_227 : decode cX11_deed 227 = .ok (.iload_n 1, 1) := by decide +kernel
theorem dX11_deed_228 : decode cX11_deed 228 = .ok (.iconst 1, 1) := by decide +kernel
theorem dX11_deed_229 : decode cX11_deed 229 = .ok (.iadd, 1) := by decide +kernel
theorem dX11_deed_230 : decode cX11_deed 230 = .ok (.iaload, 1) := by decide +kernel
theorem dX11_deed_231 : decode cX11_deed 231 = .ok (.invokevirtual 171, 3) := by decide +kernel
theorem dX11_deed_234 : decode cX11_deed 234 = .ok (.iastore, 1) := by decide +kernel
theorem dX11_deed_235 : decode cX11_deed 235 = .ok (.goto 7, 3) := by decide +kernel
theorem dX11_deed_238 : decode cX11_deed 238 = .ok (.aload_n 0, 1) := by decide +kernel
theorem dX11_deed_239 : decode cX11_deed 239 = .ok (.invokevirtual 154, 3) := by decide +kernel
theorem dX11_deed_242 : decode cX11_deed 242 = .ok (.return_, 1) := by decide +kernel
theorem dX11_fresh_0 : decode cX11_fresh 0 = .ok (.bipush 8, 2) := by decide +kernel
theorem dX11_fresh_2 : decode cX11_fresh 2 = .ok (.aload_n 0, 1) := by decide +kernel
theorem dX11_fresh_3 : decode cX11_fresh 3 = .ok (.getfield 133, 3) := by decide +kernel
theorem dX11_fresh_6 : decode cX11_fresh 6 = .ok (.imul, 1) := by decide +kernel
theorem dX11_fresh_7 : decode cX11_fresh 7 = .ok (.istore_n 1, 1) := by decide +kernel
theorem dX11_fresh_8 : decode cX11_fresh 8 = .ok (.iconst 0, 1) := by decide +kernel
theorem dX11_fresh_9 : decode cX11_fresh 9 = .ok (.istore_n 2, 1) := by decide +kernel
theorem dX11_fresh_10 : decode cX11_fresh 10 = .ok (.iload_n 2, 1) := by decide +kernel
theorem dX11_fresh_11 : decode cX11_fresh 11 = .ok (.bipush 8, 2) := by decide +kernel
theorem dX11_fresh_13 : decode cX11_fresh 13 = .ok (.if_icmp .ge 27, 3) := by decide +kernel
theorem dX11_fresh_16 : decode cX11_fresh 16 = .ok (.aload_n 0, 1) := by decide +kernel
theorem dX11_fresh_17 : decode cX11_fresh 17 = .ok (.getfield 22, 3) := by decide +kernel
theorem dX11_fresh_20 : decode cX11_fresh 20 = .ok (.iload_n 1, 1) := by decide +kernel
theorem dX11_fresh_21 : decode cX11_fresh 21 = .ok (.iload_n 2, 1) := by decide +kernel
theorem dX11_fresh_22 : decode cX11_fresh 22 = .ok (.iadd, 1) := by decide +kernel
theorem dX11_fresh_23 : decode cX11_fresh 23 = .ok (.iload_n 2, 1) := by decide +kernel
theorem dX11_fresh_24 : decode cX11_fresh 24 = .ok (.iconst 3, 1) := by decide +kernel
theorem dX11_fresh_25 : decode cX11_fresh 25 = .ok (.if_icmp .ge 7, 3) := by decide +kernel
theorem dX11_fresh_28 : decode cX11_fresh 28 = .ok (.iconst 0, 1) := by decide +kernel
theorem dX11_fresh_29 : decode cX11_fresh 29 = .ok (.goto 4, 3) := by decide +kernel
theorem dX11_fresh_32 : decode cX11_fresh 32 = .ok (.iconst (-1), 1) := by decide +kernel
theorem dX11_fresh_33 : decode cX11_fresh 33 = .ok (.iastore, 1) := by decide +kernel
theorem dX11_fresh_34 : decode cX11_fresh 34 = .ok (.iinc 2 1, 3) := by decide +kernel
theorem dX11_fresh_37 : decode cX11_fresh 37 = .ok (.goto (-27), 3) := by decide +kernel
theorem dX11_fresh_40 : decode cX11_fresh 40 = .ok (.iload_n 1, 1) := by decide +kernel
theorem dX11_fresh_41 : decode cX11_fresh 41 = .ok (.ireturn, 1) := by decide +kernel
theorem dX11_part_0 : decode cX11_part 0 = .ok (.aload_n 0, 1) := by decide +kernel
theorem dX11_part_1 : decode cX11_part 1 = .ok (.getfield 133, 3) := by decide +kernel
theorem dX11_part_4 : decode cX11_part 4 = .ok (.bipush 16, 2) := by decide +kernel
theorem dX11_part_6 : decode cX11_part 6 = .ok (.if_icmp .ne 8, 3) := by decide +kernel
theorem dX11_part_9 : decode cX11_part 9 = .ok (.aload_n 0, 1) := by decide +kernel
theorem dX11_part_10 : decode cX11_part 10 = .ok (.invokevirtual 154, 3) := by decide +kernel
theorem dX11_part_13 : decode cX11_part 13 = .ok (.return_, 1) := by decide +kernel
theorem dX11_part_14 : decode cX11_part 14 = .ok (.aload_n 0, 1) := by decide +kernel
theorem dX11_part_15 : decode cX11_part 15 = .ok (.invokevirtual 187, 3) := by decide +kernel
theorem dX11_part_18 : decode cX11_part 18 = .ok (.istore_n 1, 1) := by decide +kernel
theorem dX11_part_19 : decode cX11_part 19 = .ok (.aload_n 0, 1) := by decide +kernel
theorem dX11_part_20 : decode cX11_part 20 = .ok (.invokevirtual 146, 3) := by decide +kernel
theorem dX11_part_23 : decode cX11_part 23 = .ok (.ifCond .eq 28, 3) := by decide +kernel
theorem dX11_part_26 : decode cX11_part 26 = .ok (.aload_n 0, 1) := by decide +kernel
theorem dX11_part_27 : decode cX11_part 27 = .ok (.ldc2_w 190, 3) := by decide +kernel
theorem dX11_part_30 : decode cX11_part 30 = .ok (.invokevirtual 150, 3) := by decide +kernel
theorem dX11_part_33 : decode cX11_part 33 = .ok (.ifCond .eq 18, 3) := by decide +kernel
theorem dX11_part_36 : decode cX11_part 36 = .ok (.aload_n 0, 1) := by decide +kernel
theorem dX11_part_37 : decode cX11_part 37 = .ok (.getfield 136, 3) := by decide +kernel
theorem dX11_part_40 : decode cX11_part 40 = .ok (.iconst 3, 1) := by decide +kernel
theorem dX11_part_41 : decode cX11_part 41 = .ok (.if_icmp .ne 10, 3) := by decide +kernel
theorem dX11_part_44 : decode cX11_part 44 = .ok (.aload_n 0, 1) := by decide +kernel
theorem dX11_part_45 : decode cX11_part 45 = .ok (.invokevirtual 154, 3) := by decide +kernel
theorem dX11_part_48 : decode cX11_part 48 = .ok (.goto 219, 3) := by decide +kernel
theorem dX11_part_51 : decode cX11_part 51 = .ok (.aload_n 0, 1) := by decide +kernel
theorem dX11_part_52 : decode cX11_part 52 = .ok (.ldc2_w 192, 3) := by decide +kernel
theorem dX11_part_55 : decode cX11_part 55 = .ok (.invokevirtual 162, 3) := by decide +kernel
theorem dX11_part_58 : decode cX11_part 58 = .ok (.ifCond .eq 74, 3) := by decide +kernel
theorem dX11_part_61 : decode cX11_part 61 = .ok (.aload_n 0, 1) := by decide +kernel
theorem dX11_part_62 : decode cX11_part 62 = .ok (.getfield 22, 3) := by decide +kernel
theorem dX11_part_65 : decode cX11_part 65 = .ok (.iload_n 1, 1) := by decide +kernel
theorem dX11_part_66 : decode cX11_part 66 = .ok (.bipush 6, 2) := by decide +kernel
theorem dX11_part_68 : decode cX11_part 68 = .ok (.iadd, 1) := by decide +kernel
theorem dX11_part_69 : decode cX11_part 69 = .ok (.aload_n 0, 1) := by decide +kernel
theorem dX11_part_70 : decode cX11_part 70 = .ok (.iconst 1, 1) := by decide +kernel
theorem dX11_part_71 : decode cX11_part 71 = .ok (.iconst (-1), 1) := by decide +kernel
theorem dX11_part_72 : decode cX11_part 72 = .ok (.invokevirtual 171, 3) := by decide +kernel
theorem dX11_part_75 : decode cX11_part 75 = .ok (.iastore, 1) := by decide +kernel
theorem dX11_part_76 : decode cX11_part 76 = .ok (.aload_n 0, 1) := by decide +kernel
theorem dX11_part_77 : decode cX11_part 77 = .ok (.bipush 61, 2) := by decide +kernel
theorem dX11_part_79 : decode cX11_part 79 = .ok (.invokevirtual 194, 3) := by decide +kernel
theorem dX11_part_82 : decode cX11_part 82 = .ok (.ifCond .ne 7, 3) := by decide +kernel
theorem dX11_part_85 : decode cX11_part 85 = .ok (.aload_n 0, 1) := by decide +kernel
theorem dX11_part_86 : decode cX11_part 86 = .ok (.invokevirtual 154, 3) := by decide +kernel
theorem dX11_part_89 : decode cX11_part 89 = .ok (.aload_n 0, 1) := by decide +kernel
theorem dX11_part_90 : decode cX11_part 90 = .ok (.getfield 22, 3) := by decide +kernel
theorem dX11_part_93 : decode cX11_part 93 = .ok (.iload_n 1, 1) := by decide +kernel
theorem dX11_part_94 : decode cX11_part 94 = .ok (.bipush 7, 2) := by decide +kernel
theorem dX11_part_96 : decode cX11_part 96 = .ok (.iadd, 1) := by decide +kernel
theorem dX11_part_97 : decode cX11_part 97 = .ok (.aload_n 0, 1) := by decide +kernel
theorem dX11_part_98 : decode cX11_part 98 = .ok (.iconst 3, 1) := by decide +kernel
theorem dX11_part_99 : decode cX11_part 99 = .ok (.invokevirtual 157, 3) := by decide +kernel
theorem dX11_part_102 : decode cX11_part 102 = .ok (.iastore, 1) := by decide +kernel
theorem dX11_part_103 : decode cX11_part 103 = .ok (.aload_n 0, 1) := by decide +kernel
theorem dX11_part_104 : decode cX11_part 104 = .ok (.ldc2_w 198, 3) := by decide +kernel
theorem dX11_part_107 : decode cX11_part 107 = .ok (.invokevirtual 162, 3) := by decide +kernel
theorem dX11_part_110 : decode cX11_part 110 = .ok (.ifCond .ne 7, 3) := by decide +kernel
theorem dX11_part_113 : decode cX11_part 113 = .ok (.aload_n 0, 1) := by decide +kernel
theorem dX11_part_114 : decode cX11_part 114 = .ok (.invokevirtual 154, 3) := by decide +kernel
theorem dX11_part_117 : decode cX11_part 117 = .ok (.aload_n 0, 1) := by decide +kernel
theorem dX11_part_118 : decode cX11_part 118 = .ok (.invokevirtual 146, 3) := by decide +kernel
theorem dX11_part_121 : decode cX11_part 121 = .ok (.ifCond .eq 146, 3) := by decide +kernel
theorem dX11_part_124 : decode cX11_part 124 = .ok (.aload_n 0, 1) := by decide +kernel
theorem dX11_part_125 : decode cX11_part 125 = .ok (.iload_n 1, 1) := by decide +kernel
theorem dX11_part_126 : decode cX11_part 126 = .ok (.invokevirtual 200, 3) := by decide +kernel
theorem dX11_part_129 : decode cX11_part 129 = .ok (.goto 138, 3) := by decide +kernel
theorem dX11_part_132 : decode cX11_part 132 = .ok (.aload_n 0, 1) := by decide +kernel
theorem dX11_part_133 : decode cX11_part 133 = .ok (.ldc2_w 190, 3) := by decide +kernel
theorem dX11_part_136 : decode cX11_part 136 = .ok (.invokevirtual 162, 3) := by decide +kernel
theorem dX11_part_139 : decode cX11_part 139 = .ok (.ifCond .eq 61, 3) := by decide +kernel
theorem dX11_part_142 : decode cX11_part 142 = .ok (.aload_n 0, 1) := by decide +kernel
theorem dX11_part_143 : decode cX11_part 143 = .ok (.getfield 22, 3) := by decide +kernel
theorem dX11_part_146 : decode cX11_part 146 = .ok (.iload_n 1, 1) := by decide +kernel
theorem dX11_part_147 : decode cX11_part 147 = .ok (.iconst 4, 1) := by decide +kernel
theorem dX11_part_148 : decode cX11_part 148 = .ok (.iastore, 1) := by decide +kernel
theorem dX11_part_149 : decode cX11_part 149 = .ok (.aload_n 0, 1) := by decide +kernel
theorem dX11_part_150 : decode cX11_part 150 = .ok (.getfield 22, 3) := by decide +kernel
theorem dX11_part_153 : decode cX11_part 153 = .ok (.iload_n 1, 1) := by decide +kernel
theorem dX11_part_154 : decode cX11_part 154 = .ok (.iconst 1, 1) := by decide +kernel
theorem dX11_part_155 : decode cX11_part 155 = .ok (.iadd, 1) := by decide +kernel
theorem dX11_part_156 : decode cX11_part 156 = .ok (.aload_n 0, 1) := by decide +kernel
theorem dX11_part_157 : decode cX11_part 157 = .ok (.iconst 0, 1) := by decide +kernel
theorem dX11_part_158 : decode cX11_part 158 = .ok (.iconst (-1), 1) := by decide +kernel
theorem dX11_part_159 : decode cX11_part 159 = .ok (.invokevirtual 171, 3) := by decide +kernel
theorem dX11_part_162 : decode cX11_part 162 = .ok (.iastore, 1) := by decide +kernel
theorem dX11_part_163 : decode cX11_part 163 = .ok (.aload_n 0, 1) := by decide +kernel
theorem dX11_part_164 : decode cX11_part 164 = .ok (.getfield 22, 3) := by decide +kernel
theorem dX11_part_167 : decode cX11_part 167 = .ok (.iload_n 1, 1) := by decide +kernel
theorem dX11_part_168 : decode cX11_part 168 = .ok (.iconst 2, 1) := by decide +kernel
theorem dX11_part_169 : decode cX11_part 169 = .ok (.iadd, 1) := by decide +kernel
theorem dX11_part_170 : decode cX11_part 170 = .ok (.aload_n 0, 1) := by decide +kernel
theorem dX11_part_171 : decode cX11_part 171 = .ok (.getfield 136, 3) := by decide +kernel
theorem dX11_part_174 : decode cX11_part 174 = .ok (.iastore, 1) := by decide +kernel
theorem dX11_part_175 : decode cX11_part 175 = .ok (.aload_n 0, 1) := by decide +kernel
theorem dX11_part_176 : decode cX11_part 176 = .ok (.getfield 22, 3) := by decide +kernel
theorem dX11_part_179 : decode cX11_part 179 = .ok (.iload_n 1, 1) := by decide +kernel
theorem dX11_part_180 : decode cX11_part 180 = .ok (.iconst 3, 1) := by decide +kernel
theorem dX11_part_181 : decode cX11_part 181 = .ok (.iadd, 1) := by decide +kernel
theorem dX11_part_182 : decode cX11_part 182 = .ok (.aload_n 0, 1) := by decide +kernel
theorem dX11_part_183 : decode cX11_part 183 = .ok (.invokevirtual 175, 3) := by decide +kernel
theorem dX11_part_186 : decode cX11_part 186 = .ok (.iastore, 1) := by decide +kernel
theorem dX11_part_187 : decode cX11_part 187 = .ok (.aload_n 0, 1) := by decide +kernel
theorem dX11_part_188 : decode cX11_part 188 = .ok (.dup, 1) := by decide +kernel
theorem dX11_part_189 : decode cX11_part 189 = .ok (.getfield 136, 3) := by decide +kernel
theorem dX11_part_192 : decode cX11_part 192 = .ok (.iconst 1, 1) := by decide +kernel
theorem dX11_part_193 : decode cX11_part 193 = .ok (.iadd, 1) := by decide +kernel
theorem dX11_part_194 : decode cX11_part 194 = .ok (.putfield 136, 3) := by decide +kernel
theorem dX11_part_197 : decode cX11_part 197 = .ok (.goto 70, 3) := by decide +kernel
theorem dX11_part_200 : decode cX11_part 200 = .ok (.aload_n 0, 1) := by decide +kernel
theorem dX11_part_201 : decode cX11_part 201 = .ok (.ldc2_w 204, 3) := by decide +kernel
theorem dX11_part_204 : decode cX11_part 204 = .ok (.invokevirtual 162, 3) := by decide +kernel
theorem dX11_part_207 : decode cX11_part 207 = .ok (.ifCond .eq 48, 3) := by decide +kernel
theorem dX11_part_210 : decode cX11_part 210 = .ok (.aload_n 0, 1) := by decide +kernel
theorem dX11_part_211 : decode cX11_part 211 = .ok (.getfield 22, 3) := by decide +kernel
theorem dX11_part_214 : decode cX11_part 214 = .ok (.iload_n 1, 1) := by decide +kernel
theorem dX11_part_215 : decode cX11_part 215 = .ok (.iconst 5, 1) := by decide +kernel
theorem dX11_part_216 : decode cX11_part 216 = .ok (.iastore, 1) := by decide +kernel
theorem dX11_part_217 : decode cX11_part 217 = .ok (.aload_n 0, 1) := by decide +kernel
theorem dX11_part_218 : decode cX11_part 218 = .ok (.getfield 22, 3) := by decide +kernel
theorem dX11_part_221 : decode cX11_part 221 = .ok (.iload_n 1, 1) := by decide +kernel
theorem dX11_part_222 : decode cX11_part 222 = .ok (.iconst 1, 1) := by decide +kernel
theorem dX11_part_223 : decode cX11_part 223 = .ok (.iadd, 1) := by decide +kernel
theorem dX11_part_224 : decode cX11_part 224 = .ok (.aload_n 0, 1) := by decide +kernel
theorem dX11_part_225 : decode cX11_part 225 = .ok (.iconst 0, 1) := by decide +kernel
theorem dX11_part_226 : decode cX11_part 226 = .ok (.iconst (-1), 1) := by decide +kernel
theorem dX11_part_227 : decode cX11_part 227 = .ok (.invokevirtual 171, 3) := by decide +kernel
theorem dX11_part_230 : decode cX11_part 230 = .ok (.iastore, 1) := by decide +kernel
theorem dX11_part_231 : decode cX11_part 231 = .ok (.aload_n 0, 1) := by decide +kernel
theorem dX11_part_232 : decode cX11_part 232 = .ok (.invokevirtual 146, 3) := by decide +kernel
theorem dX11_part_235 : decode cX11_part 235 = .ok (.ifCond .eq 32, 3) := by decide +kernel
theorem dX11_part_238 : decode cX11_part 238 = .ok (.aload_n 0, 1) := by decide +kernel
theorem dX11_part_239 : decode cX11_part 239 = .ok (.getfield 25, 3) := by decide +kernel
theorem dX11_part_242 : decode cX11_part 242 = .ok (.aload_n 0, 1) := by decide +kernel
theorem dX11_part_243 : decode cX11_part 243 = .ok (.getfield 22, 3) := by decide +kernel
theorem dX11_part_246 : decode cX11_part 246 = .ok (.iload_n 1, 1) := by decide +kernel
theorem dX11_part_247 : decode cX11_part 247 = .ok (.iconst 1, 1) := by decide +kernel
theorem dX11_part_248 : decode cX11_part 248 = .ok (.iadd, 1) := by decide +kernel
theorem dX11_part_249 : decode cX11_part 249 = .ok (.iaload, 1) := by decide +kernel
theorem dX11_part_250 : decode cX11_part 250 = .ok (.iconst 1, 1) := by decide +kernel
theorem dX11_part_251 : decode cX11_part 251 = .ok (.bastore, 1) := by decide +kernel
theorem dX11_part_252 : decode cX11_part 252 = .ok (.goto 15, 3) := by decide +kernel
theorem dX11_part_255 : decode cX11_part 255 = .ok (.aload_n 0, 1) := by decide +kernel
theorem dX11_part_256 : decode cX11_part 256 = .ok (.invokevirtual 146, 3) := by decide +kernel
theorem dX11_part_259 : decode cX11_part 259 = .ok (.ifCond .eq 8, 3) := by decide +kernel
theorem dX11_part_262 : decode cX11_part 262 = .ok (.aload_n 0, 1) := by decide +kernel
theorem dX11_part_263 : decode cX11_part 263 = .ok (.iload_n 1, 1) := by decide +kernel
theorem dX11_part_264 : decode cX11_part 264 = .ok (.invokevirtual 200, 3) := by decide +kernel
theorem dX11_part_267 : decode cX11_part 267 = .ok (.aload_n 0, 1) := by decide +kernel
theorem dX11_part_268 : decode cX11_part 268 = .ok (.invokevirtual 146, 3) := by decide +kernel
theorem dX11_part_271 : decode cX11_part 271 = .ok (.ifCond .eq 13, 3) := by decide +kernel
theorem dX11_part_274 : decode cX11_part 274 = .ok (.aload_n 0, 1) := by decide +kernel
theorem dX11_part_275 : decode cX11_part 275 = .ok (.dup, 1) := by decide +kernel
theorem dX11_part_276 : decode cX11_part 276 = .ok (.getfield 133, 3) := by decide +kernel
theorem dX11_part_279 : decode cX11_part 279 = .ok (.iconst 1, 1) := by decide +kernel
theorem dX11_part_280 : decode cX11_part 280 = .ok (.iadd, 1) := by decide +kernel
theorem dX11_part_281 : decode cX11_part 281 = .ok (.putfield 133, 3) := by decide +kernel
theorem dX11_part_284 : decode cX11_part 284 = .ok (.return_, 1) := by decide +kernel
theorem dX11_bench_0 : decode cX11_bench 0 = .ok (.iload_n 1, 1) := by decide +kernel
theorem dX11_bench_1 : decode cX11_bench 1 = .ok (.iconst 0, 1) := by decide +kernel
theorem dX11_bench_2 : decode cX11_bench 2 = .ok (.iconst 3, 1) := by decide +kernel
theorem dX11_bench_3 : decode cX11_bench 3 = .ok (.invokestatic 104, 3) := by decide +kernel
theorem dX11_bench_6 : decode cX11_bench 6 = .ok (.ifCond .ne 15, 3) := by decide +kernel
theorem dX11_bench_9 : decode cX11_bench 9 = .ok (.aload_n 0, 1) := by decide +kernel
theorem dX11_bench_10 : decode cX11_bench 10 = .ok (.iconst 0, 1) := by decide +kernel
theorem dX11_bench_11 : decode cX11_bench 11 = .ok (.putfield 115, 3) := by decide +kernel
theorem dX11_bench_14 : decode cX11_bench 14 = .ok (.aload_n 0, 1) := by decide +kernel
theorem dX11_bench_15 : decode cX11_bench 15 = .ok (.bipush (-2), 2) := by decide +kernel
theorem dX11_bench_17 : decode cX11_bench 17 = .ok (.invokevirtual 108, 3) := by decide +kernel
theorem dX11_bench_20 : decode cX11_bench 20 = .ok (.ireturn, 1) := by decide +kernel
theorem dX11_bench_21 : decode cX11_bench 21 = .ok (.aload_n 0, 1) := by decide +kernel
theorem dX11_bench_22 : decode cX11_bench 22 = .ok (.invokevirtual 206, 3) := by decide +kernel
theorem dX11_bench_25 : decode cX11_bench 25 = .ok (.aload_n 0, 1) := by decide +kernel
theorem dX11_bench_26 : decode cX11_bench 26 = .ok (.getfield 124, 3) := by decide +kernel
theorem dX11_bench_29 : decode cX11_bench 29 = .ok (.aload_n 0, 1) := by decide +kernel
theorem dX11_bench_30 : decode cX11_bench 30 = .ok (.getfield 118, 3) := by decide +kernel
theorem dX11_bench_33 : decode cX11_bench 33 = .ok (.if_icmp .ge 7, 3) := by decide +kernel
theorem dX11_bench_36 : decode cX11_bench 36 = .ok (.aload_n 0, 1) := by decide +kernel
theorem dX11_bench_37 : decode cX11_bench 37 = .ok (.invokevirtual 209, 3) := by decide +kernel
theorem dX11_bench_40 : decode cX11_bench 40 = .ok (.aload_n 0, 1) := by decide +kernel
theorem dX11_bench_41 : decode cX11_bench 41 = .ok (.bipush 59, 2) := by decide +kernel
theorem dX11_bench_43 : decode cX11_bench 43 = .ok (.invokevirtual 194, 3) := by decide +kernel
theorem dX11_bench_46 : decode cX11_bench 46 = .ok (.ifCond .eq 10, 3) := by decide +kernel
theorem dX11_bench_49 : decode cX11_bench 49 = .ok (.aload_n 0, 1) := by decide +kernel
theorem dX11_bench_50 : decode cX11_bench 50 = .ok (.invokevirtual 209, 3) := by decide +kernel
theorem dX11_bench_53 : decode cX11_bench 53 = .ok (.goto (-13), 3) := by decide +kernel
theorem dX11_bench_56 : decode cX11_bench 56 = .ok (.aload_n 0, 1) := by decide +kernel
theorem dX11_bench_57 : decode cX11_bench 57 = .ok (.invokevirtual 146, 3) := by decide +kernel
theorem dX11_bench_60 : decode cX11_bench 60 = .ok (.ifCond .eq 18, 3) := by decide +kernel
theorem dX11_bench_63 : decode cX11_bench 63 = .ok (.aload_n 0, 1) := by decide +kernel
theorem dX11_bench_64 : decode cX11_bench 64 = .ok (.getfield 124, 3) := by decide +kernel
theorem dX11_bench_67 : decode cX11_bench 67 = .ok (.aload_n 0, 1) := by decide +kernel
theorem dX11_bench_68 : decode cX11_bench 68 = .ok (.getfield 118, 3) := by decide +kernel
theorem dX11_bench_71 : decode cX11_bench 71 = .ok (.if_icmp .ge 7, 3) := by decide +kernel
theorem dX11_bench_74 : decode cX11_bench 74 = .ok (.aload_n 0, 1) := by decide +kernel
theorem dX11_bench_75 : decode cX11_bench 75 = .ok (.invokevirtual 154, 3) := by decide +kernel
theorem dX11_bench_78 : decode cX11_bench 78 = .ok (.aload_n 0, 1) := by decide +kernel
theorem dX11_bench_79 : decode cX11_bench 79 = .ok (.aload_n 0, 1) := by decide +kernel
theorem dX11_bench_80 : decode cX11_bench 80 = .ok (.getfield 130, 3) := by decide +kernel
theorem dX11_bench_83 : decode cX11_bench 83 = .ok (.putfield 39, 3) := by decide +kernel
theorem dX11_bench_86 : decode cX11_bench 86 = .ok (.aload_n 0, 1) := by decide +kernel
theorem dX11_bench_87 : decode cX11_bench 87 = .ok (.invokevirtual 146, 3) := by decide +kernel
theorem dX11_bench_90 : decode cX11_bench 90 = .ok (.ifCond .ne 10, 3) := by decide +kernel
theorem dX11_bench_93 : decode cX11_bench 93 = .ok (.aload_n 0, 1) := by decide +kernel
theorem dX11_bench_94 : decode cX11_bench 94 = .ok (.bipush (-6), 2) := by decide +kernel
theorem dX11_bench_96 : decode cX11_bench 96 = .ok (.invokevirtual 108, 3) := by decide +kernel
theorem dX11_bench_99 : decode cX11_bench 99 = .ok (.ireturn, 1) := by decide +kernel
theorem dX11_bench_100 : decode cX11_bench 100 = .ok (.aload_n 0, 1) := by decide +kernel
theorem dX11_bench_101 : decode cX11_bench 101 = .ok (.getfield 16, 3) := by decide +kernel
theorem dX11_bench_104 : decode cX11_bench 104 = .ok (.iload_n 1, 1) := by decide +kernel
theorem dX11_bench_105 : decode cX11_bench 105 = .ok (.aload_n 0, 1) := by decide +kernel
theorem dX11_bench_106 : decode cX11_bench 106 = .ok (.getfield 133, 3) := by decide +kernel
theorem dX11_bench_109 : decode cX11_bench 109 = .ok (.iastore, 1) := by decide +kernel
theorem dX11_bench_110 : decode cX11_bench 110 = .ok (.iconst 0, 1) := by decide +kernel
theorem dX11_bench_111 : decode cX11_bench 111 = .ok (.istore_n 2, 1) := by decide +kernel
theorem dX11_bench_112 : decode cX11_bench 112 = .ok (.iload_n 2, 1) := by decide +kernel
theorem dX11_bench_113 : decode cX11_bench 113 = .ok (.bipush 8, 2) := by decide +kernel
theorem dX11_bench_115 : decode cX11_bench 115 = .ok (.aload_n 0, 1) := by decide +kernel
theorem dX11_bench_116 : decode cX11_bench 116 = .ok (.getfield 133, 3) := by decide +kernel
theorem dX11_bench_119 : decode cX11_bench 119 = .ok (.imul, 1) := by decide +kernel
theorem dX11_bench_120 : decode cX11_bench 120 = .ok (.if_icmp .ge 27, 3) := by decide +kernel
theorem dX11_bench_123 : decode cX11_bench 123 = .ok (.aload_n 0, 1) := by decide +kernel
theorem dX11_bench_124 : decode cX11_bench 124 = .ok (.getfield 13, 3) := by decide +kernel
theorem dX11_bench_127 : decode cX11_bench 127 = .ok (.sipush 128, 3) := by decide +kernel
theorem dX11_bench_130 : decode cX11_bench 130 = .ok (.iload_n 1, 1) := by decide +kernel
theorem dX11_bench_131 : decode cX11_bench 131 = .ok (.imul, 1) := by decide +kernel
theorem dX11_bench_132 : decode cX11_bench 132 = .ok (.iload_n 2, 1) := by decide +kernel
theorem dX11_bench_133 : decode cX11_bench 133 = .ok (.iadd, 1) := by decide +kernel
theorem dX11_bench_134 : decode cX11_bench 134 = .ok (.aload_n 0, 1) := by decide +kernel
theorem dX11_bench_135 : decode cX11_bench 135 = .ok (.getfield 22, 3) := by decide +kernel
theorem dX11_bench_138 : decode cX11_bench 138 = .ok (.iload_n 2, 1) := by decide +kernel
theorem dX11_bench_139 : decode cX11_bench 139 = .ok (.iaload, 1) := by decide +kernel
theorem dX11_bench_140 : decode cX11_bench 140 = .ok (.iastore, 1) := by decide +kernel
theorem dX11_bench_141 : decode cX11_bench 141 = .ok (.iinc 2 1, 3) := by decide +kernel
theorem dX11_bench_144 : decode cX11_bench 144 = .ok (.goto (-32), 3) := by decide +kernel
theorem dX11_bench_147 : decode cX11_bench 147 = .ok (.aload_n 0, 1) := by decide +kernel
theorem dX11_bench_148 : decode cX11_bench 148 = .ok (.aload_n 0, 1) := by decide +kernel
theorem dX11_bench_149 : decode cX11_bench 149 = .ok (.getfield 133, 3) := by decide +kernel
theorem dX11_bench_152 : decode cX11_bench 152 = .ok (.invokevirtual 108, 3) := by decide +kernel
theorem dX11_bench_155 : decode cX11_bench 155 = .ok (.ireturn, 1) := by decide +kernel
theorem dX11_shelf_0 : decode cX11_shelf 0 = .ok (.aload_n 0, 1) := by decide +kernel
theorem dX11_shelf_1 : decode cX11_shelf 1 = .ok (.getfield 212, 3) := by decide +kernel
theorem dX11_shelf_4 : decode cX11_shelf 4 = .ok (.bipush 8, 2) := by decide +kernel
theorem dX11_shelf_6 : decode cX11_shelf 6 = .ok (.if_icmp .ne 15, 3) := by decide +kernel
theorem dX11_shelf_9 : decode cX11_shelf 9 = .ok (.aload_n 0, 1) := by decide +kernel
theorem dX11_shelf_10 : decode cX11_shelf 10 = .ok (.iconst 0, 1) := by decide +kernel
theorem dX11_shelf_11 : decode cX11_shelf 11 = .ok (.putfield 115, 3) := by decide +kernel
theorem dX11_shelf_14 : decode cX11_shelf 14 = .ok (.aload_n 0, 1) := by decide +kernel
theorem dX11_shelf_15 : decode cX11_shelf 15 = .ok (.bipush (-5), 2) := by decide +kernel
theorem dX11_shelf_17 : decode cX11_shelf 17 = .ok (.invokevirtual 108, 3) := by decide +kernel
theorem dX11_shelf_20 : decode cX11_shelf 20 = .ok (.ireturn, 1) := by decide +kernel
theorem dX11_shelf_21 : decode cX11_shelf 21 = .ok (.aload_n 0, 1) := by decide +kernel
theorem dX11_shelf_22 : decode cX11_shelf 22 = .ok (.invokevirtual 206, 3) := by decide +kernel
theorem dX11_shelf_25 : decode cX11_shelf 25 = .ok (.aload_n 0, 1) := by decide +kernel
theorem dX11_shelf_26 : decode cX11_shelf 26 = .ok (.aload_n 0, 1) := by decide +kernel
theorem dX11_shelf_27 : decode cX11_shelf 27 = .ok (.invokevirtual 187, 3) := by decide +kernel
theorem dX11_shelf_30 : decode cX11_shelf 30 = .ok (.invokevirtual 200, 3) := by decide +kernel
theorem dX11_shelf_33 : decode cX11_shelf 33 = .ok (.aload_n 0, 1) := by decide +kernel
theorem dX11_shelf_34 : decode cX11_shelf 34 = .ok (.invokevirtual 146, 3) := by decide +kernel
theorem dX11_shelf_37 : decode cX11_shelf 37 = .ok (.ifCond .eq 18, 3) := by decide +kernel
theorem dX11_shelf_40 : decode cX11_shelf 40 = .ok (.aload_n 0, 1) := by decide +kernel
theorem dX11_shelf_41 : decode cX11_shelf 41 = .ok (.getfield 124, 3) := by decide +kernel
theorem dX11_shelf_44 : decode cX11_shelf 44 = .ok (.aload_n 0, 1) := by decide +kernel
theorem dX11_shelf_45 : decode cX11_shelf 45 = .ok (.getfield 118, 3) := by decide +kernel
theorem dX11_shelf_48 : decode cX11_shelf 48 = .ok (.if_icmp .ge 7, 3) := by decide +kernel
theorem dX11_shelf_51 : decode cX11_shelf 51 = .ok (.aload_n 0, 1) := by decide +kernel
theorem dX11_shelf_52 : decode cX11_shelf 52 = .ok (.invokevirtual 154, 3) := by decide +kernel
theorem dX11_shelf_55 : decode cX11_shelf 55 = .ok (.aload_n 0, 1) := by decide +kernel
theorem dX11_shelf_56 : decode cX11_shelf 56 = .ok (.aload_n 0, 1) := by decide +kernel
theorem dX11_shelf_57 : decode cX11_shelf 57 = .ok (.getfield 130, 3) := by decide +kernel
theorem dX11_shelf_60 : decode cX11_shelf 60 = .ok (.putfield 39, 3) := by decide +kernel
theorem dX11_shelf_63 : decode cX11_shelf 63 = .ok (.aload_n 0, 1) := by decide +kernel
theorem dX11_shelf_64 : decode cX11_shelf 64 = .ok (.invokevirtual 146, 3) := by decide +kernel
theorem dX11_shelf_67 : decode cX11_shelf 67 = .ok (.ifCond .ne 10, 3) := by decide +kernel
theorem dX11_shelf_70 : decode cX11_shelf 70 = .ok (.aload_n 0, 1) := by decide +kernel
theorem dX11_shelf_71 : decode cX11_shelf 71 = .ok (.bipush (-6), 2) := by decide +kernel
theorem dX11_shelf_73 : decode cX11_shelf 73 = .ok (.invokevirtual 108, 3) := by decide +kernel
theorem dX11_shelf_76 : decode cX11_shelf 76 = .ok (.ireturn, 1) := by decide +kernel
theorem dX11_shelf_77 : decode cX11_shelf 77 = .ok (.iconst 0, 1) := by decide +kernel
theorem dX11_shelf_78 : decode cX11_shelf 78 = .ok (.istore_n 1, 1) := by decide +kernel
theorem dX11_shelf_79 : decode cX11_shelf 79 = .ok (.iload_n 1, 1) := by decide +kernel
theorem dX11_shelf_80 : decode cX11_shelf 80 = .ok (.bipush 8, 2) := by decide +kernel
theorem dX11_shelf_82 : decode cX11_shelf 82 = .ok (.if_icmp .ge 29, 3) := by decide +kernel
theorem dX11_shelf_85 : decode cX11_shelf 85 = .ok (.aload_n 0, 1) := by decide +kernel
theorem dX11_shelf_86 : decode cX11_shelf 86 = .ok (.getfield 19, 3) := by decide +kernel
theorem dX11_shelf_89 : decode cX11_shelf 89 = .ok (.bipush 8, 2) := by decide +kernel
theorem dX11_shelf_91 : decode cX11_shelf 91 = .ok (.aload_n 0, 1) := by decide +kernel
theorem dX11_shelf_92 : decode cX11_shelf 92 = .ok (.getfield 212, 3) := by decide +kernel
theorem dX11_shelf_95 : decode cX11_shelf 95 = .ok (.imul, 1) := by decide +kernel
theorem dX11_shelf_96 : decode cX11_shelf 96 = .ok (.iload_n 1, 1) := by decide +kernel
theorem dX11_shelf_97 : decode cX11_shelf 97 = .ok (.iadd, 1) := by decide +kernel
theorem dX11_shelf_98 : decode cX11_shelf 98 = .ok (.aload_n 0, 1) := by decide +kernel
theorem dX11_shelf_99 : decode cX11_shelf 99 = .ok (.getfield 22, 3) := by decide +kernel
theorem dX11_shelf_102 : decode cX11_shelf 102 = .ok (.iload_n 1, 1) := by decide +kernel
theorem dX11_shelf_103 : decode cX11_shelf 103 = .ok (.iaload, 1) := by decide +kernel
theorem dX11_shelf_104 : decode cX11_shelf 104 = .ok (.iastore, 1) := by decide +kernel
theorem dX11_shelf_105 : decode cX11_shelf 105 = .ok (.iinc 1 1, 3) := by decide +kernel
theorem dX11_shelf_108 : decode cX11_shelf 108 = .ok (.goto (-29), 3) := by decide +kernel
theorem dX11_shelf_111 : decode cX11_shelf 111 = .ok (.aload_n 0, 1) := by decide +kernel
theorem dX11_shelf_112 : decode cX11_shelf 112 = .ok (.dup, 1) := by decide +kernel
theorem dX11_shelf_113 : decode cX11_shelf 113 = .ok (.getfield 212, 3) := by decide +kernel
theorem dX11_shelf_116 : decode cX11_shelf 116 = .ok (.iconst 1, 1) := by decide +kernel
theorem dX11_shelf_117 : decode cX11_shelf 117 = .ok (.iadd, 1) := by decide +kernel
theorem dX11_shelf_118 : decode cX11_shelf 118 = .ok (.putfield 212, 3) := by decide +kernel
theorem dX11_shelf_121 : decode cX11_shelf 121 = .ok (.aload_n 0, 1) := by decide +kernel
theorem dX11_shelf_122 : decode cX11_shelf 122 = .ok (.aload_n 0, 1) := by decide +kernel
theorem dX11_shelf_123 : decode cX11_shelf 123 = .ok (.getfield 212, 3) := by decide +kernel
theorem dX11_shelf_126 : decode cX11_shelf 126 = .ok (.iconst 1, 1) := by decide +kernel
theorem dX11_shelf_127 : decode cX11_shelf 127 = .ok (.isub, 1) := by decide +kernel
theorem dX11_shelf_128 : decode cX11_shelf 128 = .ok (.invokevirtual 108, 3) := by decide +kernel
theorem dX11_shelf_131 : decode cX11_shelf 131 = .ok (.ireturn, 1) := by decide +kernel
theorem dX11_fault_0 : decode cX11_fault 0 = .ok (.aload_n 0, 1) := by decide +kernel
theorem dX11_fault_1 : decode cX11_fault 1 = .ok (.getfield 39, 3) := by decide +kernel
theorem dX11_fault_4 : decode cX11_fault 4 = .ok (.ireturn, 1) := by decide +kernel
theorem dX11_measure_0 : decode cX11_measure 0 = .ok (.iload_n 0, 1) := by decide +kernel
theorem dX11_measure_1 : decode cX11_measure 1 = .ok (.iconst 2, 1) := by decide +kernel
theorem dX11_measure_2 : decode cX11_measure 2 = .ok (.if_icmp .ne 7, 3) := by decide +kernel
theorem dX11_measure_5 : decode cX11_measure 5 = .ok (.iconst 2, 1) := by decide +kernel
theorem dX11_measure_6 : decode cX11_measure 6 = .ok (.goto 4, 3) := by decide +kernel
theorem dX11_measure_9 : decode cX11_measure 9 = .ok (.iconst 5, 1) := by decide +kernel
theorem dX11_measure_10 : decode cX11_measure 10 = .ok (.ireturn, 1) := by decide +kernel
theorem dX11_power_0 : decode cX11_power 0 = .ok (.lconst 1, 1) := by decide +kernel
theorem dX11_power_1 : decode cX11_power 1 = .ok (.lstore_n 3, 1) := by decide +kernel
theorem dX11_power_2 : decode cX11_power 2 = .ok (.iconst 0, 1) := by decide +kernel
theorem dX11_power_3 : decode cX11_power 3 = .ok (.istore 5, 2) := by decide +kernel
theorem dX11_power_5 : decode cX11_power 5 = .ok (.iload 5, 2) := by decide +kernel
theorem dX11_power_7 : decode cX11_power 7 = .ok (.iload_n 2, 1) := by decide +kernel
theorem dX11_power_8 : decode cX11_power 8 = .ok (.if_icmp .ge 13, 3) := by decide +kernel
theorem dX11_power_11 : decode cX11_power 11 = .ok (.lload_n 3, 1) := by decide +kernel
theorem dX11_power_12 : decode cX11_power 12 = .ok (.lload_n 0, 1) := by decide +kernel
theorem dX11_power_13 : decode cX11_power 13 = .ok (.lmul, 1) := by decide +kernel
theorem dX11_power_14 : decode cX11_power 14 = .ok (.lstore_n 3, 1) := by decide +kernel
theorem dX11_power_15 : decode cX11_power 15 = .ok (.iinc 5 1, 3) := by decide +kernel
theorem dX11_power_18 : decode cX11_power 18 = .ok (.goto (-13), 3) := by decide +kernel
theorem dX11_power_21 : decode cX11_power 21 = .ok (.lload_n 3, 1) := by decide +kernel
theorem dX11_power_22 : decode cX11_power 22 = .ok (.lreturn, 1) := by decide +kernel
theorem dX11_deepOf_0 : decode cX11_deepOf 0 = .ok (.lconst 1, 1) := by decide +kernel
theorem dX11_deepOf_1 : decode cX11_deepOf 1 = .ok (.lstore 4, 2) := by decide +kernel
theorem dX11_deepOf_3 : decode cX11_deepOf 3 = .ok (.iconst 0, 1) := by decide +kernel
theorem dX11_deepOf_4 : decode cX11_deepOf 4 = .ok (.istore 6, 2) := by decide +kernel
theorem dX11_deepOf_6 : decode cX11_deepOf 6 = .ok (.iload 6, 2) := by decide +kernel
theorem dX11_deepOf_8 : decode cX11_deepOf 8 = .ok (.iload_n 2, 1) := by decide +kernel
theorem dX11_deepOf_9 : decode cX11_deepOf 9 = .ok (.if_icmp .ge 55, 3) := by decide +kernel
theorem dX11_deepOf_12 : decode cX11_deepOf 12 = .ok (.aload_n 0, 1) := by decide +kernel
theorem dX11_deepOf_13 : decode cX11_deepOf 13 = .ok (.iload_n 1, 1) := by decide +kernel
theorem dX11_deepOf_14 : decode cX11_deepOf 14 = .ok (.bipush 8, 2) := by decide +kernel
theorem dX11_deepOf_16 : decode cX11_deepOf 16 = .ok (.iload 6, 2) := by decide +kernel
theorem dX11_deepOf_18 : decode cX11_deepOf 18 = .ok (.imul, 1) := by decide +kernel
theorem dX11_deepOf_19 : decode cX11_deepOf 19 = .ok (.iadd, 1) := by decide +kernel
theorem dX11_deepOf_20 : decode cX11_deepOf 20 = .ok (.iconst 3, 1) := by decide +kernel
theorem dX11_deepOf_21 : decode cX11_deepOf 21 = .ok (.iadd, 1) := by decide +kernel
theorem dX11_deepOf_22 : decode cX11_deepOf 22 = .ok (.iaload, 1) := by decide +kernel
theorem dX11_deepOf_23 : decode cX11_deepOf 23 = .ok (.istore 7, 2) := by decide +kernel
theorem dX11_deepOf_25 : decode cX11_deepOf 25 = .ok (.iload 7, 2) := by decide +kernel
theorem dX11_deepOf_27 : decode cX11_deepOf 27 = .ok (.iconst (-1), 1) := by decide +kernel
theorem dX11_deepOf_28 : decode cX11_deepOf 28 = .ok (.if_icmp .eq 18, 3) := by decide +kernel
theorem dX11_deepOf_31 : decode cX11_deepOf 31 = .ok (.lload 4, 2) := by decide +kernel
theorem dX11_deepOf_33 : decode cX11_deepOf 33 = .ok (.iload 7, 2) := by decide +kernel
theorem dX11_deepOf_35 : decode cX11_deepOf 35 = .ok (.invokestatic 215, 3) := by decide +kernel
theorem dX11_deepOf_38 : decode cX11_deepOf 38 = .ok (.i2l, 1) := by decide +kernel
theorem dX11_deepOf_39 : decode cX11_deepOf 39 = .ok (.iload_n 3, 1) := by decide +kernel
theorem dX11_deepOf_40 : decode cX11_deepOf 40 = .ok (.invokestatic 218, 3) := by decide +kernel
theorem dX11_deepOf_43 : decode cX11_deepOf 43 = .ok (.lmul, 1) := by decide +kernel
theorem dX11_deepOf_44 : decode cX11_deepOf 44 = .ok (.lstore 4, 2) := by decide +kernel
theorem dX11_deepOf_46 : decode cX11_deepOf 46 = .ok (.lload 4, 2) := by decide +kernel
theorem dX11_deepOf_48 : decode cX11_deepOf 48 = .ok (.ldc2_w 222, 3) := by decide +kernel
theorem dX11_deepOf_51 : decode cX11_deepOf 51 = .ok (.lcmp, 1) := by decide +kernel
theorem dX11_deepOf_52 : decode cX11_deepOf 52 = .ok (.ifCond .le 6, 3) := by decide +kernel
theorem dX11_deepOf_55 : decode cX11_deepOf 55 = .ok (.ldc 224, 2) := by decide +kernel
theorem dX11_deepOf_57 : decode cX11_deepOf 57 = .ok (.ireturn, 1) := by decide +kernel
theorem dX11_deepOf_58 : decode cX11_deepOf 58 = .ok (.iinc 6 1, 3) := by decide +kernel
theorem dX11_deepOf_61 : decode cX11_deepOf 61 = .ok (.goto (-55), 3) := by decide +kernel
theorem dX11_deepOf_64 : decode cX11_deepOf 64 = .ok (.lload 4, 2) := by decide +kernel
theorem dX11_deepOf_66 : decode cX11_deepOf 66 = .ok (.l2i, 1) := by decide +kernel
theorem dX11_deepOf_67 : decode cX11_deepOf 67 = .ok (.ireturn, 1) := by decide +kernel
theorem dX11_modeAt_0 : decode cX11_modeAt 0 = .ok (.iload_n 1, 1) := by decide +kernel
theorem dX11_modeAt_1 : decode cX11_modeAt 1 = .ok (.istore_n 3, 1) := by decide +kernel
theorem dX11_modeAt_2 : decode cX11_modeAt 2 = .ok (.aload_n 0, 1) := by decide +kernel
theorem dX11_modeAt_3 : decode cX11_modeAt 3 = .ok (.getfield 225, 3) := by decide +kernel
theorem dX11_modeAt_6 : decode cX11_modeAt 6 = .ok (.iconst 1, 1) := by decide +kernel
theorem dX11_modeAt_7 : decode cX11_modeAt 7 = .ok (.isub, 1) := by decide +kernel
theorem dX11_modeAt_8 : decode cX11_modeAt 8 = .ok (.istore 4, 2) := by decide +kernel
theorem dX11_modeAt_10 : decode cX11_modeAt 10 = .ok (.iload 4, 2) := by decide +kernel
theorem dX11_modeAt_12 : decode cX11_modeAt 12 = .ok (.iload_n 2, 1) := by decide +kernel
theorem dX11_modeAt_13 : decode cX11_modeAt 13 = .ok (.if_icmp .le 14, 3) := by decide +kernel
theorem dX11_modeAt_16 : decode cX11_modeAt 16 = .ok (.iload_n 3, 1) := by decide +kernel
theorem dX11_modeAt_17 : decode cX11_modeAt 17 = .ok (.bipush 16, 2) := by decide +kernel
theorem dX11_modeAt_19 : decode cX11_modeAt 19 = .ok (.idiv, 1) := by decide +kernel
theorem dX11_modeAt_20 : decode cX11_modeAt 20 = .ok (.istore_n 3, 1) := by decide +kernel
theorem dX11_modeAt_21 : decode cX11_modeAt 21 = .ok (.iinc 4 (-1), 3) := by decide +kernel
theorem dX11_modeAt_24 : decode cX11_modeAt 24 = .ok (.goto (-14), 3) := by decide +kernel
theorem dX11_modeAt_27 : decode cX11_modeAt 27 = .ok (.iload_n 3, 1) := by decide +kernel
theorem dX11_modeAt_28 : decode cX11_modeAt 28 = .ok (.bipush 16, 2) := by decide +kernel
theorem dX11_modeAt_30 : decode cX11_modeAt 30 = .ok (.irem, 1) := by decide +kernel
theorem dX11_modeAt_31 : decode cX11_modeAt 31 = .ok (.ireturn, 1) := by decide +kernel
theorem dX11_placeAt_0 : decode cX11_placeAt 0 = .ok (.ldc2_w 228, 3) := by decide +kernel
theorem dX11_placeAt_3 : decode cX11_placeAt 3 = .ok (.aload_n 0, 1) := by decide +kernel
theorem dX11_placeAt_4 : decode cX11_placeAt 4 = .ok (.getfield 225, 3) := by decide +kernel
theorem dX11_placeAt_7 : decode cX11_placeAt 7 = .ok (.iconst 1, 1) := by decide +kernel
theorem dX11_placeAt_8 : decode cX11_placeAt 8 = .ok (.isub, 1) := by decide +kernel
theorem dX11_placeAt_9 : decode cX11_placeAt 9 = .ok (.iload_n 1, 1) := by decide +kernel
theorem dX11_placeAt_10 : decode cX11_placeAt 10 = .ok (.isub, 1) := by decide +kernel
theorem dX11_placeAt_11 : decode cX11_placeAt 11 = .ok (.invokestatic 218, 3) := by decide +kernel
theorem dX11_placeAt_14 : decode cX11_placeAt 14 = .ok (.l2i, 1) := by decide +kernel
theorem dX11_placeAt_15 : decode cX11_placeAt 15 = .ok (.ireturn, 1) := by decide +kernel
theorem dX11_puts_0 : decode cX11_puts 0 = .ok (.aload_n 0, 1) := by decide +kernel
theorem dX11_puts_1 : decode cX11_puts 1 = .ok (.iconst 0, 1) := by decide +kernel
theorem dX11_puts_2 : decode cX11_puts 2 = .ok (.lload_n 1, 1) := by decide +kernel
theorem dX11_puts_3 : decode cX11_puts 3 = .ok (.lastore, 1) := by decide +kernel
theorem dX11_puts_4 : decode cX11_puts 4 = .ok (.aload_n 0, 1) := by decide +kernel
theorem dX11_puts_5 : decode cX11_puts 5 = .ok (.iconst 1, 1) := by decide +kernel
theorem dX11_puts_6 : decode cX11_puts 6 = .ok (.lload_n 3, 1) := by decide +kernel
theorem dX11_puts_7 : decode cX11_puts 7 = .ok (.lastore, 1) := by decide +kernel
theorem dX11_puts_8 : decode cX11_puts 8 = .ok (.aload_n 0, 1) := by decide +kernel
theorem dX11_puts_9 : decode cX11_puts 9 = .ok (.iconst 2, 1) := by decide +kernel
theorem dX11_puts_10 : decode cX11_puts 10 = .ok (.lload 5, 2) := by decide +kernel
theorem dX11_puts_12 : decode cX11_puts 12 = .ok (.lastore, 1) := by decide +kernel
theorem dX11_puts_13 : decode cX11_puts 13 = .ok (.aload_n 0, 1) := by decide +kernel
theorem dX11_puts_14 : decode cX11_puts 14 = .ok (.iconst 3, 1) := by decide +kernel
theorem dX11_puts_15 : decode cX11_puts 15 = .ok (.lload 7, 2) := by decide +kernel
theorem dX11_puts_17 : decode cX11_puts 17 = .ok (.lastore, 1) := by decide +kernel
theorem dX11_puts_18 : decode cX11_puts 18 = .ok (.return_, 1) := by decide +kernel
theorem dX11_some_0 : decode cX11_some 0 = .ok (.iload_n 1, 1) := by decide +kernel
theorem dX11_some_1 : decode cX11_some 1 = .ok (.iconst 2, 1) := by decide +kernel
theorem dX11_some_2 : decode cX11_some 2 = .ok (.if_icmp .ne 7, 3) := by decide +kernel
theorem dX11_some_5 : decode cX11_some 5 = .ok (.lconst 0, 1) := by decide +kernel
theorem dX11_some_6 : decode cX11_some 6 = .ok (.goto 25, 3) := by decide +kernel
theorem dX11_some_9 : decode cX11_some 9 = .ok (.iload_n 1, 1) := by decide +kernel
theorem dX11_some_10 : decode cX11_some 10 = .ok (.ifCond .ne 7, 3) := by decide +kernel
theorem dX11_some_13 : decode cX11_some 13 = .ok (.iconst 1, 1) := by decide +kernel
theorem dX11_some_14 : decode cX11_some 14 = .ok (.goto 4, 3) := by decide +kernel
theorem dX11_some_17 : decode cX11_some 17 = .ok (.iconst 0, 1) := by decide +kernel
theorem dX11_some_18 : decode cX11_some 18 = .ok (.iload_n 2, 1) := by decide +kernel
theorem dX11_some_19 : decode cX11_some 19 = .ok (.if_icmp .ne 9, 3) := by decide +kernel
theorem dX11_some_22 : decode cX11_some 22 = .ok (.ldc2_w 230, 3) := by decide +kernel
theorem dX11_some_25 : decode cX11_some 25 = .ok (.goto 6, 3) := by decide +kernel
theorem dX11_some_28 : decode cX11_some 28 = .ok (.ldc2_w 232, 3) := by decide +kernel
theorem dX11_some_31 : decode cX11_some 31 = .ok (.lstore 5, 2) := by decide +kernel
theorem dX11_some_33 : decode cX11_some 33 = .ok (.iload_n 1, 1) := by decide +kernel
theorem dX11_some_34 : decode cX11_some 34 = .ok (.iconst 2, 1) := by decide +kernel
theorem dX11_some_35 : decode cX11_some 35 = .ok (.if_icmp .ne 7, 3) := by decide +kernel
theorem dX11_some_38 : decode cX11_some 38 = .ok (.lconst 1, 1) := by decide +kernel
theorem dX11_some_39 : decode cX11_some 39 = .ok (.goto 4, 3) := by decide +kernel
theorem dX11_some_42 : decode cX11_some 42 = .ok (.lconst 0, 1) := by decide +kernel
theorem dX11_some_43 : decode cX11_some 43 = .ok (.lstore 7, 2) := by decide +kernel
theorem dX11_some_45 : decode cX11_some 45 = .ok (.iload_n 3, 1) := by decide +kernel
theorem dX11_some_46 : decode cX11_some 46 = .ok (.ifCond .eq 24, 3) := by decide +kernel
theorem dX11_some_49 : decode cX11_some 49 = .ok (.aload_n 0, 1) := by decide +kernel
theorem dX11_some_50 : decode cX11_some 50 = .ok (.lconst 0, 1) := by decide +kernel
theorem dX11_some_51 : decode cX11_some 51 = .ok (.lconst 0, 1) := by decide +kernel
theorem dX11_some_52 : decode cX11_some 52 = .ok (.iload 4, 2) := by decide +kernel
theorem dX11_some_54 : decode cX11_some 54 = .ok (.i2l, 1) := by decide +kernel
theorem dX11_some_55 : decode cX11_some 55 = .ok (.lload 5, 2) := by decide +kernel
theorem dX11_some_57 : decode cX11_some 57 = .ok (.lmul, 1) := by decide +kernel
theorem dX11_some_58 : decode cX11_some 58 = .ok (.iload 4, 2) := by decide +kernel
theorem dX11_some_60 : decode cX11_some 60 = .ok (.i2l, 1) := by decide +kernel
theorem dX11_some_61 : decode cX11_some 61 = .ok (.lload 7, 2) := by decide +kernel
theorem dX11_some_63 : decode cX11_some 63 = .ok (.lmul, 1) := by decide +kernel
theorem dX11_some_64 : decode cX11_some 64 = .ok (.invokestatic 234, 3) := by decide +kernel
theorem dX11_some_67 : decode cX11_some 67 = .ok (.goto 21, 3) := by decide +kernel
theorem dX11_some_70 : decode cX11_some 70 = .ok (.aload_n 0, 1) := by decide +kernel
theorem dX11_some_71 : decode cX11_some 71 = .ok (.iload 4, 2) := by decide +kernel
theorem dX11_some_73 : decode cX11_some 73 = .ok (.i2l, 1) := by decide +kernel
theorem dX11_some_74 : decode cX11_some 74 = .ok (.lload 5, 2) := by decide +kernel
theorem dX11_some_76 : decode cX11_some 76 = .ok (.lmul, 1) := by decide +kernel
theorem dX11_some_77 : decode cX11_some 77 = .ok (.iload 4, 2) := by decide +kernel
theorem dX11_some_79 : decode cX11_some 79 = .ok (.i2l, 1) := by decide +kernel
theorem dX11_some_80 : decode cX11_some 80 = .ok (.lload 7, 2) := by decide +kernel
theorem dX11_some_82 : decode cX11_some 82 = .ok (.lmul, 1) := by decide +kernel
theorem dX11_some_83 : decode cX11_some 83 = .ok (.lconst 0, 1) := by decide +kernel
theorem dX11_some_84 : decode cX11_some 84 = .ok (.lconst 0, 1) := by decide +kernel
theorem dX11_some_85 : decode cX11_some 85 = .ok (.invokestatic 234, 3) := by decide +kernel
theorem dX11_some_88 : decode cX11_some 88 = .ok (.return_, 1) := by decide +kernel
theorem dX11_acts_0 : decode cX11_acts 0 = .ok (.aload_n 1, 1) := by decide +kernel
theorem dX11_acts_1 : decode cX11_acts 1 = .ok (.iload_n 2, 1) := by decide +kernel
theorem dX11_acts_2 : decode cX11_acts 2 = .ok (.iaload, 1) := by decide +kernel
theorem dX11_acts_3 : decode cX11_acts 3 = .ok (.istore 4, 2) := by decide +kernel
theorem dX11_acts_5 : decode cX11_acts 5 = .ok (.iload_n 3, 1) := by decide +kernel
theorem dX11_acts_6 : decode cX11_acts 6 = .ok (.iconst 2, 1) := by decide +kernel
theorem dX11_acts_7 : decode cX11_acts 7 = .ok (.idiv, 1) := by decide +kernel
theorem dX11_acts_8 : decode cX11_acts 8 = .ok (.istore 5, 2) := by decide +kernel
theorem dX11_acts_10 : decode cX11_acts 10 = .ok (.iload_n 3, 1) := by decide +kernel
theorem dX11_acts_11 : decode cX11_acts 11 = .ok (.iconst 2, 1) := by decide +kernel
theorem dX11_acts_12 : decode cX11_acts 12 = .ok (.irem, 1) := by decide +kernel
theorem dX11_acts_13 : decode cX11_acts 13 = .ok (.istore 6, 2) := by decide +kernel
theorem dX11_acts_15 : decode cX11_acts 15 = .ok (.aload_n 1, 1) := by decide +kernel
theorem dX11_acts_16 : decode cX11_acts 16 = .ok (.iload_n 2, 1) := by decide +kernel
theorem dX11_acts_17 : decode cX11_acts 17 = .ok (.iconst 3, 1) := by decide +kernel
theorem dX11_acts_18 : decode cX11_acts 18 = .ok (.iadd, 1) := by decide +kernel
theorem dX11_acts_19 : decode cX11_acts 19 = .ok (.iaload, 1) := by decide +kernel
theorem dX11_acts_20 : decode cX11_acts 20 = .ok (.istore 7, 2) := by decide +kernel
theorem dX11_acts_22 : decode cX11_acts 22 = .ok (.iload 7, 2) := by decide +kernel
theorem dX11_acts_24 : decode cX11_acts 24 = .ok (.iconst (-1), 1) := by decide +kernel
theorem dX11_acts_25 : decode cX11_acts 25 = .ok (.if_icmp .ne 7, 3) := by decide +kernel
theorem dX11_acts_28 : decode cX11_acts 28 = .ok (.iconst 1, 1) := by decide +kernel
theorem dX11_acts_29 : decode cX11_acts 29 = .ok (.goto 8, 3) := by decide +kernel
theorem dX11_acts_32 : decode cX11_acts 32 = .ok (.iload 7, 2) := by decide +kernel
theorem dX11_acts_34 : decode cX11_acts 34 = .ok (.invokestatic 215, 3) := by decide +kernel
theorem dX11_acts_37 : decode cX11_acts 37 = .ok (.istore 8, 2) := by decide +kernel
theorem dX11_acts_39 : decode cX11_acts 39 = .ok (.aload_n 0, 1) := by decide +kernel
theorem dX11_acts_40 : decode cX11_acts 40 = .ok (.iload_n 3, 1) := by decide +kernel
theorem dX11_acts_41 : decode cX11_acts 41 = .ok (.putfield 238, 3) := by decide +kernel
theorem dX11_acts_44 : decode cX11_acts 44 = .ok (.aload_n 0, 1) := by decide +kernel
theorem dX11_acts_45 : decode cX11_acts 45 = .ok (.getfield 53, 3) := by decide +kernel
theorem dX11_acts_48 : decode cX11_acts 48 = .ok (.iload 8, 2) := by decide +kernel
theorem dX11_acts_50 : decode cX11_acts 50 = .ok (.i2l, 1) := by decide +kernel
theorem dX11_acts_51 : decode cX11_acts 51 = .ok (.lconst 0, 1) := by decide +kernel
theorem dX11_acts_52 : decode cX11_acts 52 = .ok (.lconst 0, 1) := by decide +kernel
theorem dX11_acts_53 : decode cX11_acts 53 = .ok (.lconst 0, 1) := by decide +kernel
theorem dX11_acts_54 : decode cX11_acts 54 = .ok (.invokestatic 234, 3) := by decide +kernel
theorem dX11_acts_57 : decode cX11_acts 57 = .ok (.aload_n 0, 1) := by decide +kernel
theorem dX11_acts_58 : decode cX11_acts 58 = .ok (.getfield 56, 3) := by decide +kernel
theorem dX11_acts_61 : decode cX11_acts 61 = .ok (.lconst 0, 1) := by decide +kernel
theorem dX11_acts_62 : decode cX11_acts 62 = .ok (.lconst 0, 1) := by decide +kernel
theorem dX11_acts_63 : decode cX11_acts 63 = .ok (.lconst 0, 1) := by decide +kernel
theorem dX11_acts_64 : decode cX11_acts 64 = .ok (.lconst 0, 1) := by decide +kernel
theorem dX11_acts_65 : decode cX11_acts 65 = .ok (.invokestatic 234, 3) := by decide +kernel
theorem dX11_acts_68 : decode cX11_acts 68 = .ok (.iload 5, 2) := by decide +kernel
theorem dX11_acts_70 : decode cX11_acts 70 = .ok (.iconst 4, 1) := by decide +kernel
theorem dX11_acts_71 : decode cX11_acts 71 = .ok (.if_icmp .le 4, 3) := by decide +kernel
theorem dX11_acts_74 : decode cX11_acts 74 = .ok (.return_, 1) := by decide +kernel
theorem dX11_acts_75 : decode cX11_acts 75 = .ok (.iload 4, 2) := by decide +kernel
theorem dX11_acts_77 : decode cX11_acts 77 = .ok (.ifCond .ne 82, 3) := by decide +kernel
theorem dX11_acts_80 : decode cX11_acts 80 = .ok (.iload 5, 2) := by decide +kernel
theorem dX11_acts_82 : decode cX11_acts 82 = .ok (.aload_n 1, 1) := by decide +kernel
theorem dX11_acts_83 : decode cX11_acts 83 = .ok (.iload_n 2, 1) := by decide +kernel
theorem dX11_acts_84 : decode cX11_acts 84 = .ok (.iconst 1, 1) := by decide +kernel
theorem dX11_acts_85 : decode cX11_acts 85 = .ok (.iadd, 1) := by decide +kernel
theorem dX11_acts_86 : decode cX11_acts 86 = .ok (.iaload, 1) := by decide +kernel
theorem dX11_acts_87 : decode cX11_acts 87 = .ok (.if_icmp .eq 13, 3) := by decide +kernel
theorem dX11_acts_90 : decode cX11_acts 90 = .ok (.iload 5, 2) := by decide +kernel
theorem dX11_acts_92 : decode cX11_acts 92 = .ok (.aload_n 1, 1) := by decide +kernel
theorem dX11_acts_93 : decode cX11_acts 93 = .ok (.iload_n 2, 1) := by decide +kernel
theorem dX11_acts_94 : decode cX11_acts 94 = .ok (.iconst 2, 1) := by decide +kernel
theorem dX11_acts_95 : decode cX11_acts 95 = .ok (.iadd, 1) := by decide +kernel
theorem dX11_acts_96 : decode cX11_acts 96 = .ok (.iaload, 1) := by decide +kernel
theorem dX11_acts_97 : decode cX11_acts 97 = .ok (.if_icmp .ne 62, 3) := by decide +kernel
theorem dX11_acts_100 : decode cX11_acts 100 = .ok (.aload_n 0, 1) := by decide +kernel
theorem dX11_acts_101 : decode cX11_acts 101 = .ok (.getfield 53, 3) := by decide +kernel
theorem dX11_acts_104 : decode cX11_acts 104 = .ok (.iload 7, 2) := by decide +kernel
theorem dX11_acts_106 : decode cX11_acts 106 = .ok (.iconst 1, 1) := by decide +kernel
theorem dX11_acts_107 : decode cX11_acts 107 = .ok (.iconst 0, 1) := by decide +kernel
theorem dX11_acts_108 : decode cX11_acts 108 = .ok (.iconst 1, 1) := by decide +kernel
theorem dX11_acts_109 : decode cX11_acts 109 = .ok (.invokestatic 241, 3) := by decide +kernel
theorem dX11_acts_112 : decode cX11_acts 112 = .ok (.aload_n 0, 1) := by decide +kernel
theorem dX11_acts_113 : decode cX11_acts 113 = .ok (.getfield 56, 3) := by decide +kernel
theorem dX11_acts_116 : decode cX11_acts 116 = .ok (.iload 7, 2) := by decide +kernel
theorem dX11_acts_118 : decode cX11_acts 118 = .ok (.iconst 0, 1) := by decide +kernel
theorem dX11_acts_119 : decode cX11_acts 119 = .ok (.iconst 1, 1) := by decide +kernel
theorem dX11_acts_120 : decode cX11_acts 120 = .ok (.iconst 1, 1) := by decide +kernel
theorem dX11_acts_121 : decode cX11_acts 121 = .ok (.invokestatic 241, 3) := by decide +kernel
theorem dX11_acts_124 : decode cX11_acts 124 = .ok (.aload_n 0, 1) := by decide +kernel
theorem dX11_acts_125 : decode cX11_acts 125 = .ok (.iconst 2, 1) := by decide +kernel
theorem dX11_acts_126 : decode cX11_acts 126 = .ok (.iload 5, 2) := by decide +kernel
theorem dX11_acts_128 : decode cX11_acts 128 = .ok (.aload_n 1, 1) := by decide +kernel
theorem dX11_acts_129 : decode cX11_acts 129 = .ok (.iload_n 2, 1) := by decide +kernel
theorem dX11_acts_130 : decode cX11_acts 130 = .ok (.iconst 1, 1) := by decide +kernel
theorem dX11_acts_131 : decode cX11_acts 131 = .ok (.iadd, 1) := by decide +kernel
theorem dX11_acts_132 : decode cX11_acts 132 = .ok (.iaload, 1) := by decide +kernel
theorem dX11_acts_133 : decode cX11_acts 133 = .ok (.if_icmp .ne 11, 3) := by decide +kernel
theorem dX11_acts_136 : decode cX11_acts 136 = .ok (.aload_n 1, 1) := by decide +kernel
theorem dX11_acts_137 : decode cX11_acts 137 = .ok (.iload_n 2, 1) := by decide +kernel
theorem dX11_acts_138 : decode cX11_acts 138 = .ok (.iconst 2, 1) := by decide +kernel
theorem dX11_acts_139 : decode cX11_acts 139 = .ok (.iadd, 1) := by decide +kernel
theorem dX11_acts_140 : decode cX11_acts 140 = .ok (.iaload, 1) := by decide +kernel
theorem dX11_acts_141 : decode cX11_acts 141 = .ok (.goto 8, 3) := by decide +kernel
theorem dX11_acts_144 : decode cX11_acts 144 = .ok (.aload_n 1, 1) := by decide +kernel
theorem dX11_acts_145 : decode cX11_acts 145 = .ok (.iload_n 2, 1) := by decide +kernel
theorem dX11_acts_146 : decode cX11_acts 146 = .ok (.iconst 1, 1) := by decide +kernel
theorem dX11_acts_147 : decode cX11_acts 147 = .ok (.iadd, 1) := by decide +kernel
theorem dX11_acts_148 : decode cX11_acts 148 = .ok (.iaload, 1) := by decide +kernel
theorem dX11_acts_149 : decode cX11_acts 149 = .ok (.imul, 1) := by decide +kernel
theorem dX11_acts_150 : decode cX11_acts 150 = .ok (.iload 6, 2) := by decide +kernel
theorem dX11_acts_152 : decode cX11_acts 152 = .ok (.iadd, 1) := by decide +kernel
theorem dX11_acts_153 : decode cX11_acts 153 = .ok (.putfield 238, 3) := by decide +kernel
theorem dX11_acts_156 : decode cX11_acts 156 = .ok (.goto 303, 3) := by decide +kernel
theorem dX11_acts_159 : decode cX11_acts 159 = .ok (.iload 4, 2) := by decide +kernel
theorem dX11_acts_161 : decode cX11_acts 161 = .ok (.iconst 1, 1) := by decide +kernel
theorem dX11_acts_162 : decode cX11_acts 162 = .ok (.if_icmp .ne 56, 3) := by decide +kernel
theorem dX11_acts_165 : decode cX11_acts 165 = .ok (.iload 5, 2) := by decide +kernel
theorem dX11_acts_167 : decode cX11_acts 167 = .ok (.aload_n 1, 1) := by decide +kernel
theorem dX11_acts_168 : decode cX11_acts 168 = .ok (.iload_n 2, 1) := by decide +kernel
theorem dX11_acts_169 : decode cX11_acts 169 = .ok (.iconst 1, 1) := by decide +kernel
theorem dX11_acts_170 : decode cX11_acts 170 = .ok (.iadd, 1) := by decide +kernel
theorem dX11_acts_171 : decode cX11_acts 171 = .ok (.iaload, 1) := by decide +kernel
theorem dX11_acts_172 : decode cX11_acts 172 = .ok (.if_icmp .ne 46, 3) := by decide +kernel
theorem dX11_acts_175 : decode cX11_acts 175 = .ok (.aload_n 0, 1) := by decide +kernel
theorem dX11_acts_176 : decode cX11_acts 176 = .ok (.getfield 53, 3) := by decide +kernel
theorem dX11_acts_179 : decode cX11_acts 179 = .ok (.iload 7, 2) := by decide +kernel
theorem dX11_acts_181 : decode cX11_acts 181 = .ok (.iconst 1, 1) := by decide +kernel
theorem dX11_acts_182 : decode cX11_acts 182 = .ok (.iconst 0, 1) := by decide +kernel
theorem dX11_acts_183 : decode cX11_acts 183 = .ok (.iconst 1, 1) := by decide +kernel
theorem dX11_acts_184 : decode cX11_acts 184 = .ok (.invokestatic 241, 3) := by decide +kernel
theorem dX11_acts_187 : decode cX11_acts 187 = .ok (.aload_n 0, 1) := by decide +kernel
theorem dX11_acts_188 : decode cX11_acts 188 = .ok (.getfield 56, 3) := by decide +kernel
theorem dX11_acts_191 : decode cX11_acts 191 = .ok (.iload 7, 2) := by decide +kernel
theorem dX11_acts_193 : decode cX11_acts 193 = .ok (.iconst 0, 1) := by decide +kernel
theorem dX11_acts_194 : decode cX11_acts 194 = .ok (.iconst 0, 1) := by decide +kernel
theorem dX11_acts_195 : decode cX11_acts 195 = .ok (.iload 6, 2) := by decide +kernel
theorem dX11_acts_197 : decode cX11_acts 197 = .ok (.ifCond .ne 7, 3) := by decide +kernel
theorem dX11_acts_200 : decode cX11_acts 200 = .ok (.iconst 1, 1) := by decide +kernel
theorem dX11_acts_201 : decode cX11_acts 201 = .ok (.goto 4, 3) := by decide +kernel
theorem dX11_acts_204 : decode cX11_acts 204 = .ok (.iconst (-1), 1) := by decide +kernel
theorem dX11_acts_205 : decode cX11_acts 205 = .ok (.invokestatic 241, 3) := by decide +kernel
theorem dX11_acts_208 : decode cX11_acts 208 = .ok (.aload_n 0, 1) := by decide +kernel
theorem dX11_acts_209 : decode cX11_acts 209 = .ok (.iload_n 3, 1) := by decide +kernel
theorem dX11_acts_210 : decode cX11_acts 210 = .ok (.iconst 1, 1) := by decide +kernel
theorem dX11_acts_211 : decode cX11_acts 211 = .ok (.ixor, 1) := by decide +kernel
theorem dX11_acts_212 : decode cX11_acts 212 = .ok (.putfield 238, 3) := by decide +kernel
theorem dX11_acts_215 : decode cX11_acts 215 = .ok (.goto 244, 3) := by decide +kernel
theorem dX11_acts_218 : decode cX11_acts 218 = .ok (.iload 4, 2) := by decide +kernel
theorem dX11_acts_220 : decode cX11_acts 220 = .ok (.iconst 4, 1) := by decide +kernel
theorem dX11_acts_221 : decode cX11_acts 221 = .ok (.if_icmp .ne 57, 3) := by decide +kernel
theorem dX11_acts_224 : decode cX11_acts 224 = .ok (.iload 5, 2) := by decide +kernel
theorem dX11_acts_226 : decode cX11_acts 226 = .ok (.aload_n 1, 1) := by decide +kernel
theorem dX11_acts_227 : decode cX11_acts 227 = .ok (.iload_n 2, 1) := by decide +kernel
theorem dX11_acts_228 : decode cX11_acts 228 = .ok (.iconst 1, 1) := by decide +kernel
theorem dX11_acts_229 : decode cX11_acts 229 = .ok (.iadd, 1) := by decide +kernel
theorem dX11_acts_230 : decode cX11_acts 230 = .ok (.iaload, 1) := by decide +kernel
theorem dX11_acts_231 : decode cX11_acts 231 = .ok (.if_icmp .ne 47, 3) := by decide +kernel
theorem dX11_acts_234 : decode cX11_acts 234 = .ok (.aload_n 0, 1) := by decide +kernel
theorem dX11_acts_235 : decode cX11_acts 235 = .ok (.getfield 53, 3) := by decide +kernel
theorem dX11_acts_238 : decode cX11_acts 238 = .ok (.iload 7, 2) := by decide +kernel
theorem dX11_acts_240 : decode cX11_acts 240 = .ok (.iconst 1, 1) := by decide +kernel
theorem dX11_acts_241 : decode cX11_acts 241 = .ok (.iconst 0, 1) := by decide +kernel
theorem dX11_acts_242 : decode cX11_acts 242 = .ok (.iconst 1, 1) := by decide +kernel
theorem dX11_acts_243 : decode cX11_acts 243 = .ok (.invokestatic 241, 3) := by decide +kernel
theorem dX11_acts_246 : decode cX11_acts 246 = .ok (.aload_n 0, 1) := by decide +kernel
theorem dX11_acts_247 : decode cX11_acts 247 = .ok (.getfield 56, 3) := by decide +kernel
theorem dX11_acts_250 : decode cX11_acts 250 = .ok (.iload 7, 2) := by decide +kernel
theorem dX11_acts_252 : decode cX11_acts 252 = .ok (.iconst 0, 1) := by decide +kernel
theorem dX11_acts_253 : decode cX11_acts 253 = .ok (.iconst 1, 1) := by decide +kernel
theorem dX11_acts_254 : decode cX11_acts 254 = .ok (.iconst 1, 1) := by decide +kernel
theorem dX11_acts_255 : decode cX11_acts 255 = .ok (.invokestatic 241, 3) := by decide +kernel
theorem dX11_acts_258 : decode cX11_acts 258 = .ok (.aload_n 0, 1) := by decide +kernel
theorem dX11_acts_259 : decode cX11_acts 259 = .ok (.bipush 10, 2) := by decide +kernel
theorem dX11_acts_261 : decode cX11_acts 261 = .ok (.iconst 2, 1) := by decide +kernel
theorem dX11_acts_262 : decode cX11_acts 262 = .ok (.aload_n 1, 1) := by decide +kernel
theorem dX11_acts_263 : decode cX11_acts 263 = .ok (.iload_n 2, 1) := by decide +kernel
theorem dX11_acts_264 : decode cX11_acts 264 = .ok (.iconst 2, 1) := by decide +kernel
theorem dX11_acts_265 : decode cX11_acts 265 = .ok (.iadd, 1) := by decide +kernel
theorem dX11_acts_266 : decode cX11_acts 266 = .ok (.iaload, 1) := by decide +kernel
theorem dX11_acts_267 : decode cX11_acts 267 = .ok (.imul, 1) := by decide +kernel
theorem dX11_acts_268 : decode cX11_acts 268 = .ok (.iadd, 1) := by decide +kernel
theorem dX11_acts_269 : decode cX11_acts 269 = .ok (.iload 6, 2) := by decide +kernel
theorem dX11_acts_271 : decode cX11_acts 271 = .ok (.iadd, 1) := by decide +kernel
theorem dX11_acts_272 : decode cX11_acts 272 = .ok (.putfield 238, 3) := by decide +kernel
theorem dX11_acts_275 : decode cX11_acts 275 = .ok (.goto 184, 3) := by decide +kernel
theorem dX11_acts_278 : decode cX11_acts 278 = .ok (.iload 4, 2) := by decide +kernel
theorem dX11_acts_280 : decode cX11_acts 280 = .ok (.iconst 3, 1) := by decide +kernel
theorem dX11_acts_281 : decode cX11_acts 281 = .ok (.if_icmp .ne 80, 3) := by decide +kernel
theorem dX11_acts_284 : decode cX11_acts 284 = .ok (.iload 5, 2) := by decide +kernel
theorem dX11_acts_286 : decode cX11_acts 286 = .ok (.aload_n 1, 1) := by decide +kernel
theorem dX11_acts_287 : decode cX11_acts 287 = .ok (.iload_n 2, 1) := by decide +kernel
theorem dX11_acts_288 : decode cX11_acts 288 = .ok (.iconst 1, 1) := by decide +kernel
theorem dX11_acts_289 : decode cX11_acts 289 = .ok (.iadd, 1) := by decide +kernel
theorem dX11_acts_290 : decode cX11_acts 290 = .ok (.iaload, 1) := by decide +kernel
theorem dX11_acts_291 : decode cX11_acts 291 = .ok (.if_icmp .eq 13, 3) := by decide +kernel
theorem dX11_acts_294 : decode cX11_acts 294 = .ok (.iload 5, 2) := by decide +kernel
theorem dX11_acts_296 : decode cX11_acts 296 = .ok (.aload_n 1, 1) := by decide +kernel
theorem dX11_acts_297 : decode cX11_acts 297 = .ok (.iload_n 2, 1) := by decide +kernel
theorem dX11_acts_298 : decode cX11_acts 298 = .ok (.iconst 2, 1) := by decide +kernel
theorem dX11_acts_299 : decode cX11_acts 299 = .ok (.iadd, 1) := by decide +kernel
theorem dX11_acts_300 : decode cX11_acts 300 = .ok (.iaload, 1) := by decide +kernel
theorem dX11_acts_301 : decode cX11_acts 301 = .ok (.if_icmp .ne 60, 3) := by decide +kernel
theorem dX11_acts_304 : decode cX11_acts 304 = .ok (.aload_n 0, 1) := by decide +kernel
theorem dX11_acts_305 : decode cX11_acts 305 = .ok (.getfield 53, 3) := by decide +kernel
theorem dX11_acts_308 : decode cX11_acts 308 = .ok (.lconst 0, 1) := by decide +kernel
theorem dX11_acts_309 : decode cX11_acts 309 = .ok (.lconst 0, 1) := by decide +kernel
theorem dX11_acts_310 : decode cX11_acts 310 = .ok (.lconst 0, 1) := by decide +kernel
theorem dX11_acts_311 : decode cX11_acts 311 = .ok (.lconst 0, 1) := by decide +kernel
theorem dX11_acts_312 : decode cX11_acts 312 = .ok (.invokestatic 234, 3) := by decide +kernel
theorem dX11_acts_315 : decode cX11_acts 315 = .ok (.aload_n 0, 1) := by decide +kernel
theorem dX11_acts_316 : decode cX11_acts 316 = .ok (.getfield 56, 3) := by decide +kernel
theorem dX11_acts_319 : decode cX11_acts 319 = .ok (.lconst 1, 1) := by decide +kernel
theorem dX11_acts_320 : decode cX11_acts 320 = .ok (.lconst 0, 1) := by decide +kernel
theorem dX11_acts_321 : decode cX11_acts 321 = .ok (.lconst 0, 1) := by decide +kernel
theorem dX11_acts_322 : decode cX11_acts 322 = .ok (.lconst 0, 1) := by decide +kernel
theorem dX11_acts_323 : decode cX11_acts 323 = .ok (.invokestatic 234, 3) := by decide +kernel
theorem dX11_acts_326 : decode cX11_acts 326 = .ok (.aload_n 0, 1) := by decide +kernel
theorem dX11_acts_327 : decode cX11_acts 327 = .ok (.iconst 2, 1) := by decide +kernel
theorem dX11_acts_328 : decode cX11_acts 328 = .ok (.iload 5, 2) := by decide +kernel
theorem dX11_acts_330 : decode cX11_acts 330 = .ok (.aload_n 1, 1) := by decide +kernel
theorem dX11_acts_331 : decode cX11_acts 331 = .ok (.iload_n 2, 1) := by decide +kernel
theorem dX11_acts_332 : decode cX11_acts 332 = .ok (.iconst 1, 1) := by decide +kernel
theorem dX11_acts_333 : decode cX11_acts 333 = .ok (.iadd, 1) := by decide +kernel
theorem dX11_acts_334 : decode cX11_acts 334 = .ok (.iaload, 1) := by decide +kernel
theorem dX11_acts_335 : decode cX11_acts 335 = .ok (.if_icmp .ne 11, 3) := by decide +kernel
theorem dX11_acts_338 : decode cX11_acts 338 = .ok (.aload_n 1, 1) := by decide +kernel
theorem dX11_acts_339 : decode cX11_acts 339 = .ok (.iload_n 2, 1) := by decide +kernel
theorem dX11_acts_340 : decode cX11_acts 340 = .ok (.iconst 2, 1) := by decide +kernel
theorem dX11_acts_341 : decode cX11_acts 341 = .ok (.iadd, 1) := by decide +kernel
theorem dX11_acts_342 : decode cX11_acts 342 = .ok (.iaload, 1) := by decide +kernel
theorem dX11_acts_343 : decode cX11_acts 343 = .ok (.goto 8, 3) := by decide +kernel
theorem dX11_acts_346 : decode cX11_acts 346 = .ok (.aload_n 1, 1) := by decide +kernel
theorem dX11_acts_347 : decode cX11_acts 347 = .ok (.iload_n 2, 1) := by decide +kernel
theorem dX11_acts_348 : decode cX11_acts 348 = .ok (.iconst 1, 1) := by decide +kernel
theorem dX11_acts_349 : decode cX11_acts 349 = .ok (.iadd, 1) := by decide +kernel
theorem dX11_acts_350 : decode cX11_acts 350 = .ok (.iaload, 1) := by decide +kernel
theorem dX11_acts_351 : decode cX11_acts 351 = .ok (.imul, 1) := by decide +kernel
theorem dX11_acts_352 : decode cX11_acts 352 = .ok (.iload 6, 2) := by decide +kernel
theorem dX11_acts_354 : decode cX11_acts 354 = .ok (.iadd, 1) := by decide +kernel
theorem dX11_acts_355 : decode cX11_acts 355 = .ok (.putfield 238, 3) := by decide +kernel
theorem dX11_acts_358 : decode cX11_acts 358 = .ok (.goto 101, 3) := by decide +kernel
theorem dX11_acts_361 : decode cX11_acts 361 = .ok (.iload 4, 2) := by decide +kernel
theorem dX11_acts_363 : decode cX11_acts 363 = .ok (.iconst 2, 1) := by decide +kernel
theorem dX11_acts_364 : decode cX11_acts 364 = .ok (.if_icmp .ne 95, 3) := by decide +kernel
theorem dX11_acts_367 : decode cX11_acts 367 = .ok (.iload 5, 2) := by decide +kernel
theorem dX11_acts_369 : decode cX11_acts 369 = .ok (.aload_n 1, 1) := by decide +kernel
theorem dX11_acts_370 : decode cX11_acts 370 = .ok (.iload_n 2, 1) := by decide +kernel
theorem dX11_acts_371 : decode cX11_acts 371 = .ok (.iconst 1, 1) := by decide +kernel
theorem dX11_acts_372 : decode cX11_acts 372 = .ok (.iadd, 1) := by decide +kernel
theorem dX11_acts_373 : decode cX11_acts 373 = .ok (.iaload, 1) := by decide +kernel
theorem dX11_acts_374 : decode cX11_acts 374 = .ok (.if_icmp .ne 85, 3) := by decide +kernel
theorem dX11_acts_377 : decode cX11_acts 377 = .ok (.aload_n 1, 1) := by decide +kernel
theorem dX11_acts_378 : decode cX11_acts 378 = .ok (.iload_n 2, 1) := by decide +kernel
theorem dX11_acts_379 : decode cX11_acts 379 = .ok (.iconst 4, 1) := by decide +kernel
theorem dX11_acts_380 : decode cX11_acts 380 = .ok (.iadd, 1) := by decide +kernel
theorem dX11_acts_381 : decode cX11_acts 381 = .ok (.iaload, 1) := by decide +kernel
theorem dX11_acts_382 : decode cX11_acts 382 = .ok (.iconst (-1), 1) := by decide +kernel
theorem dX11_acts_383 : decode cX11_acts 383 = .ok (.if_icmp .eq 13, 3) := by decide +kernel
theorem dX11_acts_386 : decode cX11_acts 386 = .ok (.aload_n 1, 1) := by decide +kernel
theorem dX11_acts_387 : decode cX11_acts 387 = .ok (.iload_n 2, 1) := by decide +kernel
theorem dX11_acts_388 : decode cX11_acts 388 = .ok (.iconst 4, 1) := by decide +kernel
theorem dX11_acts_389 : decode cX11_acts 389 = .ok (.iadd, 1) := by decide +kernel
theorem dX11_acts_390 : decode cX11_acts 390 = .ok (.iaload, 1) := by decide +kernel
theorem dX11_acts_391 : decode cX11_acts 391 = .ok (.iload 6, 2) := by decide +kernel
theorem dX11_acts_393 : decode cX11_acts 393 = .ok (.if_icmp .ne 66, 3) := by decide +kernel
theorem dX11_acts_396 : decode cX11_acts 396 = .ok (.aload_n 1, 1) := by decide +kernel
theorem dX11_acts_397 : decode cX11_acts 397 = .ok (.iload_n 2, 1) := by decide +kernel
theorem dX11_acts_398 : decode cX11_acts 398 = .ok (.iconst 5, 1) := by decide +kernel
theorem dX11_acts_399 : decode cX11_acts 399 = .ok (.iadd, 1) := by decide +kernel
theorem dX11_acts_400 : decode cX11_acts 400 = .ok (.iaload, 1) := by decide +kernel
theorem dX11_acts_401 : decode cX11_acts 401 = .ok (.iconst 4, 1) := by decide +kernel
theorem dX11_acts_402 : decode cX11_acts 402 = .ok (.irem, 1) := by decide +kernel
theorem dX11_acts_403 : decode cX11_acts 403 = .ok (.istore 9, 2) := by decide +kernel
theorem dX11_acts_405 : decode cX11_acts 405 = .ok (.aload_n 0, 1) := by decide +kernel
theorem dX11_acts_406 : decode cX11_acts 406 = .ok (.getfield 53, 3) := by decide +kernel
theorem dX11_acts_409 : decode cX11_acts 409 = .ok (.iload 9, 2) := by decide +kernel
theorem dX11_acts_411 : decode cX11_acts 411 = .ok (.ifCond .ne 7, 3) := by decide +kernel
theorem dX11_acts_414 : decode cX11_acts 414 = .ok (.lconst 1, 1) := by decide +kernel
theorem dX11_acts_415 : decode cX11_acts 415 = .ok (.goto 16, 3) := by decide +kernel
theorem dX11_acts_418 : decode cX11_acts 418 = .ok (.iload 9, 2) := by decide +kernel
theorem dX11_acts_420 : decode cX11_acts 420 = .ok (.iconst 2, 1) := by decide +kernel
theorem dX11_acts_421 : decode cX11_acts 421 = .ok (.if_icmp .ne 9, 3) := by decide +kernel
theorem dX11_acts_424 : decode cX11_acts 424 = .ok (.ldc2_w 245, 3) := by decide +kernel
theorem dX11_acts_427 : decode cX11_acts 427 = .ok (.goto 4, 3) := by decide +kernel
theorem dX11_acts_430 : decode cX11_acts 430 = .ok (.lconst 0, 1) := by decide +kernel
theorem dX11_acts_431 : decode cX11_acts 431 = .ok (.lconst 0, 1) := by decide +kernel
theorem dX11_acts_432 : decode cX11_acts 432 = .ok (.iload 9, 2) := by decide +kernel
theorem dX11_acts_434 : decode cX11_acts 434 = .ok (.iconst 1, 1) := by decide +kernel
theorem dX11_acts_435 : decode cX11_acts 435 = .ok (.if_icmp .ne 7, 3) := by decide +kernel
theorem dX11_acts_438 : decode cX11_acts 438 = .ok (.lconst 1, 1) := by decide +kernel
theorem dX11_acts_439 : decode cX11_acts 439 = .ok (.goto 16, 3) := by decide +kernel
theorem dX11_acts_442 : decode cX11_acts 442 = .ok (.iload 9, 2) := by decide +kernel
theorem dX11_acts_444 : decode cX11_acts 444 = .ok (.iconst 3, 1) := by decide +kernel
theorem dX11_acts_445 : decode cX11_acts 445 = .ok (.if_icmp .ne 9, 3) := by decide +kernel
theorem dX11_acts_448 : decode cX11_acts 448 = .ok (.ldc2_w 245, 3) := by decide +kernel
theorem dX11_acts_451 : decode cX11_acts 451 = .ok (.goto 4, 3) := by decide +kernel
theorem dX11_acts_454 : decode cX11_acts 454 = .ok (.lconst 0, 1) := by decide +kernel
theorem dX11_acts_455 : decode cX11_acts 455 = .ok (.lconst 0, 1) := by decide +kernel
theorem dX11_acts_456 : decode cX11_acts 456 = .ok (.invokestatic 234, 3) := by decide +kernel
theorem dX11_acts_459 : decode cX11_acts 459 = .ok (.return_, 1) := by decide +kernel
theorem dX11_adds_0 : decode cX11_adds 0 = .ok (.aload_n 2, 1) := by decide +kernel
theorem dX11_adds_1 : decode cX11_adds 1 = .ok (.iload_n 3, 1) := by decide +kernel
theorem dX11_adds_2 : decode cX11_adds 2 = .ok (.laload, 1) := by decide +kernel
theorem dX11_adds_3 : decode cX11_adds 3 = .ok (.lstore 5, 2) := by decide +kernel
theorem dX11_adds_5 : decode cX11_adds 5 = .ok (.aload_n 2, 1) := by decide +kernel
theorem dX11_adds_6 : decode cX11_adds 6 = .ok (.iload_n 3, 1) := by decide +kernel
theorem dX11_adds_7 : decode cX11_adds 7 = .ok (.iconst 1, 1) := by decide +kernel
theorem dX11_adds_8 : decode cX11_adds 8 = .ok (.iadd, 1) := by decide +kernel
theorem dX11_adds_9 : decode cX11_adds 9 = .ok (.laload, 1) := by decide +kernel
theorem dX11_adds_10 : decode cX11_adds 10 = .ok (.lstore 7, 2) := by decide +kernel
theorem dX11_adds_12 : decode cX11_adds 12 = .ok (.aload_n 2, 1) := by decide +kernel
theorem dX11_adds_13 : decode cX11_adds 13 = .ok (.iload_n 3, 1) := by decide +kernel
theorem dX11_adds_14 : decode cX11_adds 14 = .ok (.iconst 2, 1) := by decide +kernel
theorem dX11_adds_15 : decode cX11_adds 15 = .ok (.iadd, 1) := by decide +kernel
theorem dX11_adds_16 : decode cX11_adds 16 = .ok (.laload, 1) := by decide +kernel
theorem dX11_adds_17 : decode cX11_adds 17 = .ok (.lstore 9, 2) := by decide +kernel
theorem dX11_adds_19 : decode cX11_adds 19 = .ok (.aload_n 2, 1) := by decide +kernel
theorem dX11_adds_20 : decode cX11_adds 20 = .ok (.iload_n 3, 1) := by decide +kernel
theorem dX11_adds_21 : decode cX11_adds 21 = .ok (.iconst 3, 1) := by decide +kernel
theorem dX11_adds_22 : decode cX11_adds 22 = .ok (.iadd, 1) := by decide +kernel
theorem dX11_adds_23 : decode cX11_adds 23 = .ok (.laload, 1) := by decide +kernel
theorem dX11_adds_24 : decode cX11_adds 24 = .ok (.lstore 11, 2) := by decide +kernel
theorem dX11_adds_26 : decode cX11_adds 26 = .ok (.aload_n 0, 1) := by decide +kernel
theorem dX11_adds_27 : decode cX11_adds 27 = .ok (.iconst 4, 1) := by decide +kernel
theorem dX11_adds_28 : decode cX11_adds 28 = .ok (.iload_n 1, 1) := by decide +kernel
theorem dX11_adds_29 : decode cX11_adds 29 = .ok (.imul, 1) := by decide +kernel
theorem dX11_adds_30 : decode cX11_adds 30 = .ok (.dup2, 1) := by decide +kernel
theorem dX11_adds_31 : decode cX11_adds 31 = .ok (.laload, 1) := by decide +kernel
theorem dX11_adds_32 : decode cX11_adds 32 = .ok (.lload 5, 2) := by decide +kernel
theorem dX11_adds_34 : decode cX11_adds 34 = .ok (.aload 4, 2) := by decide +kernel
theorem dX11_adds_36 : decode cX11_adds 36 = .ok (.iconst 0, 1) := by decide +kernel
theorem dX11_adds_37 : decode cX11_adds 37 = .ok (.laload, 1) := by decide +kernel
theorem dX11_adds_38 : decode cX11_adds 38 = .ok (.lmul, 1) := by decide +kernel
theorem dX11_adds_39 : decode cX11_adds 39 = .ok (.ldc2_w 247, 3) := by decide +kernel
theorem dX11_adds_42 : decode cX11_adds 42 = .ok (.lload 7, 2) := by decide +kernel
theorem dX11_adds_44 : decode cX11_adds 44 = .ok (.lmul, 1) := by decide +kernel
theorem dX11_adds_45 : decode cX11_adds 45 = .ok (.aload 4, 2) := by decide +kernel
theorem dX11_adds_47 : decode cX11_adds 47 = .ok (.iconst 1, 1) := by decide +kernel
theorem dX11_adds_48 : decode cX11_adds 48 = .ok (.laload, 1) := by decide +kernel
theorem dX11_adds_49 : decode cX11_adds 49 = .ok (.lmul, 1) := by decide +kernel
theorem dX11_adds_50 : decode cX11_adds 50 = .ok (.ladd, 1) := by decide +kernel
theorem dX11_adds_51 : decode cX11_adds 51 = .ok (.lload 9, 2) := by decide +kernel
theorem dX11_adds_53 : decode cX11_adds 53 = .ok (.aload 4, 2) := by decide +kernel
theorem dX11_adds_55 : decode cX11_adds 55 = .ok (.iconst 2, 1) := by decide +kernel
theorem dX11_adds_56 : decode cX11_adds 56 = .ok (.laload, 1) := by decide +kernel
theorem dX11_adds_57 : decode cX11_adds 57 = .ok (.lmul, 1) := by decide +kernel
theorem dX11_adds_58 : decode cX11_adds 58 = .ok (.lsub, 1) := by decide +kernel
theorem dX11_adds_59 : decode cX11_adds 59 = .ok (.ldc2_w 247, 3) := by decide +kernel
theorem dX11_adds_62 : decode cX11_adds 62 = .ok (.lload 11, 2) := by decide +kernel
theorem dX11_adds_64 : decode cX11_adds 64 = .ok (.lmul, 1) := by decide +kernel
theorem dX11_adds_65 : decode cX11_adds 65 = .ok (.aload 4, 2) := by decide +kernel
theorem dX11_adds_67 : decode cX11_adds 67 = .ok (.iconst 3, 1) := by decide +kernel
theorem dX11_adds_68 : decode cX11_adds 68 = .ok (.laload, 1) := by decide +kernel
theorem dX11_adds_69 : decode cX11_adds 69 = .ok (.lmul, 1) := by decide +kernel
theorem dX11_adds_70 : decode cX11_adds 70 = .ok (.lsub, 1) := by decide +kernel
theorem dX11_adds_71 : decode cX11_adds 71 = .ok (.ladd, 1) := by decide +kernel
theorem dX11_adds_72 : decode cX11_adds 72 = .ok (.lastore, 1) := by decide +kernel
theorem dX11_adds_73 : decode cX11_adds 73 = .ok (.aload_n 0, 1) := by decide +kernel
theorem dX11_adds_74 : decode cX11_adds 74 = .ok (.iconst 4, 1) := by decide +kernel
theorem dX11_adds_75 : decode cX11_adds 75 = .ok (.iload_n 1, 1) := by decide +kernel
theorem dX11_adds_76 : decode cX11_adds 76 = .ok (.imul, 1) := by decide +kernel
theorem dX11_adds_77 : decode cX11_adds 77 = .ok (.iconst 1, 1) := by decide +kernel
theorem dX11_adds_78 : decode cX11_adds 78 = .ok (.iadd, 1) := by decide +kernel
theorem dX11_adds_79 : decode cX11_adds 79 = .ok (.dup2, 1) := by decide +kernel
theorem dX11_adds_80 : decode cX11_adds 80 = .ok (.laload, 1) := by decide +kernel
theorem dX11_adds_81 : decode cX11_adds 81 = .ok (.lload 5, 2) := by decide +kernel
theorem dX11_adds_83 : decode cX11_adds 83 = .ok (.aload 4, 2) := by decide +kernel
theorem dX11_adds_85 : decode cX11_adds 85 = .ok (.iconst 1, 1) := by decide +kernel
theorem dX11_adds_86 : decode cX11_adds 86 = .ok (.laload, 1) := by decide +kernel
theorem dX11_adds_87 : decode cX11_adds 87 = .ok (.lmul, 1) := by decide +kernel
theorem dX11_adds_88 : decode cX11_adds 88 = .ok (.lload 7, 2) := by decide +kernel
theorem dX11_adds_90 : decode cX11_adds 90 = .ok (.aload 4, 2) := by decide +kernel
theorem dX11_adds_92 : decode cX11_adds 92 = .ok (.iconst 0, 1) := by decide +kernel
theorem dX11_adds_93 : decode cX11_adds 93 = .ok (.laload, 1) := by decide +kernel
theorem dX11_adds_94 : decode cX11_adds 94 = .ok (.lmul, 1) := by decide +kernel
theorem dX11_adds_95 : decode cX11_adds 95 = .ok (.ladd, 1) := by decide +kernel
theorem dX11_adds_96 : decode cX11_adds 96 = .ok (.lload 9, 2) := by decide +kernel
theorem dX11_adds_98 : decode cX11_adds 98 = .ok (.aload 4, 2) := by decide +kernel
theorem dX11_adds_100 : decode cX11_adds 100 = .ok (.iconst 3, 1) := by decide +kernel
theorem dX11_adds_101 : decode cX11_adds 101 = .ok (.laload, 1) := by decide +kernel
theorem dX11_adds_102 : decode cX11_adds 102 = .ok (.lmul, 1) := by decide +kernel
theorem dX11_adds_103 : decode cX11_adds 103 = .ok (.lsub, 1) := by decide +kernel
theorem dX11_adds_104 : decode cX11_adds 104 = .ok (.lload 11, 2) := by decide +kernel
theorem dX11_adds_106 : decode cX11_adds 106 = .ok (.aload 4, 2) := by decide +kernel
theorem dX11_adds_108 : decode cX11_adds 108 = .ok (.iconst 2, 1) := by decide +kernel
theorem dX11_adds_109 : decode cX11_adds 109 = .ok (.laload, 1) := by decide +kernel
theorem dX11_adds_110 : decode cX11_adds 110 = .ok (.lmul, 1) := by decide +kernel
theorem dX11_adds_111 : decode cX11_adds 111 = .ok (.lsub, 1) := by decide +kernel
theorem dX11_adds_112 : decode cX11_adds 112 = .ok (.ladd, 1) := by decide +kernel
theorem dX11_adds_113 : decode cX11_adds 113 = .ok (.lastore, 1) := by decide +kernel
theorem dX11_adds_114 : decode cX11_adds 114 = .ok (.aload_n 0, 1) := by decide +kernel
theorem dX11_adds_115 : decode cX11_adds 115 = .ok (.iconst 4, 1) := by decide +kernel
theorem dX11_adds_116 : decode cX11_adds 116 = .ok (.iload_n 1, 1) := by decide +kernel
theorem dX11_adds_117 : decode cX11_adds 117 = .ok (.imul, 1) := by decide +kernel
theorem dX11_adds_118 : decode cX11_adds 118 = .ok (.iconst 2, 1) := by decide +kernel
theorem dX11_adds_119 : decode cX11_adds 119 = .ok (.iadd, 1) := by decide +kernel
theorem dX11_adds_120 : decode cX11_adds 120 = .ok (.dup2, 1) := by decide +kernel
theorem dX11_adds_121 : decode cX11_adds 121 = .ok (.laload, 1) := by decide +kernel
theorem dX11_adds_122 : decode cX11_adds 122 = .ok (.lload 5, 2) := by decide +kernel
theorem dX11_adds_124 : decode cX11_adds 124 = .ok (.aload 4, 2) := by decide +kernel
theorem dX11_adds_126 : decode cX11_adds 126 = .ok (.iconst 2, 1) := by decide +kernel
theorem dX11_adds_127 : decode cX11_adds 127 = .ok (.laload, 1) := by decide +kernel
theorem dX11_adds_128 : decode cX11_adds 128 = .ok (.lmul, 1) := by decide +kernel
theorem dX11_adds_129 : decode cX11_adds 129 = .ok (.ldc2_w 247, 3) := by decide +kernel
theorem dX11_adds_132 : decode cX11_adds 132 = .ok (.lload 7, 2) := by decide +kernel
theorem dX11_adds_134 : decode cX11_adds 134 = .ok (.lmul, 1) := by decide +kernel
theorem dX11_adds_135 : decode cX11_adds 135 = .ok (.aload 4, 2) := by decide +kernel
theorem dX11_adds_137 : decode cX11_adds 137 = .ok (.iconst 3, 1) := by decide +kernel
theorem dX11_adds_138 : decode cX11_adds 138 = .ok (.laload, 1) := by decide +kernel
theorem dX11_adds_139 : decode cX11_adds 139 = .ok (.lmul, 1) := by decide +kernel
theorem dX11_adds_140 : decode cX11_adds 140 = .ok (.ladd, 1) := by decide +kernel
theorem dX11_adds_141 : decode cX11_adds 141 = .ok (.lload 9, 2) := by decide +kernel
theorem dX11_adds_143 : decode cX11_adds 143 = .ok (.aload 4, 2) := by decide +kernel
theorem dX11_adds_145 : decode cX11_adds 145 = .ok (.iconst 0, 1) := by decide +kernel
theorem dX11_adds_146 : decode cX11_adds 146 = .ok (.laload, 1) := by decide +kernel
theorem dX11_adds_147 : decode cX11_adds 147 = .ok (.lmul, 1) := by decide +kernel
theorem dX11_adds_148 : decode cX11_adds 148 = .ok (.ladd, 1) := by decide +kernel
theorem dX11_adds_149 : decode cX11_adds 149 = .ok (.ldc2_w 247, 3) := by decide +kernel
theorem dX11_adds_152 : decode cX11_adds 152 = .ok (.lload 11, 2) := by decide +kernel
theorem dX11_adds_154 : decode cX11_adds 154 = .ok (.lmul, 1) := by decide +kernel
theorem dX11_adds_155 : decode cX11_adds 155 = .ok (.aload 4, 2) := by decide +kernel
theorem dX11_adds_157 : decode cX11_adds 157 = .ok (.iconst 1, 1) := by decide +kernel
theorem dX11_adds_158 : decode cX11_adds 158 = .ok (.laload, 1) := by decide +kernel
theorem dX11_adds_159 : decode cX11_adds 159 = .ok (.lmul, 1) := by decide +kernel
theorem dX11_adds_160 : decode cX11_adds 160 = .ok (.ladd, 1) := by decide +kernel
theorem dX11_adds_161 : decode cX11_adds 161 = .ok (.ladd, 1) := by decide +kernel
theorem dX11_adds_162 : decode cX11_adds 162 = .ok (.lastore, 1) := by decide +kernel
theorem dX11_adds_163 : decode cX11_adds 163 = .ok (.aload_n 0, 1) := by decide +kernel
theorem dX11_adds_164 : decode cX11_adds 164 = .ok (.iconst 4, 1) := by decide +kernel
theorem dX11_adds_165 : decode cX11_adds 165 = .ok (.iload_n 1, 1) := by decide +kernel
theorem dX11_adds_166 : decode cX11_adds 166 = .ok (.imul, 1) := by decide +kernel
theorem dX11_adds_167 : decode cX11_adds 167 = .ok (.iconst 3, 1) := by decide +kernel
theorem dX11_adds_168 : decode cX11_adds 168 = .ok (.iadd, 1) := by decide +kernel
theorem dX11_adds_169 : decode cX11_adds 169 = .ok (.dup2, 1) := by decide +kernel
theorem dX11_adds_170 : decode cX11_adds 170 = .ok (.laload, 1) := by decide +kernel
theorem dX11_adds_171 : decode cX11_adds 171 = .ok (.lload 5, 2) := by decide +kernel
theorem dX11_adds_173 : decode cX11_adds 173 = .ok (.aload 4, 2) := by decide +kernel
theorem dX11_adds_175 : decode cX11_adds 175 = .ok (.iconst 3, 1) := by decide +kernel
theorem dX11_adds_176 : decode cX11_adds 176 = .ok (.laload, 1) := by decide +kernel
theorem dX11_adds_177 : decode cX11_adds 177 = .ok (.lmul, 1) := by decide +kernel
theorem dX11_adds_178 : decode cX11_adds 178 = .ok (.lload 7, 2) := by decide +kernel
theorem dX11_adds_180 : decode cX11_adds 180 = .ok (.aload 4, 2) := by decide +kernel
theorem dX11_adds_182 : decode cX11_adds 182 = .ok (.iconst 2, 1) := by decide +kernel
theorem dX11_adds_183 : decode cX11_adds 183 = .ok (.laload, 1) := by decide +kernel
theorem dX11_adds_184 : decode cX11_adds 184 = .ok (.lmul, 1) := by decide +kernel
theorem dX11_adds_185 : decode cX11_adds 185 = .ok (.ladd, 1) := by decide +kernel
theorem dX11_adds_186 : decode cX11_adds 186 = .ok (.lload 9, 2) := by decide +kernel
theorem dX11_adds_188 : decode cX11_adds 188 = .ok (.aload 4, 2) := by decide +kernel
theorem dX11_adds_190 : decode cX11_adds 190 = .ok (.iconst 1, 1) := by decide +kernel
theorem dX11_adds_191 : decode cX11_adds 191 = .ok (.laload, 1) := by decide +kernel
theorem dX11_adds_192 : decode cX11_adds 192 = .ok (.lmul, 1) := by decide +kernel
theorem dX11_adds_193 : decode cX11_adds 193 = .ok (.ladd, 1) := by decide +kernel
theorem dX11_adds_194 : decode cX11_adds 194 = .ok (.lload 11, 2) := by decide +kernel
theorem dX11_adds_196 : decode cX11_adds 196 = .ok (.aload 4, 2) := by decide +kernel
theorem dX11_adds_198 : decode cX11_adds 198 = .ok (.iconst 0, 1) := by decide +kernel
theorem dX11_adds_199 : decode cX11_adds 199 = .ok (.laload, 1) := by decide +kernel
theorem dX11_adds_200 : decode cX11_adds 200 = .ok (.lmul, 1) := by decide +kernel
theorem dX11_adds_201 : decode cX11_adds 201 = .ok (.ladd, 1) := by decide +kernel
theorem dX11_adds_202 : decode cX11_adds 202 = .ok (.ladd, 1) := by decide +kernel
theorem dX11_adds_203 : decode cX11_adds 203 = .ok (.lastore, 1) := by decide +kernel
theorem dX11_adds_204 : decode cX11_adds 204 = .ok (.return_, 1) := by decide +kernel
theorem dX11_inPath_0 : decode cX11_inPath 0 = .ok (.iconst 0, 1) := by decide +kernel
theorem dX11_inPath_1 : decode cX11_inPath 1 = .ok (.istore_n 3, 1) := by decide +kernel
theorem dX11_inPath_2 : decode cX11_inPath 2 = .ok (.iconst 0, 1) := by decide +kernel
theorem dX11_inPath_3 : decode cX11_inPath 3 = .ok (.istore 4, 2) := by decide +kernel
theorem dX11_inPath_5 : decode cX11_inPath 5 = .ok (.iload 4, 2) := by decide +kernel
theorem dX11_inPath_7 : decode cX11_inPath 7 = .ok (.aload_n 0, 1) := by decide +kernel
theorem dX11_inPath_8 : decode cX11_inPath 8 = .ok (.getfield 225, 3) := by decide +kernel
theorem dX11_inPath_11 : decode cX11_inPath 11 = .ok (.if_icmp .ge 30, 3) := by decide +kernel
theorem dX11_inPath_14 : decode cX11_inPath 14 = .ok (.iload_n 3, 1) := by decide +kernel
theorem dX11_inPath_15 : decode cX11_inPath 15 = .ok (.aload_n 0, 1) := by decide +kernel
theorem dX11_inPath_16 : decode cX11_inPath 16 = .ok (.iload_n 1, 1) := by decide +kernel
theorem dX11_inPath_17 : decode cX11_inPath 17 = .ok (.iload 4, 2) := by decide +kernel
theorem dX11_inPath_19 : decode cX11_inPath 19 = .ok (.invokevirtual 249, 3) := by decide +kernel
theorem dX11_inPath_22 : decode cX11_inPath 22 = .ok (.iconst 2, 1) := by decide +kernel
theorem dX11_inPath_23 : decode cX11_inPath 23 = .ok (.idiv, 1) := by decide +kernel
theorem dX11_inPath_24 : decode cX11_inPath 24 = .ok (.iload_n 2, 1) := by decide +kernel
theorem dX11_inPath_25 : decode cX11_inPath 25 = .ok (.if_icmp .ne 7, 3) := by decide +kernel
theorem dX11_inPath_28 : decode cX11_inPath 28 = .ok (.iconst 1, 1) := by decide +kernel
theorem dX11_inPath_29 : decode cX11_inPath 29 = .ok (.goto 4, 3) := by decide +kernel
theorem dX11_inPath_32 : decode cX11_inPath 32 = .ok (.iconst 0, 1) := by decide +kernel
theorem dX11_inPath_33 : decode cX11_inPath 33 = .ok (.iadd, 1) := by decide +kernel
theorem dX11_inPath_34 : decode cX11_inPath 34 = .ok (.istore_n 3, 1) := by decide +kernel
theorem dX11_inPath_35 : decode cX11_inPath 35 = .ok (.iinc 4 1, 3) := by decide +kernel
theorem dX11_inPath_38 : decode cX11_inPath 38 = .ok (.goto (-33), 3) := by decide +kernel
theorem dX11_inPath_41 : decode cX11_inPath 41 = .ok (.iload_n 3, 1) := by decide +kernel
theorem dX11_inPath_42 : decode cX11_inPath 42 = .ok (.ireturn, 1) := by decide +kernel
theorem dX11_does_0 : decode cX11_does 0 = .ok (.aload_n 1, 1) := by decide +kernel
theorem dX11_does_1 : decode cX11_does 1 = .ok (.iload_n 2, 1) := by decide +kernel
theorem dX11_does_2 : decode cX11_does 2 = .ok (.iconst 3, 1) := by decide +kernel
theorem dX11_does_3 : decode cX11_does 3 = .ok (.iadd, 1) := by decide +kernel
theorem dX11_does_4 : decode cX11_does 4 = .ok (.iaload, 1) := by decide +kernel
theorem dX11_does_5 : decode cX11_does 5 = .ok (.istore_n 3, 1) := by decide +kernel
theorem dX11_does_6 : decode cX11_does 6 = .ok (.iload_n 3, 1) := by decide +kernel
theorem dX11_does_7 : decode cX11_does 7 = .ok (.iconst (-1), 1) := by decide +kernel
theorem dX11_does_8 : decode cX11_does 8 = .ok (.if_icmp .ne 7, 3) := by decide +kernel
theorem dX11_does_11 : decode cX11_does 11 = .ok (.lconst 1, 1) := by decide +kernel
theorem dX11_does_12 : decode cX11_does 12 = .ok (.goto 15, 3) := by decide +kernel
theorem dX11_does_15 : decode cX11_does 15 = .ok (.iload_n 3, 1) := by decide +kernel
theorem dX11_does_16 : decode cX11_does 16 = .ok (.invokestatic 215, 3) := by decide +kernel
theorem dX11_does_19 : decode cX11_does 19 = .ok (.i2l, 1) := by decide +kernel
theorem dX11_does_20 : decode cX11_does 20 = .ok (.aload_n 0, 1) := by decide +kernel
theorem dX11_does_21 : decode cX11_does 21 = .ok (.getfield 225, 3) := by decide +kernel
theorem dX11_does_24 : decode cX11_does 24 = .ok (.invokestatic 218, 3) := by decide +kernel
theorem dX11_does_27 : decode cX11_does 27 = .ok (.lstore 4, 2) := by decide +kernel
theorem dX11_does_29 : decode cX11_does 29 = .ok (.iconst 0, 1) := by decide +kernel
theorem dX11_does_30 : decode cX11_does 30 = .ok (.istore 6, 2) := by decide +kernel
theorem dX11_does_32 : decode cX11_does 32 = .ok (.iload 6, 2) := by decide +kernel
theorem dX11_does_34 : decode cX11_does 34 = .ok (.aload_n 0, 1) := by decide +kernel
theorem dX11_does_35 : decode cX11_does 35 = .ok (.getfield 253, 3) := by decide +kernel
theorem dX11_does_38 : decode cX11_does 38 = .ok (.if_icmp .ge 116, 3) := by decide +kernel
theorem dX11_does_41 : decode cX11_does 41 = .ok (.aload_n 1, 1) := by decide +kernel
theorem dX11_does_42 : decode cX11_does 42 = .ok (.iload_n 2, 1) := by decide +kernel
theorem dX11_does_43 : decode cX11_does 43 = .ok (.bipush 6, 2) := by decide +kernel
theorem dX11_does_45 : decode cX11_does 45 = .ok (.iadd, 1) := by decide +kernel
theorem dX11_does_46 : decode cX11_does 46 = .ok (.iaload, 1) := by decide +kernel
theorem dX11_does_47 : decode cX11_does 47 = .ok (.iconst (-1), 1) := by decide +kernel
theorem dX11_does_48 : decode cX11_does 48 = .ok (.if_icmp .eq 24, 3) := by decide +kernel
theorem dX11_does_51 : decode cX11_does 51 = .ok (.aload_n 0, 1) := by decide +kernel
theorem dX11_does_52 : decode cX11_does 52 = .ok (.iload 6, 2) := by decide +kernel
theorem dX11_does_54 : decode cX11_does 54 = .ok (.aload_n 1, 1) := by decide +kernel
theorem dX11_does_55 : decode cX11_does 55 = .ok (.iload_n 2, 1) := by decide +kernel
theorem dX11_does_56 : decode cX11_does 56 = .ok (.bipush 6, 2) := by decide +kernel
theorem dX11_does_58 : decode cX11_does 58 = .ok (.iadd, 1) := by decide +kernel
theorem dX11_does_59 : decode cX11_does 59 = .ok (.iaload, 1) := by decide +kernel
theorem dX11_does_60 : decode cX11_does 60 = .ok (.invokevirtual 256, 3) := by decide +kernel
theorem dX11_does_63 : decode cX11_does 63 = .ok (.aload_n 1, 1) := by decide +kernel
theorem dX11_does_64 : decode cX11_does 64 = .ok (.iload_n 2, 1) := by decide +kernel
theorem dX11_does_65 : decode cX11_does 65 = .ok (.bipush 7, 2) := by decide +kernel
theorem dX11_does_67 : decode cX11_does 67 = .ok (.iadd, 1) := by decide +kernel
theorem dX11_does_68 : decode cX11_does 68 = .ok (.iaload, 1) := by decide +kernel
theorem dX11_does_69 : decode cX11_does 69 = .ok (.if_icmp .ne 7, 3) := by decide +kernel
theorem dX11_does_72 : decode cX11_does 72 = .ok (.iconst 1, 1) := by decide +kernel
theorem dX11_does_73 : decode cX11_does 73 = .ok (.goto 4, 3) := by decide +kernel
theorem dX11_does_76 : decode cX11_does 76 = .ok (.iconst 0, 1) := by decide +kernel
theorem dX11_does_77 : decode cX11_does 77 = .ok (.istore 7, 2) := by decide +kernel
theorem dX11_does_79 : decode cX11_does 79 = .ok (.iconst 0, 1) := by decide +kernel
theorem dX11_does_80 : decode cX11_does 80 = .ok (.istore 8, 2) := by decide +kernel
theorem dX11_does_82 : decode cX11_does 82 = .ok (.iload 8, 2) := by decide +kernel
theorem dX11_does_84 : decode cX11_does 84 = .ok (.iconst 4, 1) := by decide +kernel
theorem dX11_does_85 : decode cX11_does 85 = .ok (.if_icmp .ge 63, 3) := by decide +kernel
theorem dX11_does_88 : decode cX11_does 88 = .ok (.aload_n 0, 1) := by decide +kernel
theorem dX11_does_89 : decode cX11_does 89 = .ok (.getfield 47, 3) := by decide +kernel
theorem dX11_does_92 : decode cX11_does 92 = .ok (.iconst 4, 1) := by decide +kernel
theorem dX11_does_93 : decode cX11_does 93 = .ok (.iload 6, 2) := by decide +kernel
theorem dX11_does_95 : decode cX11_does 95 = .ok (.imul, 1) := by decide +kernel
theorem dX11_does_96 : decode cX11_does 96 = .ok (.iload 8, 2) := by decide +kernel
theorem dX11_does_98 : decode cX11_does 98 = .ok (.iadd, 1) := by decide +kernel
theorem dX11_does_99 : decode cX11_does 99 = .ok (.iload 7, 2) := by decide +kernel
theorem dX11_does_101 : decode cX11_does 101 = .ok (.ifCond .eq 7, 3) := by decide +kernel
theorem dX11_does_104 : decode cX11_does 104 = .ok (.lconst 0, 1) := by decide +kernel
theorem dX11_does_105 : decode cX11_does 105 = .ok (.goto 18, 3) := by decide +kernel
theorem dX11_does_108 : decode cX11_does 108 = .ok (.lload 4, 2) := by decide +kernel
theorem dX11_does_110 : decode cX11_does 110 = .ok (.aload_n 0, 1) := by decide +kernel
theorem dX11_does_111 : decode cX11_does 111 = .ok (.getfield 43, 3) := by decide +kernel
theorem dX11_does_114 : decode cX11_does 114 = .ok (.iconst 4, 1) := by decide +kernel
theorem dX11_does_115 : decode cX11_does 115 = .ok (.iload 6, 2) := by decide +kernel
theorem dX11_does_117 : decode cX11_does 117 = .ok (.imul, 1) := by decide +kernel
theorem dX11_does_118 : decode cX11_does 118 = .ok (.iload 8, 2) := by decide +kernel
theorem dX11_does_120 : decode cX11_does 120 = .ok (.iadd, 1) := by decide +kernel
theorem dX11_does_121 : decode cX11_does 121 = .ok (.laload, 1) := by decide +kernel
theorem dX11_does_122 : decode cX11_does 122 = .ok (.lmul, 1) := by decide +kernel
theorem dX11_does_123 : decode cX11_does 123 = .ok (.lastore, 1) := by decide +kernel
theorem dX11_does_124 : decode cX11_does 124 = .ok (.iload 7, 2) := by decide +kernel
theorem dX11_does_126 : decode cX11_does 126 = .ok (.ifCond .ne 16, 3) := by decide +kernel
theorem dX11_does_129 : decode cX11_does 129 = .ok (.aload_n 0, 1) := by decide +kernel
theorem dX11_does_130 : decode cX11_does 130 = .ok (.getfield 43, 3) := by decide +kernel
theorem dX11_does_133 : decode cX11_does 133 = .ok (.iconst 4, 1) := by decide +kernel
theorem dX11_does_134 : decode cX11_does 134 = .ok (.iload 6, 2) := by decide +kernel
theorem dX11_does_136 : decode cX11_does 136 = .ok (.imul, 1) := by decide +kernel
theorem dX11_does_137 : decode cX11_does 137 = .ok (.iload 8, 2) := by decide +kernel
theorem dX11_does_139 : decode cX11_does 139 = .ok (.iadd, 1) := by decide +kernel
theorem dX11_does_140 : decode cX11_does 140 = .ok (.lconst 0, 1) := by decide +kernel
theorem dX11_does_141 : decode cX11_does 141 = .ok (.lastore, 1) := by decide +kernel
theorem dX11_does_142 : decode cX11_does 142 = .ok (.iinc 8 1, 3) := by decide +kernel
theorem dX11_does_145 : decode cX11_does 145 = .ok (.goto (-63), 3) := by decide +kernel
theorem dX11_does_148 : decode cX11_does 148 = .ok (.iinc 6 1, 3) := by decide +kernel
theorem dX11_does_151 : decode cX11_does 151 = .ok (.goto (-119), 3) := by decide +kernel
theorem dX11_does_154 : decode cX11_does 154 = .ok (.iconst 0, 1) := by decide +kernel
theorem dX11_does_155 : decode cX11_does 155 = .ok (.istore 6, 2) := by decide +kernel
theorem dX11_does_157 : decode cX11_does 157 = .ok (.iload 6, 2) := by decide +kernel
theorem dX11_does_159 : decode cX11_does 159 = .ok (.aload_n 0, 1) := by decide +kernel
theorem dX11_does_160 : decode cX11_does 160 = .ok (.getfield 225, 3) := by decide +kernel
theorem dX11_does_163 : decode cX11_does 163 = .ok (.if_icmp .ge 233, 3) := by decide +kernel
theorem dX11_does_166 : decode cX11_does 166 = .ok (.iconst 0, 1) := by decide +kernel
theorem dX11_does_167 : decode cX11_does 167 = .ok (.istore 7, 2) := by decide +kernel
theorem dX11_does_169 : decode cX11_does 169 = .ok (.iload 7, 2) := by decide +kernel
theorem dX11_does_171 : decode cX11_does 171 = .ok (.iconst 4, 1) := by decide +kernel
theorem dX11_does_172 : decode cX11_does 172 = .ok (.aload_n 0, 1) := by decide +kernel
theorem dX11_does_173 : decode cX11_does 173 = .ok (.getfield 253, 3) := by decide +kernel
theorem dX11_does_176 : decode cX11_does 176 = .ok (.imul, 1) := by decide +kernel
theorem dX11_does_177 : decode cX11_does 177 = .ok (.if_icmp .ge 17, 3) := by decide +kernel
theorem dX11_does_180 : decode cX11_does 180 = .ok (.aload_n 0, 1) := by decide +kernel
theorem dX11_does_181 : decode cX11_does 181 = .ok (.getfield 50, 3) := by decide +kernel
theorem dX11_does_184 : decode cX11_does 184 = .ok (.iload 7, 2) := by decide +kernel
theorem dX11_does_186 : decode cX11_does 186 = .ok (.lconst 0, 1) := by decide +kernel
theorem dX11_does_187 : decode cX11_does 187 = .ok (.lastore, 1) := by decide +kernel
theorem dX11_does_188 : decode cX11_does 188 = .ok (.iinc 7 1, 3) := by decide +kernel
theorem dX11_does_191 : decode cX11_does 191 = .ok (.goto (-22), 3) := by decide +kernel
theorem dX11_does_194 : decode cX11_does 194 = .ok (.aload_n 0, 1) := by decide +kernel
theorem dX11_does_195 : decode cX11_does 195 = .ok (.iload 6, 2) := by decide +kernel
theorem dX11_does_197 : decode cX11_does 197 = .ok (.invokevirtual 259, 3) := by decide +kernel
theorem dX11_does_200 : decode cX11_does 200 = .ok (.istore 7, 2) := by decide +kernel
theorem dX11_does_202 : decode cX11_does 202 = .ok (.iconst 0, 1) := by decide +kernel
theorem dX11_does_203 : decode cX11_does 203 = .ok (.istore 8, 2) := by decide +kernel
theorem dX11_does_205 : decode cX11_does 205 = .ok (.iload 8, 2) := by decide +kernel
theorem dX11_does_207 : decode cX11_does 207 = .ok (.aload_n 0, 1) := by decide +kernel
theorem dX11_does_208 : decode cX11_does 208 = .ok (.getfield 253, 3) := by decide +kernel
theorem dX11_does_211 : decode cX11_does 211 = .ok (.if_icmp .ge 145, 3) := by decide +kernel
theorem dX11_does_214 : decode cX11_does 214 = .ok (.aload_n 0, 1) := by decide +kernel
theorem dX11_does_215 : decode cX11_does 215 = .ok (.getfield 43, 3) := by decide +kernel
theorem dX11_does_218 : decode cX11_does 218 = .ok (.iconst 4, 1) := by decide +kernel
theorem dX11_does_219 : decode cX11_does 219 = .ok (.iload 8, 2) := by decide +kernel
theorem dX11_does_221 : decode cX11_does 221 = .ok (.imul, 1) := by decide +kernel
theorem dX11_does_222 : decode cX11_does 222 = .ok (.laload, 1) := by decide +kernel
theorem dX11_does_223 : decode cX11_does 223 = .ok (.lconst 0, 1) := by decide +kernel
theorem dX11_does_224 : decode cX11_does 224 = .ok (.lcmp, 1) := by decide +kernel
theorem dX11_does_225 : decode cX11_does 225 = .ok (.ifCond .ne 54, 3) := by decide +kernel
theorem dX11_does_228 : decode cX11_does 228 = .ok (.aload_n 0, 1) := by decide +kernel
theorem dX11_does_229 : decode cX11_does 229 = .ok (.getfield 43, 3) := by decide +kernel
theorem dX11_does_232 : decode cX11_does 232 = .ok (.iconst 4, 1) := by decide +kernel
theorem dX11_does_233 : decode cX11_does 233 = .ok (.iload 8, 2) := by decide +kernel
theorem dX11_does_235 : decode cX11_does 235 = .ok (.imul, 1) := by decide +kernel
theorem dX11_does_236 : decode cX11_does 236 = .ok (.iconst 1, 1) := by decide +kernel
theorem dX11_does_237 : decode cX11_does 237 = .ok (.iadd, 1) := by decide +kernel
theorem dX11_does_238 : decode cX11_does 238 = .ok (.laload, 1) := by decide +kernel
theorem dX11_does_239 : decode cX11_does 239 = .ok (.lconst 0, 1) := by decide +kernel
theorem dX11_does_240 : decode cX11_does 240 = .ok (.lcmp, 1) := by decide +kernel
theorem dX11_does_241 : decode cX11_does 241 = .ok (.ifCond .ne 38, 3) := by decide +kernel
theorem dX11_does_244 : decode cX11_does 244 = .ok (.aload_n 0, 1) := by decide +kernel
theorem dX11_does_245 : decode cX11_does 245 = .ok (.getfield 43, 3) := by decide +kernel
theorem dX11_does_248 : decode cX11_does 248 = .ok (.iconst 4, 1) := by decide +kernel
theorem dX11_does_249 : decode cX11_does 249 = .ok (.iload 8, 2) := by decide +kernel
theorem dX11_does_251 : decode cX11_does 251 = .ok (.imul, 1) := by decide +kernel
theorem dX11_does_252 : decode cX11_does 252 = .ok (.iconst 2, 1) := by decide +kernel
theorem dX11_does_253 : decode cX11_does 253 = .ok (.iadd, 1) := by decide +kernel
theorem dX11_does_254 : decode cX11_does 254 = .ok (.laload, 1) := by decide +kernel
theorem dX11_does_255 : decode cX11_does 255 = .ok (.lconst 0, 1) := by decide +kernel
theorem dX11_does_256 : decode cX11_does 256 = .ok (.lcmp, 1) := by decide +kernel
theorem dX11_does_257 : decode cX11_does 257 = .ok (.ifCond .ne 22, 3) := by decide +kernel
theorem dX11_does_260 : decode cX11_does 260 = .ok (.aload_n 0, 1) := by decide +kernel
theorem dX11_does_261 : decode cX11_does 261 = .ok (.getfield 43, 3) := by decide +kernel
theorem dX11_does_264 : decode cX11_does 264 = .ok (.iconst 4, 1) := by decide +kernel
theorem dX11_does_265 : decode cX11_does 265 = .ok (.iload 8, 2) := by decide +kernel
theorem dX11_does_267 : decode cX11_does 267 = .ok (.imul, 1) := by decide +kernel
theorem dX11_does_268 : decode cX11_does 268 = .ok (.iconst 3, 1) := by decide +kernel
theorem dX11_does_269 : decode cX11_does 269 = .ok (.iadd, 1) := by decide +kernel
theorem dX11_does_270 : decode cX11_does 270 = .ok (.laload, 1) := by decide +kernel
theorem dX11_does_271 : decode cX11_does 271 = .ok (.lconst 0, 1) := by decide +kernel
theorem dX11_does_272 : decode cX11_does 272 = .ok (.lcmp, 1) := by decide +kernel
theorem dX11_does_273 : decode cX11_does 273 = .ok (.ifCond .ne 6, 3) := by decide +kernel
theorem dX11_does_276 : decode cX11_does 276 = .ok (.goto 74, 3) := by decide +kernel
theorem dX11_does_279 : decode cX11_does 279 = .ok (.aload_n 0, 1) := by decide +kernel
theorem dX11_does_280 : decode cX11_does 280 = .ok (.iload 8, 2) := by decide +kernel
theorem dX11_does_282 : decode cX11_does 282 = .ok (.iload 6, 2) := by decide +kernel
theorem dX11_does_284 : decode cX11_does 284 = .ok (.invokevirtual 249, 3) := by decide +kernel
theorem dX11_does_287 : decode cX11_does 287 = .ok (.istore 9, 2) := by decide +kernel
theorem dX11_does_289 : decode cX11_does 289 = .ok (.aload_n 0, 1) := by decide +kernel
theorem dX11_does_290 : decode cX11_does 290 = .ok (.aload_n 1, 1) := by decide +kernel
theorem dX11_does_291 : decode cX11_does 291 = .ok (.iload_n 2, 1) := by decide +kernel
theorem dX11_does_292 : decode cX11_does 292 = .ok (.iload 9, 2) := by decide +kernel
theorem dX11_does_294 : decode cX11_does 294 = .ok (.invokevirtual 262, 3) := by decide +kernel
theorem dX11_does_297 : decode cX11_does 297 = .ok (.aload_n 0, 1) := by decide +kernel
theorem dX11_does_298 : decode cX11_does 298 = .ok (.getfield 50, 3) := by decide +kernel
theorem dX11_does_301 : decode cX11_does 301 = .ok (.iload 8, 2) := by decide +kernel
theorem dX11_does_303 : decode cX11_does 303 = .ok (.aload_n 0, 1) := by decide +kernel
theorem dX11_does_304 : decode cX11_does 304 = .ok (.getfield 43, 3) := by decide +kernel
theorem dX11_does_307 : decode cX11_does 307 = .ok (.iconst 4, 1) := by decide +kernel
theorem dX11_does_308 : decode cX11_does 308 = .ok (.iload 8, 2) := by decide +kernel
theorem dX11_does_310 : decode cX11_does 310 = .ok (.imul, 1) := by decide +kernel
theorem dX11_does_311 : decode cX11_does 311 = .ok (.aload_n 0, 1) := by decide +kernel
theorem dX11_does_312 : decode cX11_does 312 = .ok (.getfield 53, 3) := by decide +kernel
theorem dX11_does_315 : decode cX11_does 315 = .ok (.invokestatic 266, 3) := by decide +kernel
theorem dX11_does_318 : decode cX11_does 318 = .ok (.aload_n 0, 1) := by decide +kernel
theorem dX11_does_319 : decode cX11_does 319 = .ok (.getfield 50, 3) := by decide +kernel
theorem dX11_does_322 : decode cX11_does 322 = .ok (.iload 8, 2) := by decide +kernel
theorem dX11_does_324 : decode cX11_does 324 = .ok (.aload_n 0, 1) := by decide +kernel
theorem dX11_does_325 : decode cX11_does 325 = .ok (.getfield 238, 3) := by decide +kernel
theorem dX11_does_328 : decode cX11_does 328 = .ok (.iload 9, 2) := by decide +kernel
theorem dX11_does_330 : decode cX11_does 330 = .ok (.isub, 1) := by decide +kernel
theorem dX11_does_331 : decode cX11_does 331 = .ok (.iload 7, 2) := by decide +kernel
theorem dX11_does_333 : decode cX11_does 333 = .ok (.imul, 1) := by decide +kernel
theorem dX11_does_334 : decode cX11_does 334 = .ok (.iadd, 1) := by decide +kernel
theorem dX11_does_335 : decode cX11_does 335 = .ok (.aload_n 0, 1) := by decide +kernel
theorem dX11_does_336 : decode cX11_does 336 = .ok (.getfield 43, 3) := by decide +kernel
theorem dX11_does_339 : decode cX11_does 339 = .ok (.iconst 4, 1) := by decide +kernel
theorem dX11_does_340 : decode cX11_does 340 = .ok (.iload 8, 2) := by decide +kernel
theorem dX11_does_342 : decode cX11_does 342 = .ok (.imul, 1) := by decide +kernel
theorem dX11_does_343 : decode cX11_does 343 = .ok (.aload_n 0, 1) := by decide +kernel
theorem dX11_does_344 : decode cX11_does 344 = .ok (.getfield 56, 3) := by decide +kernel
theorem dX11_does_347 : decode cX11_does 347 = .ok (.invokestatic 266, 3) := by decide +kernel
theorem dX11_does_350 : decode cX11_does 350 = .ok (.iinc 8 1, 3) := by decide +kernel
theorem dX11_does_353 : decode cX11_does 353 = .ok (.goto (-148), 3) := by decide +kernel
theorem dX11_does_356 : decode cX11_does 356 = .ok (.iconst 0, 1) := by decide +kernel
theorem dX11_does_357 : decode cX11_does 357 = .ok (.istore 8, 2) := by decide +kernel
theorem dX11_does_359 : decode cX11_does 359 = .ok (.iload 8, 2) := by decide +kernel
theorem dX11_does_361 : decode cX11_does 361 = .ok (.iconst 4, 1) := by decide +kernel
theorem dX11_does_362 : decode cX11_does 362 = .ok (.aload_n 0, 1) := by decide +kernel
theorem dX11_does_363 : decode cX11_does 363 = .ok (.getfield 253, 3) := by decide +kernel
theorem dX11_does_366 : decode cX11_does 366 = .ok (.imul, 1) := by decide +kernel
theorem dX11_does_367 : decode cX11_does 367 = .ok (.if_icmp .ge 23, 3) := by decide +kernel
theorem dX11_does_370 : decode cX11_does 370 = .ok (.aload_n 0, 1) := by decide +kernel
theorem dX11_does_371 : decode cX11_does 371 = .ok (.getfield 43, 3) := by decide +kernel
theorem dX11_does_374 : decode cX11_does 374 = .ok (.iload 8, 2) := by decide +kernel
theorem dX11_does_376 : decode cX11_does 376 = .ok (.aload_n 0, 1) := by decide +kernel
theorem dX11_does_377 : decode cX11_does 377 = .ok (.getfield 50, 3) := by decide +kernel
theorem dX11_does_380 : decode cX11_does 380 = .ok (.iload 8, 2) := by decide +kernel
theorem dX11_does_382 : decode cX11_does 382 = .ok (.laload, 1) := by decide +kernel
theorem dX11_does_383 : decode cX11_does 383 = .ok (.lastore, 1) := by decide +kernel
theorem dX11_does_384 : decode cX11_does 384 = .ok (.iinc 8 1, 3) := by decide +kernel
theorem dX11_does_387 : decode cX11_does 387 = .ok (.goto (-28), 3) := by decide +kernel
theorem dX11_does_390 : decode cX11_does 390 = .ok (.iinc 6 1, 3) := by decide +kernel
theorem dX11_does_393 : decode cX11_does 393 = .ok (.goto (-236), 3) := by decide +kernel
theorem dX11_does_396 : decode cX11_does 396 = .ok (.iconst 0, 1) := by decide +kernel
theorem dX11_does_397 : decode cX11_does 397 = .ok (.istore 6, 2) := by decide +kernel
theorem dX11_does_399 : decode cX11_does 399 = .ok (.iload 6, 2) := by decide +kernel
theorem dX11_does_401 : decode cX11_does 401 = .ok (.iconst 4, 1) := by decide +kernel
theorem dX11_does_402 : decode cX11_does 402 = .ok (.aload_n 0, 1) := by decide +kernel
theorem dX11_does_403 : decode cX11_does 403 = .ok (.getfield 253, 3) := by decide +kernel
theorem dX11_does_406 : decode cX11_does 406 = .ok (.imul, 1) := by decide +kernel
theorem dX11_does_407 : decode cX11_does 407 = .ok (.if_icmp .ge 26, 3) := by decide +kernel
theorem dX11_does_410 : decode cX11_does 410 = .ok (.aload_n 0, 1) := by decide +kernel
theorem dX11_does_411 : decode cX11_does 411 = .ok (.getfield 43, 3) := by decide +kernel
theorem dX11_does_414 : decode cX11_does 414 = .ok (.iload 6, 2) := by decide +kernel
theorem dX11_does_416 : decode cX11_does 416 = .ok (.dup2, 1) := by decide +kernel
theorem dX11_does_417 : decode cX11_does 417 = .ok (.laload, 1) := by decide +kernel
theorem dX11_does_418 : decode cX11_does 418 = .ok (.aload_n 0, 1) := by decide +kernel
theorem dX11_does_419 : decode cX11_does 419 = .ok (.getfield 47, 3) := by decide +kernel
theorem dX11_does_422 : decode cX11_does 422 = .ok (.iload 6, 2) := by decide +kernel
theorem dX11_does_424 : decode cX11_does 424 = .ok (.laload, 1) := by decide +kernel
theorem dX11_does_425 : decode cX11_does 425 = .ok (.ladd, 1) := by decide +kernel
theorem dX11_does_426 : decode cX11_does 426 = .ok (.lastore, 1) := by decide +kernel
theorem dX11_does_427 : decode cX11_does 427 = .ok (.iinc 6 1, 3) := by decide +kernel
theorem dX11_does_430 : decode cX11_does 430 = .ok (.goto (-31), 3) := by decide +kernel
theorem dX11_does_433 : decode cX11_does 433 = .ok (.return_, 1) := by decide +kernel
theorem dX11_runs_0 : decode cX11_runs 0 = .ok (.aload_n 0, 1) := by decide +kernel
theorem dX11_runs_1 : decode cX11_runs 1 = .ok (.iload 4, 2) := by decide +kernel
theorem dX11_runs_3 : decode cX11_runs 3 = .ok (.putfield 225, 3) := by decide +kernel
theorem dX11_runs_6 : decode cX11_runs 6 = .ok (.aload_n 0, 1) := by decide +kernel
theorem dX11_runs_7 : decode cX11_runs 7 = .ok (.ldc2_w 228, 3) := by decide +kernel
theorem dX11_runs_10 : decode cX11_runs 10 = .ok (.aload_n 0, 1) := by decide +kernel
theorem dX11_runs_11 : decode cX11_runs 11 = .ok (.getfield 225, 3) := by decide +kernel
theorem dX11_runs_14 : decode cX11_runs 14 = .ok (.invokestatic 218, 3) := by decide +kernel
theorem dX11_runs_17 : decode cX11_runs 17 = .ok (.l2i, 1) := by decide +kernel
theorem dX11_runs_18 : decode cX11_runs 18 = .ok (.putfield 253, 3) := by decide +kernel
theorem dX11_runs_21 : decode cX11_runs 21 = .ok (.iconst 0, 1) := by decide +kernel
theorem dX11_runs_22 : decode cX11_runs 22 = .ok (.istore 6, 2) := by decide +kernel
theorem dX11_runs_24 : decode cX11_runs 24 = .ok (.iconst 0, 1) := by decide +kernel
theorem dX11_runs_25 : decode cX11_runs 25 = .ok (.istore 7, 2) := by decide +kernel
theorem dX11_runs_27 : decode cX11_runs 27 = .ok (.iload 7, 2) := by decide +kernel
theorem dX11_runs_29 : decode cX11_runs 29 = .ok (.aload_n 0, 1) := by decide +kernel
theorem dX11_runs_30 : decode cX11_runs 30 = .ok (.getfield 225, 3) := by decide +kernel
theorem dX11_runs_33 : decode cX11_runs 33 = .ok (.if_icmp .ge 35, 3) := by decide +kernel
theorem dX11_runs_36 : decode cX11_runs 36 = .ok (.bipush 16, 2) := by decide +kernel
theorem dX11_runs_38 : decode cX11_runs 38 = .ok (.iload 6, 2) := by decide +kernel
theorem dX11_runs_40 : decode cX11_runs 40 = .ok (.imul, 1) := by decide +kernel
theorem dX11_runs_41 : decode cX11_runs 41 = .ok (.iload 5, 2) := by decide +kernel
theorem dX11_runs_43 : decode cX11_runs 43 = .ok (.iconst (-1), 1) := by decide +kernel
theorem dX11_runs_44 : decode cX11_runs 44 = .ok (.if_icmp .ne 13, 3) := by decide +kernel
theorem dX11_runs_47 : decode cX11_runs 47 = .ok (.aload_n 0, 1) := by decide +kernel
theorem dX11_runs_48 : decode cX11_runs 48 = .ok (.getfield 7, 3) := by decide +kernel
theorem dX11_runs_51 : decode cX11_runs 51 = .ok (.iload 7, 2) := by decide +kernel
theorem dX11_runs_53 : decode cX11_runs 53 = .ok (.iaload, 1) := by decide +kernel
theorem dX11_runs_54 : decode cX11_runs 54 = .ok (.goto 5, 3) := by decide +kernel
theorem dX11_runs_57 : decode cX11_runs 57 = .ok (.iload 5, 2) := by decide +kernel
theorem dX11_runs_59 : decode cX11_runs 59 = .ok (.iadd, 1) := by decide +kernel
theorem dX11_runs_60 : decode cX11_runs 60 = .ok (.istore 6, 2) := by decide +kernel
theorem dX11_runs_62 : decode cX11_runs 62 = .ok (.iinc 7 1, 3) := by decide +kernel
theorem dX11_runs_65 : decode cX11_runs 65 = .ok (.goto (-38), 3) := by decide +kernel
theorem dX11_runs_68 : decode cX11_runs 68 = .ok (.iconst 0, 1) := by decide +kernel
theorem dX11_runs_69 : decode cX11_runs 69 = .ok (.istore 7, 2) := by decide +kernel
theorem dX11_runs_71 : decode cX11_runs 71 = .ok (.iload 7, 2) := by decide +kernel
theorem dX11_runs_73 : decode cX11_runs 73 = .ok (.iconst 4, 1) := by decide +kernel
theorem dX11_runs_74 : decode cX11_runs 74 = .ok (.aload_n 0, 1) := by decide +kernel
theorem dX11_runs_75 : decode cX11_runs 75 = .ok (.getfield 253, 3) := by decide +kernel
theorem dX11_runs_78 : decode cX11_runs 78 = .ok (.imul, 1) := by decide +kernel
theorem dX11_runs_79 : decode cX11_runs 79 = .ok (.if_icmp .ge 17, 3) := by decide +kernel
theorem dX11_runs_82 : decode cX11_runs 82 = .ok (.aload_n 0, 1) := by decide +kernel
theorem dX11_runs_83 : decode cX11_runs 83 = .ok (.getfield 43, 3) := by decide +kernel
theorem dX11_runs_86 : decode cX11_runs 86 = .ok (.iload 7, 2) := by decide +kernel
theorem dX11_runs_88 : decode cX11_runs 88 = .ok (.lconst 0, 1) := by decide +kernel
theorem dX11_runs_89 : decode cX11_runs 89 = .ok (.lastore, 1) := by decide +kernel
theorem dX11_runs_90 : decode cX11_runs 90 = .ok (.iinc 7 1, 3) := by decide +kernel
theorem dX11_runs_93 : decode cX11_runs 93 = .ok (.goto (-22), 3) := by decide +kernel
theorem dX11_runs_96 : decode cX11_runs 96 = .ok (.aload_n 0, 1) := by decide +kernel
theorem dX11_runs_97 : decode cX11_runs 97 = .ok (.getfield 43, 3) := by decide +kernel
theorem dX11_runs_100 : decode cX11_runs 100 = .ok (.iconst 4, 1) := by decide +kernel
theorem dX11_runs_101 : decode cX11_runs 101 = .ok (.iload 6, 2) := by decide +kernel
theorem dX11_runs_103 : decode cX11_runs 103 = .ok (.imul, 1) := by decide +kernel
theorem dX11_runs_104 : decode cX11_runs 104 = .ok (.lconst 1, 1) := by decide +kernel
theorem dX11_runs_105 : decode cX11_runs 105 = .ok (.lastore, 1) := by decide +kernel
theorem dX11_runs_106 : decode cX11_runs 106 = .ok (.iconst 0, 1) := by decide +kernel
theorem dX11_runs_107 : decode cX11_runs 107 = .ok (.istore 7, 2) := by decide +kernel
theorem dX11_runs_109 : decode cX11_runs 109 = .ok (.iload 7, 2) := by decide +kernel
theorem dX11_runs_111 : decode cX11_runs 111 = .ok (.iload_n 3, 1) := by decide +kernel
theorem dX11_runs_112 : decode cX11_runs 112 = .ok (.if_icmp .ge 34, 3) := by decide +kernel
theorem dX11_runs_115 : decode cX11_runs 115 = .ok (.aload_n 1, 1) := by decide +kernel
theorem dX11_runs_116 : decode cX11_runs 116 = .ok (.iload_n 2, 1) := by decide +kernel
theorem dX11_runs_117 : decode cX11_runs 117 = .ok (.bipush 8, 2) := by decide +kernel
theorem dX11_runs_119 : decode cX11_runs 119 = .ok (.iload 7, 2) := by decide +kernel
theorem dX11_runs_121 : decode cX11_runs 121 = .ok (.imul, 1) := by decide +kernel
theorem dX11_runs_122 : decode cX11_runs 122 = .ok (.iadd, 1) := by decide +kernel
theorem dX11_runs_123 : decode cX11_runs 123 = .ok (.iaload, 1) := by decide +kernel
theorem dX11_runs_124 : decode cX11_runs 124 = .ok (.iconst 5, 1) := by decide +kernel
theorem dX11_runs_125 : decode cX11_runs 125 = .ok (.if_icmp .eq 15, 3) := by decide +kernel
theorem dX11_runs_128 : decode cX11_runs 128 = .ok (.aload_n 0, 1) := by decide +kernel
theorem dX11_runs_129 : decode cX11_runs 129 = .ok (.aload_n 1, 1) := by decide +kernel
theorem dX11_runs_130 : decode cX11_runs 130 = .ok (.iload_n 2, 1) := by decide +kernel
theorem dX11_runs_131 : decode cX11_runs 131 = .ok (.bipush 8, 2) := by decide +kernel
theorem dX11_runs_133 : decode cX11_runs 133 = .ok (.iload 7, 2) := by decide +kernel
theorem dX11_runs_135 : decode cX11_runs 135 = .ok (.imul, 1) := by decide +kernel
theorem dX11_runs_136 : decode cX11_runs 136 = .ok (.iadd, 1) := by decide +kernel
theorem dX11_runs_137 : decode cX11_runs 137 = .ok (.invokevirtual 270, 3) := by decide +kernel
theorem dX11_runs_140 : decode cX11_runs 140 = .ok (.iinc 7 1, 3) := by decide +kernel
theorem dX11_runs_143 : decode cX11_runs 143 = .ok (.goto (-34), 3) := by decide +kernel
theorem dX11_runs_146 : decode cX11_runs 146 = .ok (.return_, 1) := by decide +kernel
theorem dX11_deep_0 : decode cX11_deep 0 = .ok (.iload_n 1, 1) := by decide +kernel
theorem dX11_deep_1 : decode cX11_deep 1 = .ok (.iconst 0, 1) := by decide +kernel
theorem dX11_deep_2 : decode cX11_deep 2 = .ok (.iconst 3, 1) := by decide +kernel
theorem dX11_deep_3 : decode cX11_deep 3 = .ok (.invokestatic 104, 3) := by decide +kernel
theorem dX11_deep_6 : decode cX11_deep 6 = .ok (.ifCond .eq 28, 3) := by decide +kernel
theorem dX11_deep_9 : decode cX11_deep 9 = .ok (.aload_n 0, 1) := by decide +kernel
theorem dX11_deep_10 : decode cX11_deep 10 = .ok (.getfield 13, 3) := by decide +kernel
theorem dX11_deep_13 : decode cX11_deep 13 = .ok (.sipush 128, 3) := by decide +kernel
theorem dX11_deep_16 : decode cX11_deep 16 = .ok (.iload_n 1, 1) := by decide +kernel
theorem dX11_deep_17 : decode cX11_deep 17 = .ok (.imul, 1) := by decide +kernel
theorem dX11_deep_18 : decode cX11_deep 18 = .ok (.aload_n 0, 1) := by decide +kernel
theorem dX11_deep_19 : decode cX11_deep 19 = .ok (.getfield 16, 3) := by decide +kernel
theorem dX11_deep_22 : decode cX11_deep 22 = .ok (.iload_n 1, 1) := by decide +kernel
theorem dX11_deep_23 : decode cX11_deep 23 = .ok (.iaload, 1) := by decide +kernel
theorem dX11_deep_24 : decode cX11_deep 24 = .ok (.aload_n 0, 1) := by decide +kernel
theorem dX11_deep_25 : decode cX11_deep 25 = .ok (.getfield 112, 3) := by decide +kernel
theorem dX11_deep_28 : decode cX11_deep 28 = .ok (.invokestatic 274, 3) := by decide +kernel
theorem dX11_deep_31 : decode cX11_deep 31 = .ok (.goto 4, 3) := by decide +kernel
theorem dX11_deep_34 : decode cX11_deep 34 = .ok (.iconst (-1), 1) := by decide +kernel
theorem dX11_deep_35 : decode cX11_deep 35 = .ok (.ireturn, 1) := by decide +kernel
theorem dX11_way_0 : decode cX11_way 0 = .ok (.iload_n 1, 1) := by decide +kernel
theorem dX11_way_1 : decode cX11_way 1 = .ok (.iconst 0, 1) := by decide +kernel
theorem dX11_way_2 : decode cX11_way 2 = .ok (.iconst 3, 1) := by decide +kernel
theorem dX11_way_3 : decode cX11_way 3 = .ok (.invokestatic 104, 3) := by decide +kernel
theorem dX11_way_6 : decode cX11_way 6 = .ok (.ifCond .eq 33, 3) := by decide +kernel
theorem dX11_way_9 : decode cX11_way 9 = .ok (.iload_n 2, 1) := by decide +kernel
theorem dX11_way_10 : decode cX11_way 10 = .ok (.iconst 0, 1) := by decide +kernel
theorem dX11_way_11 : decode cX11_way 11 = .ok (.bipush 9, 2) := by decide +kernel
theorem dX11_way_13 : decode cX11_way 13 = .ok (.invokestatic 104, 3) := by decide +kernel
theorem dX11_way_16 : decode cX11_way 16 = .ok (.ifCond .eq 23, 3) := by decide +kernel
theorem dX11_way_19 : decode cX11_way 19 = .ok (.iload_n 3, 1) := by decide +kernel
theorem dX11_way_20 : decode cX11_way 20 = .ok (.iconst 0, 1) := by decide +kernel
theorem dX11_way_21 : decode cX11_way 21 = .ok (.bipush 9, 2) := by decide +kernel
theorem dX11_way_23 : decode cX11_way 23 = .ok (.invokestatic 104, 3) := by decide +kernel
theorem dX11_way_26 : decode cX11_way 26 = .ok (.ifCond .eq 13, 3) := by decide +kernel
theorem dX11_way_29 : decode cX11_way 29 = .ok (.iload 4, 2) := by decide +kernel
theorem dX11_way_31 : decode cX11_way 31 = .ok (.iconst 0, 1) := by decide +kernel
theorem dX11_way_32 : decode cX11_way 32 = .ok (.iconst 4, 1) := by decide +kernel
theorem dX11_way_33 : decode cX11_way 33 = .ok (.invokestatic 104, 3) := by decide +kernel
theorem dX11_way_36 : decode cX11_way 36 = .ok (.ifCond .ne 7, 3) := by decide +kernel
theorem dX11_way_39 : decode cX11_way 39 = .ok (.ldc_w 278, 3) := by decide +kernel
theorem dX11_way_42 : decode cX11_way 42 = .ok (.ireturn, 1) := by decide +kernel
theorem dX11_way_43 : decode cX11_way 43 = .ok (.aload_n 0, 1) := by decide +kernel
theorem dX11_way_44 : decode cX11_way 44 = .ok (.getfield 13, 3) := by decide +kernel
theorem dX11_way_47 : decode cX11_way 47 = .ok (.sipush 128, 3) := by decide +kernel
theorem dX11_way_50 : decode cX11_way 50 = .ok (.iload_n 1, 1) := by decide +kernel
theorem dX11_way_51 : decode cX11_way 51 = .ok (.imul, 1) := by decide +kernel
theorem dX11_way_52 : decode cX11_way 52 = .ok (.aload_n 0, 1) := by decide +kernel
theorem dX11_way_53 : decode cX11_way 53 = .ok (.getfield 16, 3) := by decide +kernel
theorem dX11_way_56 : decode cX11_way 56 = .ok (.iload_n 1, 1) := by decide +kernel
theorem dX11_way_57 : decode cX11_way 57 = .ok (.iaload, 1) := by decide +kernel
theorem dX11_way_58 : decode cX11_way 58 = .ok (.iconst 1, 1) := by decide +kernel
theorem dX11_way_59 : decode cX11_way 59 = .ok (.invokestatic 274, 3) := by decide +kernel
theorem dX11_way_62 : decode cX11_way 62 = .ok (.istore 5, 2) := by decide +kernel
theorem dX11_way_64 : decode cX11_way 64 = .ok (.iload 5, 2) := by decide +kernel
theorem dX11_way_66 : decode cX11_way 66 = .ok (.ldc_w 279, 3) := by decide +kernel
theorem dX11_way_69 : decode cX11_way 69 = .ok (.if_icmp .le 7, 3) := by decide +kernel
theorem dX11_way_72 : decode cX11_way 72 = .ok (.ldc_w 278, 3) := by decide +kernel
theorem dX11_way_75 : decode cX11_way 75 = .ok (.ireturn, 1) := by decide +kernel
theorem dX11_way_76 : decode cX11_way 76 = .ok (.iload 4, 2) := by decide +kernel
theorem dX11_way_78 : decode cX11_way 78 = .ok (.iconst 4, 1) := by decide +kernel
theorem dX11_way_79 : decode cX11_way 79 = .ok (.if_icmp .ne 6, 3) := by decide +kernel
theorem dX11_way_82 : decode cX11_way 82 = .ok (.iload 5, 2) := by decide +kernel
theorem dX11_way_84 : decode cX11_way 84 = .ok (.ireturn, 1) := by decide +kernel
theorem dX11_way_85 : decode cX11_way 85 = .ok (.aload_n 0, 1) := by decide +kernel
theorem dX11_way_86 : decode cX11_way 86 = .ok (.aload_n 0, 1) := by decide +kernel
theorem dX11_way_87 : decode cX11_way 87 = .ok (.getfield 13, 3) := by decide +kernel
theorem dX11_way_90 : decode cX11_way 90 = .ok (.sipush 128, 3) := by decide +kernel
theorem dX11_way_93 : decode cX11_way 93 = .ok (.iload_n 1, 1) := by decide +kernel
theorem dX11_way_94 : decode cX11_way 94 = .ok (.imul, 1) := by decide +kernel
theorem dX11_way_95 : decode cX11_way 95 = .ok (.aload_n 0, 1) := by decide +kernel
theorem dX11_way_96 : decode cX11_way 96 = .ok (.getfield 16, 3) := by decide +kernel
theorem dX11_way_99 : decode cX11_way 99 = .ok (.iload_n 1, 1) := by decide +kernel
theorem dX11_way_100 : decode cX11_way 100 = .ok (.iaload, 1) := by decide +kernel
theorem dX11_way_101 : decode cX11_way 101 = .ok (.iconst 1, 1) := by decide +kernel
theorem dX11_way_102 : decode cX11_way 102 = .ok (.iload_n 2, 1) := by decide +kernel
theorem dX11_way_103 : decode cX11_way 103 = .ok (.invokevirtual 280, 3) := by decide +kernel
theorem dX11_way_106 : decode cX11_way 106 = .ok (.aload_n 0, 1) := by decide +kernel
theorem dX11_way_107 : decode cX11_way 107 = .ok (.getfield 43, 3) := by decide +kernel
theorem dX11_way_110 : decode cX11_way 110 = .ok (.iconst 4, 1) := by decide +kernel
theorem dX11_way_111 : decode cX11_way 111 = .ok (.iload_n 3, 1) := by decide +kernel
theorem dX11_way_112 : decode cX11_way 112 = .ok (.imul, 1) := by decide +kernel
theorem dX11_way_113 : decode cX11_way 113 = .ok (.iload 4, 2) := by decide +kernel
theorem dX11_way_115 : decode cX11_way 115 = .ok (.iadd, 1) := by decide +kernel
theorem dX11_way_116 : decode cX11_way 116 = .ok (.laload, 1) := by decide +kernel
theorem dX11_way_117 : decode cX11_way 117 = .ok (.l2i, 1) := by decide +kernel
theorem dX11_way_118 : decode cX11_way 118 = .ok (.ireturn, 1) := by decide +kernel
theorem dX11_times_0 : decode cX11_times 0 = .ok (.iload_n 0, 1) := by decide +kernel
theorem dX11_times_1 : decode cX11_times 1 = .ok (.iconst 2, 1) := by decide +kernel
theorem dX11_times_2 : decode cX11_times 2 = .ok (.if_icmp .ge 7, 3) := by decide +kernel
theorem dX11_times_5 : decode cX11_times 5 = .ok (.lconst 1, 1) := by decide +kernel
theorem dX11_times_6 : decode cX11_times 6 = .ok (.goto 17, 3) := by decide +kernel
theorem dX11_times_9 : decode cX11_times 9 = .ok (.iload_n 0, 1) := by decide +kernel
theorem dX11_times_10 : decode cX11_times 10 = .ok (.iconst 2, 1) := by decide +kernel
theorem dX11_times_11 : decode cX11_times 11 = .ok (.if_icmp .ne 9, 3) := by decide +kernel
theorem dX11_times_14 : decode cX11_times 14 = .ok (.ldc2_w 247, 3) := by decide +kernel
theorem dX11_times_17 : decode cX11_times 17 = .ok (.goto 6, 3) := by decide +kernel
theorem dX11_times_20 : decode cX11_times 20 = .ok (.ldc2_w 284, 3) := by decide +kernel
theorem dX11_times_23 : decode cX11_times 23 = .ok (.lreturn, 1) := by decide +kernel
theorem dX11_factorials_0 : decode cX11_factorials 0 = .ok (.lconst 1, 1) := by decide +kernel
theorem dX11_factorials_1 : decode cX11_factorials 1 = .ok (.lstore_n 2, 1) := by decide +kernel
theorem dX11_factorials_2 : decode cX11_factorials 2 = .ok (.iconst 0, 1) := by decide +kernel
theorem dX11_factorials_3 : decode cX11_factorials 3 = .ok (.istore 4, 2) := by decide +kernel
theorem dX11_factorials_5 : decode cX11_factorials 5 = .ok (.iload 4, 2) := by decide +kernel
theorem dX11_factorials_7 : decode cX11_factorials 7 = .ok (.bipush 16, 2) := by decide +kernel
theorem dX11_factorials_9 : decode cX11_factorials 9 = .ok (.if_icmp .ge 60, 3) := by decide +kernel
theorem dX11_factorials_12 : decode cX11_factorials 12 = .ok (.iconst 0, 1) := by decide +kernel
theorem dX11_factorials_13 : decode cX11_factorials 13 = .ok (.istore 5, 2) := by decide +kernel
theorem dX11_factorials_15 : decode cX11_factorials 15 = .ok (.iconst 0, 1) := by decide +kernel
theorem dX11_factorials_16 : decode cX11_factorials 16 = .ok (.istore 6, 2) := by decide +kernel
theorem dX11_factorials_18 : decode cX11_factorials 18 = .ok (.iload 6, 2) := by decide +kernel
theorem dX11_factorials_20 : decode cX11_factorials 20 = .ok (.aload_n 0, 1) := by decide +kernel
theorem dX11_factorials_21 : decode cX11_factorials 21 = .ok (.getfield 225, 3) := by decide +kernel
theorem dX11_factorials_24 : decode cX11_factorials 24 = .ok (.if_icmp .ge 31, 3) := by decide +kernel
theorem dX11_factorials_27 : decode cX11_factorials 27 = .ok (.iload 5, 2) := by decide +kernel
theorem dX11_factorials_29 : decode cX11_factorials 29 = .ok (.aload_n 0, 1) := by decide +kernel
theorem dX11_factorials_30 : decode cX11_factorials 30 = .ok (.iload_n 1, 1) := by decide +kernel
theorem dX11_factorials_31 : decode cX11_factorials 31 = .ok (.iload 6, 2) := by decide +kernel
theorem dX11_factorials_33 : decode cX11_factorials 33 = .ok (.invokevirtual 249, 3) := by decide +kernel
theorem dX11_factorials_36 : decode cX11_factorials 36 = .ok (.iload 4, 2) := by decide +kernel
theorem dX11_factorials_38 : decode cX11_factorials 38 = .ok (.if_icmp .ne 7, 3) := by decide +kernel
theorem dX11_factorials_41 : decode cX11_factorials 41 = .ok (.iconst 1, 1) := by decide +kernel
theorem dX11_factorials_42 : decode cX11_factorials 42 = .ok (.goto 4, 3) := by decide +kernel
theorem dX11_factorials_45 : decode cX11_factorials 45 = .ok (.iconst 0, 1) := by decide +kernel
theorem dX11_factorials_46 : decode cX11_factorials 46 = .ok (.iadd, 1) := by decide +kernel
theorem dX11_factorials_47 : decode cX11_factorials 47 = .ok (.istore 5, 2) := by decide +kernel
theorem dX11_factorials_49 : decode cX11_factorials 49 = .ok (.iinc 6 1, 3) := by decide +kernel
theorem dX11_factorials_52 : decode cX11_factorials 52 = .ok (.goto (-34), 3) := by decide +kernel
theorem dX11_factorials_55 : decode cX11_factorials 55 = .ok (.lload_n 2, 1) := by decide +kernel
theorem dX11_factorials_56 : decode cX11_factorials 56 = .ok (.iload 5, 2) := by decide +kernel
theorem dX11_factorials_58 : decode cX11_factorials 58 = .ok (.invokestatic 286, 3) := by decide +kernel
theorem dX11_factorials_61 : decode cX11_factorials 61 = .ok (.lmul, 1) := by decide +kernel
theorem dX11_factorials_62 : decode cX11_factorials 62 = .ok (.lstore_n 2, 1) := by decide +kernel
theorem dX11_factorials_63 : decode cX11_factorials 63 = .ok (.iinc 4 1, 3) := by decide +kernel
theorem dX11_factorials_66 : decode cX11_factorials 66 = .ok (.goto (-61), 3) := by decide +kernel
theorem dX11_factorials_69 : decode cX11_factorials 69 = .ok (.lload_n 2, 1) := by decide +kernel
theorem dX11_factorials_70 : decode cX11_factorials 70 = .ok (.lreturn, 1) := by decide +kernel
theorem dX11_isSorted_0 : decode cX11_isSorted 0 = .ok (.iconst 1, 1) := by decide +kernel
theorem dX11_isSorted_1 : decode cX11_isSorted 1 = .ok (.istore_n 2, 1) := by decide +kernel
theorem dX11_isSorted_2 : decode cX11_isSorted 2 = .ok (.iload_n 2, 1) := by decide +kernel
theorem dX11_isSorted_3 : decode cX11_isSorted 3 = .ok (.aload_n 0, 1) := by decide +kernel
theorem dX11_isSorted_4 : decode cX11_isSorted 4 = .ok (.getfield 225, 3) := by decide +kernel
theorem dX11_isSorted_7 : decode cX11_isSorted 7 = .ok (.if_icmp .ge 28, 3) := by decide +kernel
theorem dX11_isSorted_10 : decode cX11_isSorted 10 = .ok (.aload_n 0, 1) := by decide +kernel
theorem dX11_isSorted_11 : decode cX11_isSorted 11 = .ok (.iload_n 1, 1) := by decide +kernel
theorem dX11_isSorted_12 : decode cX11_isSorted 12 = .ok (.iload_n 2, 1) := by decide +kernel
theorem dX11_isSorted_13 : decode cX11_isSorted 13 = .ok (.invokevirtual 249, 3) := by decide +kernel
theorem dX11_isSorted_16 : decode cX11_isSorted 16 = .ok (.aload_n 0, 1) := by decide +kernel
theorem dX11_isSorted_17 : decode cX11_isSorted 17 = .ok (.iload_n 1, 1) := by decide +kernel
theorem dX11_isSorted_18 : decode cX11_isSorted 18 = .ok (.iload_n 2, 1) := by decide +kernel
theorem dX11_isSorted_19 : decode cX11_isSorted 19 = .ok (.iconst 1, 1) := by decide +kernel
theorem dX11_isSorted_20 : decode cX11_isSorted 20 = .ok (.isub, 1) := by decide +kernel
theorem dX11_isSorted_21 : decode cX11_isSorted 21 = .ok (.invokevirtual 249, 3) := by decide +kernel
theorem dX11_isSorted_24 : decode cX11_isSorted 24 = .ok (.if_icmp .ge 5, 3) := by decide +kernel
theorem dX11_isSorted_27 : decode cX11_isSorted 27 = .ok (.iconst 0, 1) := by decide +kernel
theorem dX11_isSorted_28 : decode cX11_isSorted 28 = .ok (.ireturn, 1) := by decide +kernel
theorem dX11_isSorted_29 : decode cX11_isSorted 29 = .ok (.iinc 2 1, 3) := by decide +kernel
theorem dX11_isSorted_32 : decode cX11_isSorted 32 = .ok (.goto (-30), 3) := by decide +kernel
theorem dX11_isSorted_35 : decode cX11_isSorted 35 = .ok (.iconst 1, 1) := by decide +kernel
theorem dX11_isSorted_36 : decode cX11_isSorted 36 = .ok (.ireturn, 1) := by decide +kernel
theorem dX11_changed_0 : decode cX11_changed 0 = .ok (.aload_n 0, 1) := by decide +kernel
theorem dX11_changed_1 : decode cX11_changed 1 = .ok (.iload_n 1, 1) := by decide +kernel
theorem dX11_changed_2 : decode cX11_changed 2 = .ok (.iload_n 2, 1) := by decide +kernel
theorem dX11_changed_3 : decode cX11_changed 3 = .ok (.invokevirtual 249, 3) := by decide +kernel
theorem dX11_changed_6 : decode cX11_changed 6 = .ok (.istore 4, 2) := by decide +kernel
theorem dX11_changed_8 : decode cX11_changed 8 = .ok (.aload_n 0, 1) := by decide +kernel
theorem dX11_changed_9 : decode cX11_changed 9 = .ok (.iload_n 1, 1) := by decide +kernel
theorem dX11_changed_10 : decode cX11_changed 10 = .ok (.iload_n 3, 1) := by decide +kernel
theorem dX11_changed_11 : decode cX11_changed 11 = .ok (.invokevirtual 249, 3) := by decide +kernel
theorem dX11_changed_14 : decode cX11_changed 14 = .ok (.istore 5, 2) := by decide +kernel
theorem dX11_changed_16 : decode cX11_changed 16 = .ok (.iload_n 1, 1) := by decide +kernel
theorem dX11_changed_17 : decode cX11_changed 17 = .ok (.iload 5, 2) := by decide +kernel
theorem dX11_changed_19 : decode cX11_changed 19 = .ok (.iload 4, 2) := by decide +kernel
theorem dX11_changed_21 : decode cX11_changed 21 = .ok (.isub, 1) := by decide +kernel
theorem dX11_changed_22 : decode cX11_changed 22 = .ok (.aload_n 0, 1) := by decide +kernel
theorem dX11_changed_23 : decode cX11_changed 23 = .ok (.iload_n 2, 1) := by decide +kernel
theorem dX11_changed_24 : decode cX11_changed 24 = .ok (.invokevirtual 259, 3) := by decide +kernel
theorem dX11_changed_27 : decode cX11_changed 27 = .ok (.imul, 1) := by decide +kernel
theorem dX11_changed_28 : decode cX11_changed 28 = .ok (.iadd, 1) := by decide +kernel
theorem dX11_changed_29 : decode cX11_changed 29 = .ok (.iload 4, 2) := by decide +kernel
theorem dX11_changed_31 : decode cX11_changed 31 = .ok (.iload 5, 2) := by decide +kernel
theorem dX11_changed_33 : decode cX11_changed 33 = .ok (.isub, 1) := by decide +kernel
theorem dX11_changed_34 : decode cX11_changed 34 = .ok (.aload_n 0, 1) := by decide +kernel
theorem dX11_changed_35 : decode cX11_changed 35 = .ok (.iload_n 3, 1) := by decide +kernel
theorem dX11_changed_36 : decode cX11_changed 36 = .ok (.invokevirtual 259, 3) := by decide +kernel
theorem dX11_changed_39 : decode cX11_changed 39 = .ok (.imul, 1) := by decide +kernel
theorem dX11_changed_40 : decode cX11_changed 40 = .ok (.iadd, 1) := by decide +kernel
theorem dX11_changed_41 : decode cX11_changed 41 = .ok (.ireturn, 1) := by decide +kernel
theorem dX11_lays_0 : decode cX11_lays 0 = .ok (.aload_n 0, 1) := by decide +kernel
theorem dX11_lays_1 : decode cX11_lays 1 = .ok (.aload_n 1, 1) := by decide +kernel
theorem dX11_lays_2 : decode cX11_lays 2 = .ok (.iload_n 2, 1) := by decide +kernel
theorem dX11_lays_3 : decode cX11_lays 3 = .ok (.iload_n 3, 1) := by decide +kernel
theorem dX11_lays_4 : decode cX11_lays 4 = .ok (.aload_n 0, 1) := by decide +kernel
theorem dX11_lays_5 : decode cX11_lays 5 = .ok (.getfield 112, 3) := by decide +kernel
theorem dX11_lays_8 : decode cX11_lays 8 = .ok (.iconst (-1), 1) := by decide +kernel
theorem dX11_lays_9 : decode cX11_lays 9 = .ok (.invokevirtual 280, 3) := by decide +kernel
theorem dX11_lays_12 : decode cX11_lays 12 = .ok (.iconst 0, 1) := by decide +kernel
theorem dX11_lays_13 : decode cX11_lays 13 = .ok (.istore 5, 2) := by decide +kernel
theorem dX11_lays_15 : decode cX11_lays 15 = .ok (.iload 5, 2) := by decide +kernel
theorem dX11_lays_17 : decode cX11_lays 17 = .ok (.sipush 1024, 3) := by decide +kernel
theorem dX11_lays_20 : decode cX11_lays 20 = .ok (.if_icmp .ge 25, 3) := by decide +kernel
theorem dX11_lays_23 : decode cX11_lays 23 = .ok (.aload_n 0, 1) := by decide +kernel
theorem dX11_lays_24 : decode cX11_lays 24 = .ok (.getfield 59, 3) := by decide +kernel
theorem dX11_lays_27 : decode cX11_lays 27 = .ok (.iload 5, 2) := by decide +kernel
theorem dX11_lays_29 : decode cX11_lays 29 = .ok (.lconst 0, 1) := by decide +kernel
theorem dX11_lays_30 : decode cX11_lays 30 = .ok (.lastore, 1) := by decide +kernel
theorem dX11_lays_31 : decode cX11_lays 31 = .ok (.aload_n 0, 1) := by decide +kernel
theorem dX11_lays_32 : decode cX11_lays 32 = .ok (.getfield 62, 3) := by decide +kernel
theorem dX11_lays_35 : decode cX11_lays 35 = .ok (.iload 5, 2) := by decide +kernel
theorem dX11_lays_37 : decode cX11_lays 37 = .ok (.lconst 0, 1) := by decide +kernel
theorem dX11_lays_38 : decode cX11_lays 38 = .ok (.lastore, 1) := by decide +kernel
theorem dX11_lays_39 : decode cX11_lays 39 = .ok (.iinc 5 1, 3) := by decide +kernel
theorem dX11_lays_42 : decode cX11_lays 42 = .ok (.goto (-27), 3) := by decide +kernel
theorem dX11_lays_45 : decode cX11_lays 45 = .ok (.iconst 0, 1) := by decide +kernel
theorem dX11_lays_46 : decode cX11_lays 46 = .ok (.istore 5, 2) := by decide +kernel
theorem dX11_lays_48 : decode cX11_lays 48 = .ok (.iconst 0, 1) := by decide +kernel
theorem dX11_lays_49 : decode cX11_lays 49 = .ok (.istore 6, 2) := by decide +kernel
theorem dX11_lays_51 : decode cX11_lays 51 = .ok (.iload 6, 2) := by decide +kernel
theorem dX11_lays_53 : decode cX11_lays 53 = .ok (.aload_n 0, 1) := by decide +kernel
theorem dX11_lays_54 : decode cX11_lays 54 = .ok (.getfield 225, 3) := by decide +kernel
theorem dX11_lays_57 : decode cX11_lays 57 = .ok (.if_icmp .ge 24, 3) := by decide +kernel
theorem dX11_lays_60 : decode cX11_lays 60 = .ok (.bipush 16, 2) := by decide +kernel
theorem dX11_lays_62 : decode cX11_lays 62 = .ok (.iload 5, 2) := by decide +kernel
theorem dX11_lays_64 : decode cX11_lays 64 = .ok (.imul, 1) := by decide +kernel
theorem dX11_lays_65 : decode cX11_lays 65 = .ok (.aload_n 0, 1) := by decide +kernel
theorem dX11_lays_66 : decode cX11_lays 66 = .ok (.getfield 7, 3) := by decide +kernel
theorem dX11_lays_69 : decode cX11_lays 69 = .ok (.iload 6, 2) := by decide +kernel
theorem dX11_lays_71 : decode cX11_lays 71 = .ok (.iaload, 1) := by decide +kernel
theorem dX11_lays_72 : decode cX11_lays 72 = .ok (.iadd, 1) := by decide +kernel
theorem dX11_lays_73 : decode cX11_lays 73 = .ok (.istore 5, 2) := by decide +kernel
theorem dX11_lays_75 : decode cX11_lays 75 = .ok (.iinc 6 1, 3) := by decide +kernel
theorem dX11_lays_78 : decode cX11_lays 78 = .ok (.goto (-27), 3) := by decide +kernel
theorem dX11_lays_81 : decode cX11_lays 81 = .ok (.aload_n 0, 1) := by decide +kernel
theorem dX11_lays_82 : decode cX11_lays 82 = .ok (.iload 4, 2) := by decide +kernel
theorem dX11_lays_84 : decode cX11_lays 84 = .ok (.i2l, 1) := by decide +kernel
theorem dX11_lays_85 : decode cX11_lays 85 = .ok (.iload 4, 2) := by decide +kernel
theorem dX11_lays_87 : decode cX11_lays 87 = .ok (.i2l, 1) := by decide +kernel
theorem dX11_lays_88 : decode cX11_lays 88 = .ok (.lmul, 1) := by decide +kernel
theorem dX11_lays_89 : decode cX11_lays 89 = .ok (.aload_n 0, 1) := by decide +kernel
theorem dX11_lays_90 : decode cX11_lays 90 = .ok (.iload 5, 2) := by decide +kernel
theorem dX11_lays_92 : decode cX11_lays 92 = .ok (.invokevirtual 290, 3) := by decide +kernel
theorem dX11_lays_95 : decode cX11_lays 95 = .ok (.lmul, 1) := by decide +kernel
theorem dX11_lays_96 : decode cX11_lays 96 = .ok (.putfield 293, 3) := by decide +kernel
theorem dX11_lays_99 : decode cX11_lays 99 = .ok (.iconst 0, 1) := by decide +kernel
theorem dX11_lays_100 : decode cX11_lays 100 = .ok (.istore 6, 2) := by decide +kernel
theorem dX11_lays_102 : decode cX11_lays 102 = .ok (.iload 6, 2) := by decide +kernel
theorem dX11_lays_104 : decode cX11_lays 104 = .ok (.aload_n 0, 1) := by decide +kernel
theorem dX11_lays_105 : decode cX11_lays 105 = .ok (.getfield 253, 3) := by decide +kernel
theorem dX11_lays_108 : decode cX11_lays 108 = .ok (.if_icmp .ge 234, 3) := by decide +kernel
theorem dX11_lays_111 : decode cX11_lays 111 = .ok (.aload_n 0, 1) := by decide +kernel
theorem dX11_lays_112 : decode cX11_lays 112 = .ok (.iload 6, 2) := by decide +kernel
theorem dX11_lays_114 : decode cX11_lays 114 = .ok (.invokevirtual 297, 3) := by decide +kernel
theorem dX11_lays_117 : decode cX11_lays 117 = .ok (.ifCond .ne 6, 3) := by decide +kernel
theorem dX11_lays_120 : decode cX11_lays 120 = .ok (.goto 216, 3) := by decide +kernel
theorem dX11_lays_123 : decode cX11_lays 123 = .ok (.aload_n 0, 1) := by decide +kernel
theorem dX11_lays_124 : decode cX11_lays 124 = .ok (.iload 6, 2) := by decide +kernel
theorem dX11_lays_126 : decode cX11_lays 126 = .ok (.invokevirtual 300, 3) := by decide +kernel
theorem dX11_lays_129 : decode cX11_lays 129 = .ok (.aload_n 0, 1) := by decide +kernel
theorem dX11_lays_130 : decode cX11_lays 130 = .ok (.getfield 65, 3) := by decide +kernel
theorem dX11_lays_133 : decode cX11_lays 133 = .ok (.iconst 0, 1) := by decide +kernel
theorem dX11_lays_134 : decode cX11_lays 134 = .ok (.laload, 1) := by decide +kernel
theorem dX11_lays_135 : decode cX11_lays 135 = .ok (.lconst 0, 1) := by decide +kernel
theorem dX11_lays_136 : decode cX11_lays 136 = .ok (.lcmp, 1) := by decide +kernel
theorem dX11_lays_137 : decode cX11_lays 137 = .ok (.ifCond .ne 39, 3) := by decide +kernel
theorem dX11_lays_140 : decode cX11_lays 140 = .ok (.aload_n 0, 1) := by decide +kernel
theorem dX11_lays_141 : decode cX11_lays 141 = .ok (.getfield 65, 3) := by decide +kernel
theorem dX11_lays_144 : decode cX11_lays 144 = .ok (.iconst 1, 1) := by decide +kernel
theorem dX11_lays_145 : decode cX11_lays 145 = .ok (.laload, 1) := by decide +kernel
theorem dX11_lays_146 : decode cX11_lays 146 = .ok (.lconst 0, 1) := by decide +kernel
theorem dX11_lays_147 : decode cX11_lays 147 = .ok (.lcmp, 1) := by decide +kernel
theorem dX11_lays_148 : decode cX11_lays 148 = .ok (.ifCond .ne 28, 3) := by decide +kernel
theorem dX11_lays_151 : decode cX11_lays 151 = .ok (.aload_n 0, 1) := by decide +kernel
theorem dX11_lays_152 : decode cX11_lays 152 = .ok (.getfield 65, 3) := by decide +kernel
theorem dX11_lays_155 : decode cX11_lays 155 = .ok (.iconst 2, 1) := by decide +kernel
theorem dX11_lays_156 : decode cX11_lays 156 = .ok (.laload, 1) := by decide +kernel
theorem dX11_lays_157 : decode cX11_lays 157 = .ok (.lconst 0, 1) := by decide +kernel
theorem dX11_lays_158 : decode cX11_lays 158 = .ok (.lcmp, 1) := by decide +kernel
theorem dX11_lays_159 : decode cX11_lays 159 = .ok (.ifCond .ne 17, 3) := by decide +kernel
theorem dX11_lays_162 : decode cX11_lays 162 = .ok (.aload_n 0, 1) := by decide +kernel
theorem dX11_lays_163 : decode cX11_lays 163 = .ok (.getfield 65, 3) := by decide +kernel
theorem dX11_lays_166 : decode cX11_lays 166 = .ok (.iconst 3, 1) := by decide +kernel
theorem dX11_lays_167 : decode cX11_lays 167 = .ok (.laload, 1) := by decide +kernel
theorem dX11_lays_168 : decode cX11_lays 168 = .ok (.lconst 0, 1) := by decide +kernel
theorem dX11_lays_169 : decode cX11_lays 169 = .ok (.lcmp, 1) := by decide +kernel
theorem dX11_lays_170 : decode cX11_lays 170 = .ok (.ifCond .ne 6, 3) := by decide +kernel
theorem dX11_lays_173 : decode cX11_lays 173 = .ok (.goto 163, 3) := by decide +kernel
theorem dX11_lays_176 : decode cX11_lays 176 = .ok (.aload_n 0, 1) := by decide +kernel
theorem dX11_lays_177 : decode cX11_lays 177 = .ok (.iload 6, 2) := by decide +kernel
theorem dX11_lays_179 : decode cX11_lays 179 = .ok (.invokevirtual 290, 3) := by decide +kernel
theorem dX11_lays_182 : decode cX11_lays 182 = .ok (.lstore 7, 2) := by decide +kernel
theorem dX11_lays_184 : decode cX11_lays 184 = .ok (.iconst 0, 1) := by decide +kernel
theorem dX11_lays_185 : decode cX11_lays 185 = .ok (.istore 9, 2) := by decide +kernel
theorem dX11_lays_187 : decode cX11_lays 187 = .ok (.iconst 4, 1) := by decide +kernel
theorem dX11_lays_188 : decode cX11_lays 188 = .ok (.istore 10, 2) := by decide +kernel
theorem dX11_lays_190 : decode cX11_lays 190 = .ok (.iload 10, 2) := by decide +kernel
theorem dX11_lays_192 : decode cX11_lays 192 = .ok (.ifCond .lt 24, 3) := by decide +kernel
theorem dX11_lays_195 : decode cX11_lays 195 = .ok (.iconst 4, 1) := by decide +kernel
theorem dX11_lays_196 : decode cX11_lays 196 = .ok (.iload 9, 2) := by decide +kernel
theorem dX11_lays_198 : decode cX11_lays 198 = .ok (.imul, 1) := by decide +kernel
theorem dX11_lays_199 : decode cX11_lays 199 = .ok (.aload_n 0, 1) := by decide +kernel
theorem dX11_lays_200 : decode cX11_lays 200 = .ok (.iload 6, 2) := by decide +kernel
theorem dX11_lays_202 : decode cX11_lays 202 = .ok (.iload 10, 2) := by decide +kernel
theorem dX11_lays_204 : decode cX11_lays 204 = .ok (.invokevirtual 256, 3) := by decide +kernel
theorem dX11_lays_207 : decode cX11_lays 207 = .ok (.iadd, 1) := by decide +kernel
theorem dX11_lays_208 : decode cX11_lays 208 = .ok (.istore 9, 2) := by decide +kernel
theorem dX11_lays_210 : decode cX11_lays 210 = .ok (.iinc 10 (-1), 3) := by decide +kernel
theorem dX11_lays_213 : decode cX11_lays 213 = .ok (.goto (-23), 3) := by decide +kernel
theorem dX11_lays_216 : decode cX11_lays 216 = .ok (.aload_n 0, 1) := by decide +kernel
theorem dX11_lays_217 : decode cX11_lays 217 = .ok (.getfield 59, 3) := by decide +kernel
theorem dX11_lays_220 : decode cX11_lays 220 = .ok (.iload 9, 2) := by decide +kernel
theorem dX11_lays_222 : decode cX11_lays 222 = .ok (.dup2, 1) := by decide +kernel
theorem dX11_lays_223 : decode cX11_lays 223 = .ok (.laload, 1) := by decide +kernel
theorem dX11_lays_224 : decode cX11_lays 224 = .ok (.lload 7, 2) := by decide +kernel
theorem dX11_lays_226 : decode cX11_lays 226 = .ok (.aload_n 0, 1) := by decide +kernel
theorem dX11_lays_227 : decode cX11_lays 227 = .ok (.getfield 65, 3) := by decide +kernel
theorem dX11_lays_230 : decode cX11_lays 230 = .ok (.iconst 0, 1) := by decide +kernel
theorem dX11_lays_231 : decode cX11_lays 231 = .ok (.laload, 1) := by decide +kernel
theorem dX11_lays_232 : decode cX11_lays 232 = .ok (.aload_n 0, 1) := by decide +kernel
theorem dX11_lays_233 : decode cX11_lays 233 = .ok (.getfield 65, 3) := by decide +kernel
theorem dX11_lays_236 : decode cX11_lays 236 = .ok (.iconst 0, 1) := by decide +kernel
theorem dX11_lays_237 : decode cX11_lays 237 = .ok (.laload, 1) := by decide +kernel
theorem dX11_lays_238 : decode cX11_lays 238 = .ok (.lmul, 1) := by decide +kernel
theorem dX11_lays_239 : decode cX11_lays 239 = .ok (.ldc2_w 247, 3) := by decide +kernel
theorem dX11_lays_242 : decode cX11_lays 242 = .ok (.aload_n 0, 1) := by decide +kernel
theorem dX11_lays_243 : decode cX11_lays 243 = .ok (.getfield 65, 3) := by decide +kernel
theorem dX11_lays_246 : decode cX11_lays 246 = .ok (.iconst 1, 1) := by decide +kernel
theorem dX11_lays_247 : decode cX11_lays 247 = .ok (.laload, 1) := by decide +kernel
theorem dX11_lays_248 : decode cX11_lays 248 = .ok (.lmul, 1) := by decide +kernel
theorem dX11_lays_249 : decode cX11_lays 249 = .ok (.aload_n 0, 1) := by decide +kernel
theorem dX11_lays_250 : decode cX11_lays 250 = .ok (.getfield 65, 3) := by decide +kernel
theorem dX11_lays_253 : decode cX11_lays 253 = .ok (.iconst 1, 1) := by decide +kernel
theorem dX11_lays_254 : decode cX11_lays 254 = .ok (.laload, 1) := by decide +kernel
theorem dX11_lays_255 : decode cX11_lays 255 = .ok (.lmul, 1) := by decide +kernel
theorem dX11_lays_256 : decode cX11_lays 256 = .ok (.ladd, 1) := by decide +kernel
theorem dX11_lays_257 : decode cX11_lays 257 = .ok (.aload_n 0, 1) := by decide +kernel
theorem dX11_lays_258 : decode cX11_lays 258 = .ok (.getfield 65, 3) := by decide +kernel
theorem dX11_lays_261 : decode cX11_lays 261 = .ok (.iconst 2, 1) := by decide +kernel
theorem dX11_lays_262 : decode cX11_lays 262 = .ok (.laload, 1) := by decide +kernel
theorem dX11_lays_263 : decode cX11_lays 263 = .ok (.aload_n 0, 1) := by decide +kernel
theorem dX11_lays_264 : decode cX11_lays 264 = .ok (.getfield 65, 3) := by decide +kernel
theorem dX11_lays_267 : decode cX11_lays 267 = .ok (.iconst 2, 1) := by decide +kernel
theorem dX11_lays_268 : decode cX11_lays 268 = .ok (.laload, 1) := by decide +kernel
theorem dX11_lays_269 : decode cX11_lays 269 = .ok (.lmul, 1) := by decide +kernel
theorem dX11_lays_270 : decode cX11_lays 270 = .ok (.ladd, 1) := by decide +kernel
theorem dX11_lays_271 : decode cX11_lays 271 = .ok (.ldc2_w 247, 3) := by decide +kernel
theorem dX11_lays_274 : decode cX11_lays 274 = .ok (.aload_n 0, 1) := by decide +kernel
theorem dX11_lays_275 : decode cX11_lays 275 = .ok (.getfield 65, 3) := by decide +kernel
theorem dX11_lays_278 : decode cX11_lays 278 = .ok (.iconst 3, 1) := by decide +kernel
theorem dX11_lays_279 : decode cX11_lays 279 = .ok (.laload, 1) := by decide +kernel
theorem dX11_lays_280 : decode cX11_lays 280 = .ok (.lmul, 1) := by decide +kernel
theorem dX11_lays_281 : decode cX11_lays 281 = .ok (.aload_n 0, 1) := by decide +kernel
theorem dX11_lays_282 : decode cX11_lays 282 = .ok (.getfield 65, 3) := by decide +kernel
theorem dX11_lays_285 : decode cX11_lays 285 = .ok (.iconst 3, 1) := by decide +kernel
theorem dX11_lays_286 : decode cX11_lays 286 = .ok (.laload, 1) := by decide +kernel
theorem dX11_lays_287 : decode cX11_lays 287 = .ok (.lmul, 1) := by decide +kernel
theorem dX11_lays_288 : decode cX11_lays 288 = .ok (.ladd, 1) := by decide +kernel
theorem dX11_lays_289 : decode cX11_lays 289 = .ok (.lmul, 1) := by decide +kernel
theorem dX11_lays_290 : decode cX11_lays 290 = .ok (.ladd, 1) := by decide +kernel
theorem dX11_lays_291 : decode cX11_lays 291 = .ok (.lastore, 1) := by decide +kernel
theorem dX11_lays_292 : decode cX11_lays 292 = .ok (.aload_n 0, 1) := by decide +kernel
theorem dX11_lays_293 : decode cX11_lays 293 = .ok (.getfield 62, 3) := by decide +kernel
theorem dX11_lays_296 : decode cX11_lays 296 = .ok (.iload 9, 2) := by decide +kernel
theorem dX11_lays_298 : decode cX11_lays 298 = .ok (.dup2, 1) := by decide +kernel
theorem dX11_lays_299 : decode cX11_lays 299 = .ok (.laload, 1) := by decide +kernel
theorem dX11_lays_300 : decode cX11_lays 300 = .ok (.lload 7, 2) := by decide +kernel
theorem dX11_lays_302 : decode cX11_lays 302 = .ok (.ldc2_w 247, 3) := by decide +kernel
theorem dX11_lays_305 : decode cX11_lays 305 = .ok (.lmul, 1) := by decide +kernel
theorem dX11_lays_306 : decode cX11_lays 306 = .ok (.aload_n 0, 1) := by decide +kernel
theorem dX11_lays_307 : decode cX11_lays 307 = .ok (.getfield 65, 3) := by decide +kernel
theorem dX11_lays_310 : decode cX11_lays 310 = .ok (.iconst 0, 1) := by decide +kernel
theorem dX11_lays_311 : decode cX11_lays 311 = .ok (.laload, 1) := by decide +kernel
theorem dX11_lays_312 : decode cX11_lays 312 = .ok (.aload_n 0, 1) := by decide +kernel
theorem dX11_lays_313 : decode cX11_lays 313 = .ok (.getfield 65, 3) := by decide +kernel
theorem dX11_lays_316 : decode cX11_lays 316 = .ok (.iconst 1, 1) := by decide +kernel
theorem dX11_lays_317 : decode cX11_lays 317 = .ok (.laload, 1) := by decide +kernel
theorem dX11_lays_318 : decode cX11_lays 318 = .ok (.lmul, 1) := by decide +kernel
theorem dX11_lays_319 : decode cX11_lays 319 = .ok (.aload_n 0, 1) := by decide +kernel
theorem dX11_lays_320 : decode cX11_lays 320 = .ok (.getfield 65, 3) := by decide +kernel
theorem dX11_lays_323 : decode cX11_lays 323 = .ok (.iconst 2, 1) := by decide +kernel
theorem dX11_lays_324 : decode cX11_lays 324 = .ok (.laload, 1) := by decide +kernel
theorem dX11_lays_325 : decode cX11_lays 325 = .ok (.aload_n 0, 1) := by decide +kernel
theorem dX11_lays_326 : decode cX11_lays 326 = .ok (.getfield 65, 3) := by decide +kernel
theorem dX11_lays_329 : decode cX11_lays 329 = .ok (.iconst 3, 1) := by decide +kernel
theorem dX11_lays_330 : decode cX11_lays 330 = .ok (.laload, 1) := by decide +kernel
theorem dX11_lays_331 : decode cX11_lays 331 = .ok (.lmul, 1) := by decide +kernel
theorem dX11_lays_332 : decode cX11_lays 332 = .ok (.ladd, 1) := by decide +kernel
theorem dX11_lays_333 : decode cX11_lays 333 = .ok (.lmul, 1) := by decide +kernel
theorem dX11_lays_334 : decode cX11_lays 334 = .ok (.ladd, 1) := by decide +kernel
theorem dX11_lays_335 : decode cX11_lays 335 = .ok (.lastore, 1) := by decide +kernel
theorem dX11_lays_336 : decode cX11_lays 336 = .ok (.iinc 6 1, 3) := by decide +kernel
theorem dX11_lays_339 : decode cX11_lays 339 = .ok (.goto (-237), 3) := by decide +kernel
theorem dX11_lays_342 : decode cX11_lays 342 = .ok (.return_, 1) := by decide +kernel
theorem dX11_gathers_0 : decode cX11_gathers 0 = .ok (.aload_n 0, 1) := by decide +kernel
theorem dX11_gathers_1 : decode cX11_gathers 1 = .ok (.getfield 225, 3) := by decide +kernel
theorem dX11_gathers_4 : decode cX11_gathers 4 = .ok (.iconst 3, 1) := by decide +kernel
theorem dX11_gathers_5 : decode cX11_gathers 5 = .ok (.if_icmp .ge 90, 3) := by decide +kernel
theorem dX11_gathers_8 : decode cX11_gathers 8 = .ok (.iconst 0, 1) := by decide +kernel
theorem dX11_gathers_9 : decode cX11_gathers 9 = .ok (.istore_n 2, 1) := by decide +kernel
theorem dX11_gathers_10 : decode cX11_gathers 10 = .ok (.iload_n 2, 1) := by decide +kernel
theorem dX11_gathers_11 : decode cX11_gathers 11 = .ok (.iconst 4, 1) := by decide +kernel
theorem dX11_gathers_12 : decode cX11_gathers 12 = .ok (.if_icmp .ge 25, 3) := by decide +kernel
theorem dX11_gathers_15 : decode cX11_gathers 15 = .ok (.aload_n 0, 1) := by decide +kernel
theorem dX11_gathers_16 : decode cX11_gathers 16 = .ok (.getfield 65, 3) := by decide +kernel
theorem dX11_gathers_19 : decode cX11_gathers 19 = .ok (.iload_n 2, 1) := by decide +kernel
theorem dX11_gathers_20 : decode cX11_gathers 20 = .ok (.aload_n 0, 1) := by decide +kernel
theorem dX11_gathers_21 : decode cX11_gathers 21 = .ok (.getfield 43, 3) := by decide +kernel
theorem dX11_gathers_24 : decode cX11_gathers 24 = .ok (.iconst 4, 1) := by decide +kernel
theorem dX11_gathers_25 : decode cX11_gathers 25 = .ok (.iload_n 1, 1) := by decide +kernel
theorem dX11_gathers_26 : decode cX11_gathers 26 = .ok (.imul, 1) := by decide +kernel
theorem dX11_gathers_27 : decode cX11_gathers 27 = .ok (.iload_n 2, 1) := by decide +kernel
theorem dX11_gathers_28 : decode cX11_gathers 28 = .ok (.iadd, 1) := by decide +kernel
theorem dX11_gathers_29 : decode cX11_gathers 29 = .ok (.laload, 1) := by decide +kernel
theorem dX11_gathers_30 : decode cX11_gathers 30 = .ok (.lastore, 1) := by decide +kernel
theorem dX11_gathers_31 : decode cX11_gathers 31 = .ok (.iinc 2 1, 3) := by decide +kernel
theorem dX11_gathers_34 : decode cX11_gathers 34 = .ok (.goto (-24), 3) := by decide +kernel
theorem dX11_gathers_37 : decode cX11_gathers 37 = .ok (.aload_n 0, 1) := by decide +kernel
theorem dX11_gathers_38 : decode cX11_gathers 38 = .ok (.getfield 225, 3) := by decide +kernel
theorem dX11_gathers_41 : decode cX11_gathers 41 = .ok (.iconst 2, 1) := by decide +kernel
theorem dX11_gathers_42 : decode cX11_gathers 42 = .ok (.if_icmp .ne 52, 3) := by decide +kernel
theorem dX11_gathers_45 : decode cX11_gathers 45 = .ok (.aload_n 0, 1) := by decide +kernel
theorem dX11_gathers_46 : decode cX11_gathers 46 = .ok (.iload_n 1, 1) := by decide +kernel
theorem dX11_gathers_47 : decode cX11_gathers 47 = .ok (.iconst 0, 1) := by decide +kernel
theorem dX11_gathers_48 : decode cX11_gathers 48 = .ok (.iconst 1, 1) := by decide +kernel
theorem dX11_gathers_49 : decode cX11_gathers 49 = .ok (.invokevirtual 303, 3) := by decide +kernel
theorem dX11_gathers_52 : decode cX11_gathers 52 = .ok (.iload_n 1, 1) := by decide +kernel
theorem dX11_gathers_53 : decode cX11_gathers 53 = .ok (.if_icmp .eq 41, 3) := by decide +kernel
theorem dX11_gathers_56 : decode cX11_gathers 56 = .ok (.iconst 0, 1) := by decide +kernel
theorem dX11_gathers_57 : decode cX11_gathers 57 = .ok (.istore_n 2, 1) := by decide +kernel
theorem dX11_gathers_58 : decode cX11_gathers 58 = .ok (.iload_n 2, 1) := by decide +kernel
theorem dX11_gathers_59 : decode cX11_gathers 59 = .ok (.iconst 4, 1) := by decide +kernel
theorem dX11_gathers_60 : decode cX11_gathers 60 = .ok (.if_icmp .ge 34, 3) := by decide +kernel
theorem dX11_gathers_63 : decode cX11_gathers 63 = .ok (.aload_n 0, 1) := by decide +kernel
theorem dX11_gathers_64 : decode cX11_gathers 64 = .ok (.getfield 65, 3) := by decide +kernel
theorem dX11_gathers_67 : decode cX11_gathers 67 = .ok (.iload_n 2, 1) := by decide +kernel
theorem dX11_gathers_68 : decode cX11_gathers 68 = .ok (.dup2, 1) := by decide +kernel
theorem dX11_gathers_69 : decode cX11_gathers 69 = .ok (.laload, 1) := by decide +kernel
theorem dX11_gathers_70 : decode cX11_gathers 70 = .ok (.aload_n 0, 1) := by decide +kernel
theorem dX11_gathers_71 : decode cX11_gathers 71 = .ok (.getfield 43, 3) := by decide +kernel
theorem dX11_gathers_74 : decode cX11_gathers 74 = .ok (.iconst 4, 1) := by decide +kernel
theorem dX11_gathers_75 : decode cX11_gathers 75 = .ok (.aload_n 0, 1) := by decide +kernel
theorem dX11_gathers_76 : decode cX11_gathers 76 = .ok (.iload_n 1, 1) := by decide +kernel
theorem dX11_gathers_77 : decode cX11_gathers 77 = .ok (.iconst 0, 1) := by decide +kernel
theorem dX11_gathers_78 : decode cX11_gathers 78 = .ok (.iconst 1, 1) := by decide +kernel
theorem dX11_gathers_79 : decode cX11_gathers 79 = .ok (.invokevirtual 303, 3) := by decide +kernel
theorem dX11_gathers_82 : decode cX11_gathers 82 = .ok (.imul, 1) := by decide +kernel
theorem dX11_gathers_83 : decode cX11_gathers 83 = .ok (.iload_n 2, 1) := by decide +kernel
theorem dX11_gathers_84 : decode cX11_gathers 84 = .ok (.iadd, 1) := by decide +kernel
theorem dX11_gathers_85 : decode cX11_gathers 85 = .ok (.laload, 1) := by decide +kernel
theorem dX11_gathers_86 : decode cX11_gathers 86 = .ok (.ladd, 1) := by decide +kernel
theorem dX11_gathers_87 : decode cX11_gathers 87 = .ok (.lastore, 1) := by decide +kernel
theorem dX11_gathers_88 : decode cX11_gathers 88 = .ok (.iinc 2 1, 3) := by decide +kernel
theorem dX11_gathers_91 : decode cX11_gathers 91 = .ok (.goto (-33), 3) := by decide +kernel
theorem dX11_gathers_94 : decode cX11_gathers 94 = .ok (.return_, 1) := by decide +kernel
theorem dX11_gathers_95 : decode cX11_gathers 95 = .ok (.aload_n 0, 1) := by decide +kernel
theorem dX11_gathers_96 : decode cX11_gathers 96 = .ok (.getfield 68, 3) := by decide +kernel
theorem dX11_gathers_99 : decode cX11_gathers 99 = .ok (.iconst 0, 1) := by decide +kernel
theorem dX11_gathers_100 : decode cX11_gathers 100 = .ok (.iload_n 1, 1) := by decide +kernel
theorem dX11_gathers_101 : decode cX11_gathers 101 = .ok (.iastore, 1) := by decide +kernel
theorem dX11_gathers_102 : decode cX11_gathers 102 = .ok (.aload_n 0, 1) := by decide +kernel
theorem dX11_gathers_103 : decode cX11_gathers 103 = .ok (.getfield 68, 3) := by decide +kernel
theorem dX11_gathers_106 : decode cX11_gathers 106 = .ok (.iconst 1, 1) := by decide +kernel
theorem dX11_gathers_107 : decode cX11_gathers 107 = .ok (.aload_n 0, 1) := by decide +kernel
theorem dX11_gathers_108 : decode cX11_gathers 108 = .ok (.iload_n 1, 1) := by decide +kernel
theorem dX11_gathers_109 : decode cX11_gathers 109 = .ok (.iconst 0, 1) := by decide +kernel
theorem dX11_gathers_110 : decode cX11_gathers 110 = .ok (.iconst 1, 1) := by decide +kernel
theorem dX11_gathers_111 : decode cX11_gathers 111 = .ok (.invokevirtual 303, 3) := by decide +kernel
theorem dX11_gathers_114 : decode cX11_gathers 114 = .ok (.iastore, 1) := by decide +kernel
theorem dX11_gathers_115 : decode cX11_gathers 115 = .ok (.aload_n 0, 1) := by decide +kernel
theorem dX11_gathers_116 : decode cX11_gathers 116 = .ok (.getfield 68, 3) := by decide +kernel
theorem dX11_gathers_119 : decode cX11_gathers 119 = .ok (.iconst 2, 1) := by decide +kernel
theorem dX11_gathers_120 : decode cX11_gathers 120 = .ok (.aload_n 0, 1) := by decide +kernel
theorem dX11_gathers_121 : decode cX11_gathers 121 = .ok (.iload_n 1, 1) := by decide +kernel
theorem dX11_gathers_122 : decode cX11_gathers 122 = .ok (.iconst 0, 1) := by decide +kernel
theorem dX11_gathers_123 : decode cX11_gathers 123 = .ok (.iconst 2, 1) := by decide +kernel
theorem dX11_gathers_124 : decode cX11_gathers 124 = .ok (.invokevirtual 303, 3) := by decide +kernel
theorem dX11_gathers_127 : decode cX11_gathers 127 = .ok (.iastore, 1) := by decide +kernel
theorem dX11_gathers_128 : decode cX11_gathers 128 = .ok (.aload_n 0, 1) := by decide +kernel
theorem dX11_gathers_129 : decode cX11_gathers 129 = .ok (.getfield 68, 3) := by decide +kernel
theorem dX11_gathers_132 : decode cX11_gathers 132 = .ok (.iconst 3, 1) := by decide +kernel
theorem dX11_gathers_133 : decode cX11_gathers 133 = .ok (.aload_n 0, 1) := by decide +kernel
theorem dX11_gathers_134 : decode cX11_gathers 134 = .ok (.iload_n 1, 1) := by decide +kernel
theorem dX11_gathers_135 : decode cX11_gathers 135 = .ok (.iconst 1, 1) := by decide +kernel
theorem dX11_gathers_136 : decode cX11_gathers 136 = .ok (.iconst 2, 1) := by decide +kernel
theorem dX11_gathers_137 : decode cX11_gathers 137 = .ok (.invokevirtual 303, 3) := by decide +kernel
theorem dX11_gathers_140 : decode cX11_gathers 140 = .ok (.iastore, 1) := by decide +kernel
theorem dX11_gathers_141 : decode cX11_gathers 141 = .ok (.aload_n 0, 1) := by decide +kernel
theorem dX11_gathers_142 : decode cX11_gathers 142 = .ok (.getfield 68, 3) := by decide +kernel
theorem dX11_gathers_145 : decode cX11_gathers 145 = .ok (.iconst 4, 1) := by decide +kernel
theorem dX11_gathers_146 : decode cX11_gathers 146 = .ok (.aload_n 0, 1) := by decide +kernel
theorem dX11_gathers_147 : decode cX11_gathers 147 = .ok (.aload_n 0, 1) := by decide +kernel
theorem dX11_gathers_148 : decode cX11_gathers 148 = .ok (.getfield 68, 3) := by decide +kernel
theorem dX11_gathers_151 : decode cX11_gathers 151 = .ok (.iconst 1, 1) := by decide +kernel
theorem dX11_gathers_152 : decode cX11_gathers 152 = .ok (.iaload, 1) := by decide +kernel
theorem dX11_gathers_153 : decode cX11_gathers 153 = .ok (.iconst 0, 1) := by decide +kernel
theorem dX11_gathers_154 : decode cX11_gathers 154 = .ok (.iconst 2, 1) := by decide +kernel
theorem dX11_gathers_155 : decode cX11_gathers 155 = .ok (.invokevirtual 303, 3) := by decide +kernel
theorem dX11_gathers_158 : decode cX11_gathers 158 = .ok (.iastore, 1) := by decide +kernel
theorem dX11_gathers_159 : decode cX11_gathers 159 = .ok (.aload_n 0, 1) := by decide +kernel
theorem dX11_gathers_160 : decode cX11_gathers 160 = .ok (.getfield 68, 3) := by decide +kernel
theorem dX11_gathers_163 : decode cX11_gathers 163 = .ok (.iconst 5, 1) := by decide +kernel
theorem dX11_gathers_164 : decode cX11_gathers 164 = .ok (.aload_n 0, 1) := by decide +kernel
theorem dX11_gathers_165 : decode cX11_gathers 165 = .ok (.aload_n 0, 1) := by decide +kernel
theorem dX11_gathers_166 : decode cX11_gathers 166 = .ok (.getfield 68, 3) := by decide +kernel
theorem dX11_gathers_169 : decode cX11_gathers 169 = .ok (.iconst 1, 1) := by decide +kernel
theorem dX11_gathers_170 : decode cX11_gathers 170 = .ok (.iaload, 1) := by decide +kernel
theorem dX11_gathers_171 : decode cX11_gathers 171 = .ok (.iconst 1, 1) := by decide +kernel
theorem dX11_gathers_172 : decode cX11_gathers 172 = .ok (.iconst 2, 1) := by decide +kernel
theorem dX11_gathers_173 : decode cX11_gathers 173 = .ok (.invokevirtual 303, 3) := by decide +kernel
theorem dX11_gathers_176 : decode cX11_gathers 176 = .ok (.iastore, 1) := by decide +kernel
theorem dX11_gathers_177 : decode cX11_gathers 177 = .ok (.iconst 0, 1) := by decide +kernel
theorem dX11_gathers_178 : decode cX11_gathers 178 = .ok (.istore_n 2, 1) := by decide +kernel
theorem dX11_gathers_179 : decode cX11_gathers 179 = .ok (.iload_n 2, 1) := by decide +kernel
theorem dX11_gathers_180 : decode cX11_gathers 180 = .ok (.iconst 4, 1) := by decide +kernel
theorem dX11_gathers_181 : decode cX11_gathers 181 = .ok (.if_icmp .ge 16, 3) := by decide +kernel
theorem dX11_gathers_184 : decode cX11_gathers 184 = .ok (.aload_n 0, 1) := by decide +kernel
theorem dX11_gathers_185 : decode cX11_gathers 185 = .ok (.getfield 65, 3) := by decide +kernel
theorem dX11_gathers_188 : decode cX11_gathers 188 = .ok (.iload_n 2, 1) := by decide +kernel
theorem dX11_gathers_189 : decode cX11_gathers 189 = .ok (.lconst 0, 1) := by decide +kernel
theorem dX11_gathers_190 : decode cX11_gathers 190 = .ok (.lastore, 1) := by decide +kernel
theorem dX11_gathers_191 : decode cX11_gathers 191 = .ok (.iinc 2 1, 3) := by decide +kernel
theorem dX11_gathers_194 : decode cX11_gathers 194 = .ok (.goto (-15), 3) := by decide +kernel
theorem dX11_gathers_197 : decode cX11_gathers 197 = .ok (.iconst 0, 1) := by decide +kernel
theorem dX11_gathers_198 : decode cX11_gathers 198 = .ok (.istore_n 2, 1) := by decide +kernel
theorem dX11_gathers_199 : decode cX11_gathers 199 = .ok (.iload_n 2, 1) := by decide +kernel
theorem dX11_gathers_200 : decode cX11_gathers 200 = .ok (.bipush 6, 2) := by decide +kernel
theorem dX11_gathers_202 : decode cX11_gathers 202 = .ok (.if_icmp .ge 97, 3) := by decide +kernel
theorem dX11_gathers_205 : decode cX11_gathers 205 = .ok (.iconst 1, 1) := by decide +kernel
theorem dX11_gathers_206 : decode cX11_gathers 206 = .ok (.istore_n 3, 1) := by decide +kernel
theorem dX11_gathers_207 : decode cX11_gathers 207 = .ok (.iconst 0, 1) := by decide +kernel
theorem dX11_gathers_208 : decode cX11_gathers 208 = .ok (.istore 4, 2) := by decide +kernel
theorem dX11_gathers_210 : decode cX11_gathers 210 = .ok (.iload 4, 2) := by decide +kernel
theorem dX11_gathers_212 : decode cX11_gathers 212 = .ok (.iload_n 2, 1) := by decide +kernel
theorem dX11_gathers_213 : decode cX11_gathers 213 = .ok (.if_icmp .ge 35, 3) := by decide +kernel
theorem dX11_gathers_216 : decode cX11_gathers 216 = .ok (.iload_n 3, 1) := by decide +kernel
theorem dX11_gathers_217 : decode cX11_gathers 217 = .ok (.ifCond .eq 23, 3) := by decide +kernel
theorem dX11_gathers_220 : decode cX11_gathers 220 = .ok (.aload_n 0, 1) := by decide +kernel
theorem dX11_gathers_221 : decode cX11_gathers 221 = .ok (.getfield 68, 3) := by decide +kernel
theorem dX11_gathers_224 : decode cX11_gathers 224 = .ok (.iload 4, 2) := by decide +kernel
theorem dX11_gathers_226 : decode cX11_gathers 226 = .ok (.iaload, 1) := by decide +kernel
theorem dX11_gathers_227 : decode cX11_gathers 227 = .ok (.aload_n 0, 1) := by decide +kernel
theorem dX11_gathers_228 : decode cX11_gathers 228 = .ok (.getfield 68, 3) := by decide +kernel
theorem dX11_gathers_231 : decode cX11_gathers 231 = .ok (.iload_n 2, 1) := by decide +kernel
theorem dX11_gathers_232 : decode cX11_gathers 232 = .ok (.iaload, 1) := by decide +kernel
theorem dX11_gathers_233 : decode cX11_gathers 233 = .ok (.if_icmp .eq 7, 3) := by decide +kernel
theorem dX11_gathers_236 : decode cX11_gathers 236 = .ok (.iconst 1, 1) := by decide +kernel
theorem dX11_gathers_237 : decode cX11_gathers 237 = .ok (.goto 4, 3) := by decide +kernel
theorem dX11_gathers_240 : decode cX11_gathers 240 = .ok (.iconst 0, 1) := by decide +kernel
theorem dX11_gathers_241 : decode cX11_gathers 241 = .ok (.istore_n 3, 1) := by decide +kernel
theorem dX11_gathers_242 : decode cX11_gathers 242 = .ok (.iinc 4 1, 3) := by decide +kernel
theorem dX11_gathers_245 : decode cX11_gathers 245 = .ok (.goto (-35), 3) := by decide +kernel
theorem dX11_gathers_248 : decode cX11_gathers 248 = .ok (.iload_n 3, 1) := by decide +kernel
theorem dX11_gathers_249 : decode cX11_gathers 249 = .ok (.ifCond .eq 44, 3) := by decide +kernel
theorem dX11_gathers_252 : decode cX11_gathers 252 = .ok (.iconst 0, 1) := by decide +kernel
theorem dX11_gathers_253 : decode cX11_gathers 253 = .ok (.istore 4, 2) := by decide +kernel
theorem dX11_gathers_255 : decode cX11_gathers 255 = .ok (.iload 4, 2) := by decide +kernel
theorem dX11_gathers_257 : decode cX11_gathers 257 = .ok (.iconst 4, 1) := by decide +kernel
theorem dX11_gathers_258 : decode cX11_gathers 258 = .ok (.if_icmp .ge 35, 3) := by decide +kernel
theorem dX11_gathers_261 : decode cX11_gathers 261 = .ok (.aload_n 0, 1) := by decide +kernel
theorem dX11_gathers_262 : decode cX11_gathers 262 = .ok (.getfield 65, 3) := by decide +kernel
theorem dX11_gathers_265 : decode cX11_gathers 265 = .ok (.iload 4, 2) := by decide +kernel
theorem dX11_gathers_267 : decode cX11_gathers 267 = .ok (.dup2, 1) := by decide +kernel
theorem dX11_gathers_268 : decode cX11_gathers 268 = .ok (.laload, 1) := by decide +kernel
theorem dX11_gathers_269 : decode cX11_gathers 269 = .ok (.aload_n 0, 1) := by decide +kernel
theorem dX11_gathers_270 : decode cX11_gathers 270 = .ok (.getfield 43, 3) := by decide +kernel
theorem dX11_gathers_273 : decode cX11_gathers 273 = .ok (.iconst 4, 1) := by decide +kernel
theorem dX11_gathers_274 : decode cX11_gathers 274 = .ok (.aload_n 0, 1) := by decide +kernel
theorem dX11_gathers_275 : decode cX11_gathers 275 = .ok (.getfield 68, 3) := by decide +kernel
theorem dX11_gathers_278 : decode cX11_gathers 278 = .ok (.iload_n 2, 1) := by decide +kernel
theorem dX11_gathers_279 : decode cX11_gathers 279 = .ok (.iaload, 1) := by decide +kernel
theorem dX11_gathers_280 : decode cX11_gathers 280 = .ok (.imul, 1) := by decide +kernel
theorem dX11_gathers_281 : decode cX11_gathers 281 = .ok (.iload 4, 2) := by decide +kernel
theorem dX11_gathers_283 : decode cX11_gathers 283 = .ok (.iadd, 1) := by decide +kernel
theorem dX11_gathers_284 : decode cX11_gathers 284 = .ok (.laload, 1) := by decide +kernel
theorem dX11_gathers_285 : decode cX11_gathers 285 = .ok (.ladd, 1) := by decide +kernel
theorem dX11_gathers_286 : decode cX11_gathers 286 = .ok (.lastore, 1) := by decide +kernel
theorem dX11_gathers_287 : decode cX11_gathers 287 = .ok (.iinc 4 1, 3) := by decide +kernel
theorem dX11_gathers_290 : decode cX11_gathers 290 = .ok (.goto (-35), 3) := by decide +kernel
theorem dX11_gathers_293 : decode cX11_gathers 293 = .ok (.iinc 2 1, 3) := by decide +kernel
theorem dX11_gathers_296 : decode cX11_gathers 296 = .ok (.goto (-97), 3) := by decide +kernel
theorem dX11_gathers_299 : decode cX11_gathers 299 = .ok (.return_, 1) := by decide +kernel
theorem dX11_divisor_0 : decode cX11_divisor 0 = .ok (.lload_n 0, 1) := by decide +kernel
theorem dX11_divisor_1 : decode cX11_divisor 1 = .ok (.lconst 0, 1) := by decide +kernel
theorem dX11_divisor_2 : decode cX11_divisor 2 = .ok (.lcmp, 1) := by decide +kernel
theorem dX11_divisor_3 : decode cX11_divisor 3 = .ok (.ifCond .ge 8, 3) := by decide +kernel
theorem dX11_divisor_6 : decode cX11_divisor 6 = .ok (.lload_n 0, 1) := by decide +kernel
theorem dX11_divisor_7 : decode cX11_divisor 7 = .ok (.lneg, 1) := by decide +kernel
theorem dX11_divisor_8 : decode cX11_divisor 8 = .ok (.goto 4, 3) := by decide +kernel
theorem dX11_divisor_11 : decode cX11_divisor 11 = .ok (.lload_n 0, 1) := by decide +kernel
theorem dX11_divisor_12 : decode cX11_divisor 12 = .ok (.lstore 4, 2) := by decide +kernel
theorem dX11_divisor_14 : decode cX11_divisor 14 = .ok (.lload_n 2, 1) := by decide +kernel
theorem dX11_divisor_15 : decode cX11_divisor 15 = .ok (.lconst 0, 1) := by decide +kernel
theorem dX11_divisor_16 : decode cX11_divisor 16 = .ok (.lcmp, 1) := by decide +kernel
theorem dX11_divisor_17 : decode cX11_divisor 17 = .ok (.ifCond .ge 8, 3) := by decide +kernel
theorem dX11_divisor_20 : decode cX11_divisor 20 = .ok (.lload_n 2, 1) := by decide +kernel
theorem dX11_divisor_21 : decode cX11_divisor 21 = .ok (.lneg, 1) := by decide +kernel
theorem dX11_divisor_22 : decode cX11_divisor 22 = .ok (.goto 4, 3) := by decide +kernel
theorem dX11_divisor_25 : decode cX11_divisor 25 = .ok (.lload_n 2, 1) := by decide +kernel
theorem dX11_divisor_26 : decode cX11_divisor 26 = .ok (.lstore 6, 2) := by decide +kernel
theorem dX11_divisor_28 : decode cX11_divisor 28 = .ok (.lload 6, 2) := by decide +kernel
theorem dX11_divisor_30 : decode cX11_divisor 30 = .ok (.lconst 0, 1) := by decide +kernel
theorem dX11_divisor_31 : decode cX11_divisor 31 = .ok (.lcmp, 1) := by decide +kernel
theorem dX11_divisor_32 : decode cX11_divisor 32 = .ok (.ifCond .le 21, 3) := by decide +kernel
theorem dX11_divisor_35 : decode cX11_divisor 35 = .ok (.lload 4, 2) := by decide +kernel
theorem dX11_divisor_37 : decode cX11_divisor 37 = .ok (.lload 6, 2) := by decide +kernel
theorem dX11_divisor_39 : decode cX11_divisor 39 = .ok (.lrem, 1) := by decide +kernel
theorem dX11_divisor_40 : decode cX11_divisor 40 = .ok (.lstore 8, 2) := by decide +kernel
theorem dX11_divisor_42 : decode cX11_divisor 42 = .ok (.lload 6, 2) := by decide +kernel
theorem dX11_divisor_44 : decode cX11_divisor 44 = .ok (.lstore 4, 2) := by decide +kernel
theorem dX11_divisor_46 : decode cX11_divisor 46 = .ok (.lload 8, 2) := by decide +kernel
theorem dX11_divisor_48 : decode cX11_divisor 48 = .ok (.lstore 6, 2) := by decide +kernel
theorem dX11_divisor_50 : decode cX11_divisor 50 = .ok (.goto (-22), 3) := by decide +kernel
theorem dX11_divisor_53 : decode cX11_divisor 53 = .ok (.lload 4, 2) := by decide +kernel
theorem dX11_divisor_55 : decode cX11_divisor 55 = .ok (.lreturn, 1) := by decide +kernel
theorem dX11_tells_0 : decode cX11_tells 0 = .ok (.lload_n 0, 1) := by decide +kernel
theorem dX11_tells_1 : decode cX11_tells 1 = .ok (.lload_n 2, 1) := by decide +kernel
theorem dX11_tells_2 : decode cX11_tells 2 = .ok (.invokestatic 307, 3) := by decide +kernel
theorem dX11_tells_5 : decode cX11_tells 5 = .ok (.lload 4, 2) := by decide +kernel
theorem dX11_tells_7 : decode cX11_tells 7 = .ok (.invokestatic 307, 3) := by decide +kernel
theorem dX11_tells_10 : decode cX11_tells 10 = .ok (.lstore 7, 2) := by decide +kernel
theorem dX11_tells_12 : decode cX11_tells 12 = .ok (.iload 6, 2) := by decide +kernel
theorem dX11_tells_14 : decode cX11_tells 14 = .ok (.ifCond .ne 7, 3) := by decide +kernel
theorem dX11_tells_17 : decode cX11_tells 17 = .ok (.lload_n 0, 1) := by decide +kernel
theorem dX11_tells_18 : decode cX11_tells 18 = .ok (.goto 15, 3) := by decide +kernel
theorem dX11_tells_21 : decode cX11_tells 21 = .ok (.iload 6, 2) := by decide +kernel
theorem dX11_tells_23 : decode cX11_tells 23 = .ok (.iconst 1, 1) := by decide +kernel
theorem dX11_tells_24 : decode cX11_tells 24 = .ok (.if_icmp .ne 7, 3) := by decide +kernel
theorem dX11_tells_27 : decode cX11_tells 27 = .ok (.lload_n 2, 1) := by decide +kernel
theorem dX11_tells_28 : decode cX11_tells 28 = .ok (.goto 5, 3) := by decide +kernel
theorem dX11_tells_31 : decode cX11_tells 31 = .ok (.lload 4, 2) := by decide +kernel
theorem dX11_tells_33 : decode cX11_tells 33 = .ok (.lload 7, 2) := by decide +kernel
theorem dX11_tells_35 : decode cX11_tells 35 = .ok (.ldiv, 1) := by decide +kernel
theorem dX11_tells_36 : decode cX11_tells 36 = .ok (.lreturn, 1) := by decide +kernel
theorem dX11_laysBench_0 : decode cX11_laysBench 0 = .ok (.aload_n 0, 1) := by decide +kernel
