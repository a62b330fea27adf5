theorem dX7_readPart_115 : decode cX7_readPart 115 = .ok (.getfield 57, 3) := by decide +kernel
theorem dX7_readPart_118 : decode cX7_readPart 118 = .ok (.iload_n 2, 1) := by decide +kernel
theorem dX7_readPart_119 : decode cX7_readPart 119 = .ok (.ifCond .eq 7, 3) := by decide +kernel
theorem dX7_readPart_122 : decode cX7_readPart 122 = .ok (.iconst 1, 1) := by decide +kernel
theorem dX7_readPart_123 : decode cX7_readPart 123 = .ok (.goto 4, 3) := by decide +kernel
theorem dX7_readPart_126 : decode cX7_readPart 126 = .ok (.iconst 0, 1) := by decide +kernel
theorem dX7_readPart_127 : decode cX7_readPart 127 = .ok (.iadd, 1) := by decide +kernel
theorem dX7_readPart_128 : decode cX7_readPart 128 = .ok (.putfield 57, 3) := by decide +kernel
theorem dX7_readPart_131 : decode cX7_readPart 131 = .ok (.iload_n 2, 1) := by decide +kernel
theorem dX7_readPart_132 : decode cX7_readPart 132 = .ok (.ireturn, 1) := by decide +kernel
theorem dX7_readWait_0 : decode cX7_readWait 0 = .ok (.aload_n 1, 1) := by decide +kernel
theorem dX7_readWait_1 : decode cX7_readWait 1 = .ok (.aload_n 0, 1) := by decide +kernel
theorem dX7_readWait_2 : decode cX7_readWait 2 = .ok (.iconst 1, 1) := by decide +kernel
theorem dX7_readWait_3 : decode cX7_readWait 3 = .ok (.iconst (-1), 1) := by decide +kernel
theorem dX7_readWait_4 : decode cX7_readWait 4 = .ok (.invokevirtual 90, 3) := by decide +kernel
theorem dX7_readWait_7 : decode cX7_readWait 7 = .ok (.putfield 94, 3) := by decide +kernel
theorem dX7_readWait_10 : decode cX7_readWait 10 = .ok (.aload_n 1, 1) := by decide +kernel
theorem dX7_readWait_11 : decode cX7_readWait 11 = .ok (.getfield 94, 3) := by decide +kernel
theorem dX7_readWait_14 : decode cX7_readWait 14 = .ok (.iconst (-1), 1) := by decide +kernel
theorem dX7_readWait_15 : decode cX7_readWait 15 = .ok (.if_icmp .eq 12, 3) := by decide +kernel
theorem dX7_readWait_18 : decode cX7_readWait 18 = .ok (.aload_n 0, 1) := by decide +kernel
theorem dX7_readWait_19 : decode cX7_readWait 19 = .ok (.ldc 97, 2) := by decide +kernel
theorem dX7_readWait_21 : decode cX7_readWait 21 = .ok (.invokevirtual 40, 3) := by decide +kernel
theorem dX7_readWait_24 : decode cX7_readWait 24 = .ok (.ifCond .ne 5, 3) := by decide +kernel
theorem dX7_readWait_27 : decode cX7_readWait 27 = .ok (.iconst 0, 1) := by decide +kernel
theorem dX7_readWait_28 : decode cX7_readWait 28 = .ok (.ireturn, 1) := by decide +kernel
theorem dX7_readWait_29 : decode cX7_readWait 29 = .ok (.aload_n 1, 1) := by decide +kernel
theorem dX7_readWait_30 : decode cX7_readWait 30 = .ok (.aload_n 0, 1) := by decide +kernel
theorem dX7_readWait_31 : decode cX7_readWait 31 = .ok (.iconst 3, 1) := by decide +kernel
theorem dX7_readWait_32 : decode cX7_readWait 32 = .ok (.invokevirtual 99, 3) := by decide +kernel
theorem dX7_readWait_35 : decode cX7_readWait 35 = .ok (.putfield 103, 3) := by decide +kernel
theorem dX7_readWait_38 : decode cX7_readWait 38 = .ok (.aload_n 1, 1) := by decide +kernel
theorem dX7_readWait_39 : decode cX7_readWait 39 = .ok (.getfield 103, 3) := by decide +kernel
theorem dX7_readWait_42 : decode cX7_readWait 42 = .ok (.iconst (-1), 1) := by decide +kernel
theorem dX7_readWait_43 : decode cX7_readWait 43 = .ok (.if_icmp .eq 16, 3) := by decide +kernel
theorem dX7_readWait_46 : decode cX7_readWait 46 = .ok (.aload_n 0, 1) := by decide +kernel
theorem dX7_readWait_47 : decode cX7_readWait 47 = .ok (.ldc 106, 2) := by decide +kernel
theorem dX7_readWait_49 : decode cX7_readWait 49 = .ok (.invokevirtual 40, 3) := by decide +kernel
theorem dX7_readWait_52 : decode cX7_readWait 52 = .ok (.ifCond .eq 7, 3) := by decide +kernel
theorem dX7_readWait_55 : decode cX7_readWait 55 = .ok (.iconst 1, 1) := by decide +kernel
theorem dX7_readWait_56 : decode cX7_readWait 56 = .ok (.goto 4, 3) := by decide +kernel
theorem dX7_readWait_59 : decode cX7_readWait 59 = .ok (.iconst 0, 1) := by decide +kernel
theorem dX7_readWait_60 : decode cX7_readWait 60 = .ok (.ireturn, 1) := by decide +kernel
theorem dX7_readLoss_0 : decode cX7_readLoss 0 = .ok (.aload_n 0, 1) := by decide +kernel
theorem dX7_readLoss_1 : decode cX7_readLoss 1 = .ok (.getfield 63, 3) := by decide +kernel
theorem dX7_readLoss_4 : decode cX7_readLoss 4 = .ok (.iconst 3, 1) := by decide +kernel
theorem dX7_readLoss_5 : decode cX7_readLoss 5 = .ok (.if_icmp .lt 5, 3) := by decide +kernel
theorem dX7_readLoss_8 : decode cX7_readLoss 8 = .ok (.iconst 0, 1) := by decide +kernel
theorem dX7_readLoss_9 : decode cX7_readLoss 9 = .ok (.ireturn, 1) := by decide +kernel
theorem dX7_readLoss_10 : decode cX7_readLoss 10 = .ok (.aload_n 0, 1) := by decide +kernel
theorem dX7_readLoss_11 : decode cX7_readLoss 11 = .ok (.invokevirtual 69, 3) := by decide +kernel
theorem dX7_readLoss_14 : decode cX7_readLoss 14 = .ok (.aload_n 1, 1) := by decide +kernel
theorem dX7_readLoss_15 : decode cX7_readLoss 15 = .ok (.iconst 4, 1) := by decide +kernel
theorem dX7_readLoss_16 : decode cX7_readLoss 16 = .ok (.putfield 108, 3) := by decide +kernel
theorem dX7_readLoss_19 : decode cX7_readLoss 19 = .ok (.aload_n 1, 1) := by decide +kernel
theorem dX7_readLoss_20 : decode cX7_readLoss 20 = .ok (.aload_n 0, 1) := by decide +kernel
theorem dX7_readLoss_21 : decode cX7_readLoss 21 = .ok (.getfield 63, 3) := by decide +kernel
theorem dX7_readLoss_24 : decode cX7_readLoss 24 = .ok (.putfield 111, 3) := by decide +kernel
theorem dX7_readLoss_27 : decode cX7_readLoss 27 = .ok (.aload_n 0, 1) := by decide +kernel
theorem dX7_readLoss_28 : decode cX7_readLoss 28 = .ok (.dup, 1) := by decide +kernel
theorem dX7_readLoss_29 : decode cX7_readLoss 29 = .ok (.getfield 63, 3) := by decide +kernel
theorem dX7_readLoss_32 : decode cX7_readLoss 32 = .ok (.iconst 1, 1) := by decide +kernel
theorem dX7_readLoss_33 : decode cX7_readLoss 33 = .ok (.iadd, 1) := by decide +kernel
theorem dX7_readLoss_34 : decode cX7_readLoss 34 = .ok (.putfield 63, 3) := by decide +kernel
theorem dX7_readLoss_37 : decode cX7_readLoss 37 = .ok (.aload_n 0, 1) := by decide +kernel
theorem dX7_readLoss_38 : decode cX7_readLoss 38 = .ok (.aload_n 1, 1) := by decide +kernel
theorem dX7_readLoss_39 : decode cX7_readLoss 39 = .ok (.invokevirtual 114, 3) := by decide +kernel
theorem dX7_readLoss_42 : decode cX7_readLoss 42 = .ok (.ifCond .eq 15, 3) := by decide +kernel
theorem dX7_readLoss_45 : decode cX7_readLoss 45 = .ok (.aload_n 0, 1) := by decide +kernel
theorem dX7_readLoss_46 : decode cX7_readLoss 46 = .ok (.aload_n 1, 1) := by decide +kernel
theorem dX7_readLoss_47 : decode cX7_readLoss 47 = .ok (.invokevirtual 117, 3) := by decide +kernel
theorem dX7_readLoss_50 : decode cX7_readLoss 50 = .ok (.ifCond .eq 7, 3) := by decide +kernel
theorem dX7_readLoss_53 : decode cX7_readLoss 53 = .ok (.iconst 1, 1) := by decide +kernel
theorem dX7_readLoss_54 : decode cX7_readLoss 54 = .ok (.goto 4, 3) := by decide +kernel
theorem dX7_readLoss_57 : decode cX7_readLoss 57 = .ok (.iconst 0, 1) := by decide +kernel
theorem dX7_readLoss_58 : decode cX7_readLoss 58 = .ok (.ireturn, 1) := by decide +kernel
theorem dX7_readCounter_0 : decode cX7_readCounter 0 = .ok (.aload_n 1, 1) := by decide +kernel
theorem dX7_readCounter_1 : decode cX7_readCounter 1 = .ok (.iconst 5, 1) := by decide +kernel
theorem dX7_readCounter_2 : decode cX7_readCounter 2 = .ok (.putfield 108, 3) := by decide +kernel
theorem dX7_readCounter_5 : decode cX7_readCounter 5 = .ok (.aload_n 0, 1) := by decide +kernel
theorem dX7_readCounter_6 : decode cX7_readCounter 6 = .ok (.aload_n 1, 1) := by decide +kernel
theorem dX7_readCounter_7 : decode cX7_readCounter 7 = .ok (.invokevirtual 114, 3) := by decide +kernel
theorem dX7_readCounter_10 : decode cX7_readCounter 10 = .ok (.ifCond .ne 5, 3) := by decide +kernel
theorem dX7_readCounter_13 : decode cX7_readCounter 13 = .ok (.iconst 0, 1) := by decide +kernel
theorem dX7_readCounter_14 : decode cX7_readCounter 14 = .ok (.ireturn, 1) := by decide +kernel
theorem dX7_readCounter_15 : decode cX7_readCounter 15 = .ok (.aload_n 0, 1) := by decide +kernel
theorem dX7_readCounter_16 : decode cX7_readCounter 16 = .ok (.dup, 1) := by decide +kernel
theorem dX7_readCounter_17 : decode cX7_readCounter 17 = .ok (.getfield 60, 3) := by decide +kernel
theorem dX7_readCounter_20 : decode cX7_readCounter 20 = .ok (.iconst 1, 1) := by decide +kernel
theorem dX7_readCounter_21 : decode cX7_readCounter 21 = .ok (.aload_n 1, 1) := by decide +kernel
theorem dX7_readCounter_22 : decode cX7_readCounter 22 = .ok (.getfield 120, 3) := by decide +kernel
theorem dX7_readCounter_25 : decode cX7_readCounter 25 = .ok (.ishl, 1) := by decide +kernel
theorem dX7_readCounter_26 : decode cX7_readCounter 26 = .ok (.ior, 1) := by decide +kernel
theorem dX7_readCounter_27 : decode cX7_readCounter 27 = .ok (.putfield 60, 3) := by decide +kernel
theorem dX7_readCounter_30 : decode cX7_readCounter 30 = .ok (.iconst 1, 1) := by decide +kernel
theorem dX7_readCounter_31 : decode cX7_readCounter 31 = .ok (.ireturn, 1) := by decide +kernel
theorem dX7_readDeed_0 : decode cX7_readDeed 0 = .ok (.aload_n 0, 1) := by decide +kernel
theorem dX7_readDeed_1 : decode cX7_readDeed 1 = .ok (.ldc 123, 2) := by decide +kernel
theorem dX7_readDeed_3 : decode cX7_readDeed 3 = .ok (.invokevirtual 40, 3) := by decide +kernel
theorem dX7_readDeed_6 : decode cX7_readDeed 6 = .ok (.ifCond .eq 38, 3) := by decide +kernel
theorem dX7_readDeed_9 : decode cX7_readDeed 9 = .ok (.aload_n 1, 1) := by decide +kernel
theorem dX7_readDeed_10 : decode cX7_readDeed 10 = .ok (.iconst 0, 1) := by decide +kernel
theorem dX7_readDeed_11 : decode cX7_readDeed 11 = .ok (.putfield 108, 3) := by decide +kernel
theorem dX7_readDeed_14 : decode cX7_readDeed 14 = .ok (.aload_n 0, 1) := by decide +kernel
theorem dX7_readDeed_15 : decode cX7_readDeed 15 = .ok (.aload_n 1, 1) := by decide +kernel
theorem dX7_readDeed_16 : decode cX7_readDeed 16 = .ok (.invokevirtual 114, 3) := by decide +kernel
theorem dX7_readDeed_19 : decode cX7_readDeed 19 = .ok (.ifCond .eq 23, 3) := by decide +kernel
theorem dX7_readDeed_22 : decode cX7_readDeed 22 = .ok (.aload_n 0, 1) := by decide +kernel
theorem dX7_readDeed_23 : decode cX7_readDeed 23 = .ok (.aload_n 1, 1) := by decide +kernel
theorem dX7_readDeed_24 : decode cX7_readDeed 24 = .ok (.invokevirtual 125, 3) := by decide +kernel
theorem dX7_readDeed_27 : decode cX7_readDeed 27 = .ok (.ifCond .eq 15, 3) := by decide +kernel
theorem dX7_readDeed_30 : decode cX7_readDeed 30 = .ok (.aload_n 0, 1) := by decide +kernel
theorem dX7_readDeed_31 : decode cX7_readDeed 31 = .ok (.aload_n 1, 1) := by decide +kernel
theorem dX7_readDeed_32 : decode cX7_readDeed 32 = .ok (.invokevirtual 117, 3) := by decide +kernel
theorem dX7_readDeed_35 : decode cX7_readDeed 35 = .ok (.ifCond .eq 7, 3) := by decide +kernel
theorem dX7_readDeed_38 : decode cX7_readDeed 38 = .ok (.iconst 1, 1) := by decide +kernel
theorem dX7_readDeed_39 : decode cX7_readDeed 39 = .ok (.goto 4, 3) := by decide +kernel
theorem dX7_readDeed_42 : decode cX7_readDeed 42 = .ok (.iconst 0, 1) := by decide +kernel
theorem dX7_readDeed_43 : decode cX7_readDeed 43 = .ok (.ireturn, 1) := by decide +kernel
theorem dX7_readDeed_44 : decode cX7_readDeed 44 = .ok (.aload_n 0, 1) := by decide +kernel
theorem dX7_readDeed_45 : decode cX7_readDeed 45 = .ok (.ldc 128, 2) := by decide +kernel
theorem dX7_readDeed_47 : decode cX7_readDeed 47 = .ok (.invokevirtual 40, 3) := by decide +kernel
theorem dX7_readDeed_50 : decode cX7_readDeed 50 = .ok (.ifCond .eq 30, 3) := by decide +kernel
theorem dX7_readDeed_53 : decode cX7_readDeed 53 = .ok (.aload_n 1, 1) := by decide +kernel
theorem dX7_readDeed_54 : decode cX7_readDeed 54 = .ok (.iconst 1, 1) := by decide +kernel
theorem dX7_readDeed_55 : decode cX7_readDeed 55 = .ok (.putfield 108, 3) := by decide +kernel
theorem dX7_readDeed_58 : decode cX7_readDeed 58 = .ok (.aload_n 0, 1) := by decide +kernel
theorem dX7_readDeed_59 : decode cX7_readDeed 59 = .ok (.aload_n 1, 1) := by decide +kernel
theorem dX7_readDeed_60 : decode cX7_readDeed 60 = .ok (.invokevirtual 114, 3) := by decide +kernel
theorem dX7_readDeed_63 : decode cX7_readDeed 63 = .ok (.ifCond .eq 15, 3) := by decide +kernel
theorem dX7_readDeed_66 : decode cX7_readDeed 66 = .ok (.aload_n 0, 1) := by decide +kernel
theorem dX7_readDeed_67 : decode cX7_readDeed 67 = .ok (.aload_n 1, 1) := by decide +kernel
theorem dX7_readDeed_68 : decode cX7_readDeed 68 = .ok (.invokevirtual 117, 3) := by decide +kernel
theorem dX7_readDeed_71 : decode cX7_readDeed 71 = .ok (.ifCond .eq 7, 3) := by decide +kernel
theorem dX7_readDeed_74 : decode cX7_readDeed 74 = .ok (.iconst 1, 1) := by decide +kernel
theorem dX7_readDeed_75 : decode cX7_readDeed 75 = .ok (.goto 4, 3) := by decide +kernel
theorem dX7_readDeed_78 : decode cX7_readDeed 78 = .ok (.iconst 0, 1) := by decide +kernel
theorem dX7_readDeed_79 : decode cX7_readDeed 79 = .ok (.ireturn, 1) := by decide +kernel
theorem dX7_readDeed_80 : decode cX7_readDeed 80 = .ok (.aload_n 0, 1) := by decide +kernel
theorem dX7_readDeed_81 : decode cX7_readDeed 81 = .ok (.ldc 130, 2) := by decide +kernel
theorem dX7_readDeed_83 : decode cX7_readDeed 83 = .ok (.invokevirtual 40, 3) := by decide +kernel
theorem dX7_readDeed_86 : decode cX7_readDeed 86 = .ok (.ifCond .eq 30, 3) := by decide +kernel
theorem dX7_readDeed_89 : decode cX7_readDeed 89 = .ok (.aload_n 1, 1) := by decide +kernel
theorem dX7_readDeed_90 : decode cX7_readDeed 90 = .ok (.iconst 2, 1) := by decide +kernel
theorem dX7_readDeed_91 : decode cX7_readDeed 91 = .ok (.putfield 108, 3) := by decide +kernel
theorem dX7_readDeed_94 : decode cX7_readDeed 94 = .ok (.aload_n 0, 1) := by decide +kernel
theorem dX7_readDeed_95 : decode cX7_readDeed 95 = .ok (.aload_n 1, 1) := by decide +kernel
theorem dX7_readDeed_96 : decode cX7_readDeed 96 = .ok (.invokevirtual 114, 3) := by decide +kernel
theorem dX7_readDeed_99 : decode cX7_readDeed 99 = .ok (.ifCond .eq 15, 3) := by decide +kernel
theorem dX7_readDeed_102 : decode cX7_readDeed 102 = .ok (.aload_n 0, 1) := by decide +kernel
theorem dX7_readDeed_103 : decode cX7_readDeed 103 = .ok (.aload_n 1, 1) := by decide +kernel
theorem dX7_readDeed_104 : decode cX7_readDeed 104 = .ok (.invokevirtual 132, 3) := by decide +kernel
theorem dX7_readDeed_107 : decode cX7_readDeed 107 = .ok (.ifCond .eq 7, 3) := by decide +kernel
theorem dX7_readDeed_110 : decode cX7_readDeed 110 = .ok (.iconst 1, 1) := by decide +kernel
theorem dX7_readDeed_111 : decode cX7_readDeed 111 = .ok (.goto 4, 3) := by decide +kernel
theorem dX7_readDeed_114 : decode cX7_readDeed 114 = .ok (.iconst 0, 1) := by decide +kernel
theorem dX7_readDeed_115 : decode cX7_readDeed 115 = .ok (.ireturn, 1) := by decide +kernel
theorem dX7_readDeed_116 : decode cX7_readDeed 116 = .ok (.aload_n 0, 1) := by decide +kernel
theorem dX7_readDeed_117 : decode cX7_readDeed 117 = .ok (.ldc 135, 2) := by decide +kernel
theorem dX7_readDeed_119 : decode cX7_readDeed 119 = .ok (.invokevirtual 40, 3) := by decide +kernel
theorem dX7_readDeed_122 : decode cX7_readDeed 122 = .ok (.ifCond .eq 30, 3) := by decide +kernel
theorem dX7_readDeed_125 : decode cX7_readDeed 125 = .ok (.aload_n 1, 1) := by decide +kernel
theorem dX7_readDeed_126 : decode cX7_readDeed 126 = .ok (.iconst 3, 1) := by decide +kernel
theorem dX7_readDeed_127 : decode cX7_readDeed 127 = .ok (.putfield 108, 3) := by decide +kernel
theorem dX7_readDeed_130 : decode cX7_readDeed 130 = .ok (.aload_n 0, 1) := by decide +kernel
theorem dX7_readDeed_131 : decode cX7_readDeed 131 = .ok (.aload_n 1, 1) := by decide +kernel
theorem dX7_readDeed_132 : decode cX7_readDeed 132 = .ok (.invokevirtual 114, 3) := by decide +kernel
theorem dX7_readDeed_135 : decode cX7_readDeed 135 = .ok (.ifCond .eq 15, 3) := by decide +kernel
theorem dX7_readDeed_138 : decode cX7_readDeed 138 = .ok (.aload_n 0, 1) := by decide +kernel
theorem dX7_readDeed_139 : decode cX7_readDeed 139 = .ok (.aload_n 1, 1) := by decide +kernel
theorem dX7_readDeed_140 : decode cX7_readDeed 140 = .ok (.invokevirtual 125, 3) := by decide +kernel
theorem dX7_readDeed_143 : decode cX7_readDeed 143 = .ok (.ifCond .eq 7, 3) := by decide +kernel
theorem dX7_readDeed_146 : decode cX7_readDeed 146 = .ok (.iconst 1, 1) := by decide +kernel
theorem dX7_readDeed_147 : decode cX7_readDeed 147 = .ok (.goto 4, 3) := by decide +kernel
theorem dX7_readDeed_150 : decode cX7_readDeed 150 = .ok (.iconst 0, 1) := by decide +kernel
theorem dX7_readDeed_151 : decode cX7_readDeed 151 = .ok (.ireturn, 1) := by decide +kernel
theorem dX7_readDeed_152 : decode cX7_readDeed 152 = .ok (.iconst 0, 1) := by decide +kernel
theorem dX7_readDeed_153 : decode cX7_readDeed 153 = .ok (.ireturn, 1) := by decide +kernel
theorem dX7_readShift_0 : decode cX7_readShift 0 = .ok (.aload_n 0, 1) := by decide +kernel
theorem dX7_readShift_1 : decode cX7_readShift 1 = .ok (.ldc 137, 2) := by decide +kernel
theorem dX7_readShift_3 : decode cX7_readShift 3 = .ok (.invokevirtual 40, 3) := by decide +kernel
theorem dX7_readShift_6 : decode cX7_readShift 6 = .ok (.ifCond .eq 22, 3) := by decide +kernel
theorem dX7_readShift_9 : decode cX7_readShift 9 = .ok (.aload_n 1, 1) := by decide +kernel
theorem dX7_readShift_10 : decode cX7_readShift 10 = .ok (.aload_n 0, 1) := by decide +kernel
theorem dX7_readShift_11 : decode cX7_readShift 11 = .ok (.iconst 1, 1) := by decide +kernel
theorem dX7_readShift_12 : decode cX7_readShift 12 = .ok (.invokevirtual 99, 3) := by decide +kernel
theorem dX7_readShift_15 : decode cX7_readShift 15 = .ok (.putfield 139, 3) := by decide +kernel
theorem dX7_readShift_18 : decode cX7_readShift 18 = .ok (.aload_n 1, 1) := by decide +kernel
theorem dX7_readShift_19 : decode cX7_readShift 19 = .ok (.getfield 139, 3) := by decide +kernel
theorem dX7_readShift_22 : decode cX7_readShift 22 = .ok (.iconst (-1), 1) := by decide +kernel
theorem dX7_readShift_23 : decode cX7_readShift 23 = .ok (.if_icmp .ne 5, 3) := by decide +kernel
theorem dX7_readShift_26 : decode cX7_readShift 26 = .ok (.iconst 0, 1) := by decide +kernel
theorem dX7_readShift_27 : decode cX7_readShift 27 = .ok (.ireturn, 1) := by decide +kernel
theorem dX7_readShift_28 : decode cX7_readShift 28 = .ok (.aload_n 1, 1) := by decide +kernel
theorem dX7_readShift_29 : decode cX7_readShift 29 = .ok (.aload_n 0, 1) := by decide +kernel
theorem dX7_readShift_30 : decode cX7_readShift 30 = .ok (.iconst 3, 1) := by decide +kernel
theorem dX7_readShift_31 : decode cX7_readShift 31 = .ok (.invokevirtual 99, 3) := by decide +kernel
theorem dX7_readShift_34 : decode cX7_readShift 34 = .ok (.putfield 141, 3) := by decide +kernel
theorem dX7_readShift_37 : decode cX7_readShift 37 = .ok (.aload_n 1, 1) := by decide +kernel
theorem dX7_readShift_38 : decode cX7_readShift 38 = .ok (.getfield 141, 3) := by decide +kernel
theorem dX7_readShift_41 : decode cX7_readShift 41 = .ok (.iconst (-1), 1) := by decide +kernel
theorem dX7_readShift_42 : decode cX7_readShift 42 = .ok (.if_icmp .eq 7, 3) := by decide +kernel
theorem dX7_readShift_45 : decode cX7_readShift 45 = .ok (.iconst 1, 1) := by decide +kernel
theorem dX7_readShift_46 : decode cX7_readShift 46 = .ok (.goto 4, 3) := by decide +kernel
theorem dX7_readShift_49 : decode cX7_readShift 49 = .ok (.iconst 0, 1) := by decide +kernel
theorem dX7_readShift_50 : decode cX7_readShift 50 = .ok (.ireturn, 1) := by decide +kernel
theorem dX7_readFirst_0 : decode cX7_readFirst 0 = .ok (.aload_n 1, 1) := by decide +kernel
theorem dX7_readFirst_1 : decode cX7_readFirst 1 = .ok (.aload_n 0, 1) := by decide +kernel
theorem dX7_readFirst_2 : decode cX7_readFirst 2 = .ok (.iconst 0, 1) := by decide +kernel
theorem dX7_readFirst_3 : decode cX7_readFirst 3 = .ok (.iconst (-1), 1) := by decide +kernel
theorem dX7_readFirst_4 : decode cX7_readFirst 4 = .ok (.invokevirtual 90, 3) := by decide +kernel
theorem dX7_readFirst_7 : decode cX7_readFirst 7 = .ok (.putfield 120, 3) := by decide +kernel
theorem dX7_readFirst_10 : decode cX7_readFirst 10 = .ok (.aload_n 1, 1) := by decide +kernel
theorem dX7_readFirst_11 : decode cX7_readFirst 11 = .ok (.getfield 120, 3) := by decide +kernel
theorem dX7_readFirst_14 : decode cX7_readFirst 14 = .ok (.iconst (-1), 1) := by decide +kernel
theorem dX7_readFirst_15 : decode cX7_readFirst 15 = .ok (.if_icmp .eq 7, 3) := by decide +kernel
theorem dX7_readFirst_18 : decode cX7_readFirst 18 = .ok (.iconst 1, 1) := by decide +kernel
theorem dX7_readFirst_19 : decode cX7_readFirst 19 = .ok (.goto 4, 3) := by decide +kernel
theorem dX7_readFirst_22 : decode cX7_readFirst 22 = .ok (.iconst 0, 1) := by decide +kernel
theorem dX7_readFirst_23 : decode cX7_readFirst 23 = .ok (.ireturn, 1) := by decide +kernel
theorem dX7_readSecond_0 : decode cX7_readSecond 0 = .ok (.aload_n 1, 1) := by decide +kernel
theorem dX7_readSecond_1 : decode cX7_readSecond 1 = .ok (.aload_n 0, 1) := by decide +kernel
theorem dX7_readSecond_2 : decode cX7_readSecond 2 = .ok (.iconst 0, 1) := by decide +kernel
theorem dX7_readSecond_3 : decode cX7_readSecond 3 = .ok (.aload_n 1, 1) := by decide +kernel
theorem dX7_readSecond_4 : decode cX7_readSecond 4 = .ok (.getfield 120, 3) := by decide +kernel
theorem dX7_readSecond_7 : decode cX7_readSecond 7 = .ok (.invokevirtual 90, 3) := by decide +kernel
theorem dX7_readSecond_10 : decode cX7_readSecond 10 = .ok (.putfield 144, 3) := by decide +kernel
theorem dX7_readSecond_13 : decode cX7_readSecond 13 = .ok (.aload_n 1, 1) := by decide +kernel
theorem dX7_readSecond_14 : decode cX7_readSecond 14 = .ok (.getfield 144, 3) := by decide +kernel
theorem dX7_readSecond_17 : decode cX7_readSecond 17 = .ok (.iconst (-1), 1) := by decide +kernel
theorem dX7_readSecond_18 : decode cX7_readSecond 18 = .ok (.if_icmp .eq 7, 3) := by decide +kernel
theorem dX7_readSecond_21 : decode cX7_readSecond 21 = .ok (.iconst 1, 1) := by decide +kernel
theorem dX7_readSecond_22 : decode cX7_readSecond 22 = .ok (.goto 4, 3) := by decide +kernel
theorem dX7_readSecond_25 : decode cX7_readSecond 25 = .ok (.iconst 0, 1) := by decide +kernel
theorem dX7_readSecond_26 : decode cX7_readSecond 26 = .ok (.ireturn, 1) := by decide +kernel
theorem dX7_readKind_0 : decode cX7_readKind 0 = .ok (.aload_n 0, 1) := by decide +kernel
theorem dX7_readKind_1 : decode cX7_readKind 1 = .ok (.ldc 147, 2) := by decide +kernel
theorem dX7_readKind_3 : decode cX7_readKind 3 = .ok (.invokevirtual 40, 3) := by decide +kernel
theorem dX7_readKind_6 : decode cX7_readKind 6 = .ok (.ifCond .eq 11, 3) := by decide +kernel
theorem dX7_readKind_9 : decode cX7_readKind 9 = .ok (.aload_n 1, 1) := by decide +kernel
theorem dX7_readKind_10 : decode cX7_readKind 10 = .ok (.iconst 1, 1) := by decide +kernel
theorem dX7_readKind_11 : decode cX7_readKind 11 = .ok (.putfield 149, 3) := by decide +kernel
theorem dX7_readKind_14 : decode cX7_readKind 14 = .ok (.goto 34, 3) := by decide +kernel
theorem dX7_readKind_17 : decode cX7_readKind 17 = .ok (.aload_n 0, 1) := by decide +kernel
theorem dX7_readKind_18 : decode cX7_readKind 18 = .ok (.ldc 152, 2) := by decide +kernel
theorem dX7_readKind_20 : decode cX7_readKind 20 = .ok (.invokevirtual 40, 3) := by decide +kernel
theorem dX7_readKind_23 : decode cX7_readKind 23 = .ok (.ifCond .eq 11, 3) := by decide +kernel
theorem dX7_readKind_26 : decode cX7_readKind 26 = .ok (.aload_n 1, 1) := by decide +kernel
theorem dX7_readKind_27 : decode cX7_readKind 27 = .ok (.iconst 2, 1) := by decide +kernel
theorem dX7_readKind_28 : decode cX7_readKind 28 = .ok (.putfield 149, 3) := by decide +kernel
theorem dX7_readKind_31 : decode cX7_readKind 31 = .ok (.goto 17, 3) := by decide +kernel
theorem dX7_readKind_34 : decode cX7_readKind 34 = .ok (.aload_n 0, 1) := by decide +kernel
theorem dX7_readKind_35 : decode cX7_readKind 35 = .ok (.ldc 154, 2) := by decide +kernel
theorem dX7_readKind_37 : decode cX7_readKind 37 = .ok (.invokevirtual 40, 3) := by decide +kernel
theorem dX7_readKind_40 : decode cX7_readKind 40 = .ok (.ifCond .eq 8, 3) := by decide +kernel
theorem dX7_readKind_43 : decode cX7_readKind 43 = .ok (.aload_n 1, 1) := by decide +kernel
theorem dX7_readKind_44 : decode cX7_readKind 44 = .ok (.iconst 3, 1) := by decide +kernel
theorem dX7_readKind_45 : decode cX7_readKind 45 = .ok (.putfield 149, 3) := by decide +kernel
theorem dX7_readKind_48 : decode cX7_readKind 48 = .ok (.aload_n 1, 1) := by decide +kernel
theorem dX7_readKind_49 : decode cX7_readKind 49 = .ok (.getfield 149, 3) := by decide +kernel
theorem dX7_readKind_52 : decode cX7_readKind 52 = .ok (.ifCond .eq 7, 3) := by decide +kernel
theorem dX7_readKind_55 : decode cX7_readKind 55 = .ok (.iconst 1, 1) := by decide +kernel
theorem dX7_readKind_56 : decode cX7_readKind 56 = .ok (.goto 4, 3) := by decide +kernel
theorem dX7_readKind_59 : decode cX7_readKind 59 = .ok (.iconst 0, 1) := by decide +kernel
theorem dX7_readKind_60 : decode cX7_readKind 60 = .ok (.ireturn, 1) := by decide +kernel
theorem dX7_readPath_0 : decode cX7_readPath 0 = .ok (.aload_n 0, 1) := by decide +kernel
theorem dX7_readPath_1 : decode cX7_readPath 1 = .ok (.getfield 156, 3) := by decide +kernel
theorem dX7_readPath_4 : decode cX7_readPath 4 = .ok (.istore_n 3, 1) := by decide +kernel
theorem dX7_readPath_5 : decode cX7_readPath 5 = .ok (.iload_n 3, 1) := by decide +kernel
theorem dX7_readPath_6 : decode cX7_readPath 6 = .ok (.ifCond .lt 13, 3) := by decide +kernel
theorem dX7_readPath_9 : decode cX7_readPath 9 = .ok (.iload_n 3, 1) := by decide +kernel
theorem dX7_readPath_10 : decode cX7_readPath 10 = .ok (.iconst 5, 1) := by decide +kernel
theorem dX7_readPath_11 : decode cX7_readPath 11 = .ok (.if_icmp .ge 8, 3) := by decide +kernel
theorem dX7_readPath_14 : decode cX7_readPath 14 = .ok (.iload_n 3, 1) := by decide +kernel
theorem dX7_readPath_15 : decode cX7_readPath 15 = .ok (.iload_n 2, 1) := by decide +kernel
theorem dX7_readPath_16 : decode cX7_readPath 16 = .ok (.if_icmp .ne 5, 3) := by decide +kernel
theorem dX7_readPath_19 : decode cX7_readPath 19 = .ok (.iconst (-1), 1) := by decide +kernel
theorem dX7_readPath_20 : decode cX7_readPath 20 = .ok (.ireturn, 1) := by decide +kernel
theorem dX7_readPath_21 : decode cX7_readPath 21 = .ok (.aload_n 0, 1) := by decide +kernel
theorem dX7_readPath_22 : decode cX7_readPath 22 = .ok (.getfield 60, 3) := by decide +kernel
theorem dX7_readPath_25 : decode cX7_readPath 25 = .ok (.iload_n 3, 1) := by decide +kernel
theorem dX7_readPath_26 : decode cX7_readPath 26 = .ok (.ishr, 1) := by decide +kernel
theorem dX7_readPath_27 : decode cX7_readPath 27 = .ok (.iconst 1, 1) := by decide +kernel
theorem dX7_readPath_28 : decode cX7_readPath 28 = .ok (.iand, 1) := by decide +kernel
theorem dX7_readPath_29 : decode cX7_readPath 29 = .ok (.iconst 1, 1) := by decide +kernel
theorem dX7_readPath_30 : decode cX7_readPath 30 = .ok (.if_icmp .ne 7, 3) := by decide +kernel
theorem dX7_readPath_33 : decode cX7_readPath 33 = .ok (.iconst 1, 1) := by decide +kernel
theorem dX7_readPath_34 : decode cX7_readPath 34 = .ok (.goto 4, 3) := by decide +kernel
theorem dX7_readPath_37 : decode cX7_readPath 37 = .ok (.iconst 0, 1) := by decide +kernel
theorem dX7_readPath_38 : decode cX7_readPath 38 = .ok (.istore 4, 2) := by decide +kernel
theorem dX7_readPath_40 : decode cX7_readPath 40 = .ok (.iload 4, 2) := by decide +kernel
theorem dX7_readPath_42 : decode cX7_readPath 42 = .ok (.iload_n 1, 1) := by decide +kernel
theorem dX7_readPath_43 : decode cX7_readPath 43 = .ok (.if_icmp .eq 5, 3) := by decide +kernel
theorem dX7_readPath_46 : decode cX7_readPath 46 = .ok (.iconst (-1), 1) := by decide +kernel
theorem dX7_readPath_47 : decode cX7_readPath 47 = .ok (.ireturn, 1) := by decide +kernel
theorem dX7_readPath_48 : decode cX7_readPath 48 = .ok (.aload_n 0, 1) := by decide +kernel
theorem dX7_readPath_49 : decode cX7_readPath 49 = .ok (.invokevirtual 69, 3) := by decide +kernel
theorem dX7_readPath_52 : decode cX7_readPath 52 = .ok (.iload_n 3, 1) := by decide +kernel
theorem dX7_readPath_53 : decode cX7_readPath 53 = .ok (.ireturn, 1) := by decide +kernel
theorem dX7_readNumber_0 : decode cX7_readNumber 0 = .ok (.aload_n 0, 1) := by decide +kernel
theorem dX7_readNumber_1 : decode cX7_readNumber 1 = .ok (.getfield 156, 3) := by decide +kernel
theorem dX7_readNumber_4 : decode cX7_readNumber 4 = .ok (.istore_n 2, 1) := by decide +kernel
theorem dX7_readNumber_5 : decode cX7_readNumber 5 = .ok (.iload_n 2, 1) := by decide +kernel
theorem dX7_readNumber_6 : decode cX7_readNumber 6 = .ok (.ifCond .lt 8, 3) := by decide +kernel
theorem dX7_readNumber_9 : decode cX7_readNumber 9 = .ok (.iload_n 2, 1) := by decide +kernel
theorem dX7_readNumber_10 : decode cX7_readNumber 10 = .ok (.iload_n 1, 1) := by decide +kernel
theorem dX7_readNumber_11 : decode cX7_readNumber 11 = .ok (.if_icmp .le 5, 3) := by decide +kernel
theorem dX7_readNumber_14 : decode cX7_readNumber 14 = .ok (.iconst (-1), 1) := by decide +kernel
theorem dX7_readNumber_15 : decode cX7_readNumber 15 = .ok (.ireturn, 1) := by decide +kernel
theorem dX7_readNumber_16 : decode cX7_readNumber 16 = .ok (.aload_n 0, 1) := by decide +kernel
theorem dX7_readNumber_17 : decode cX7_readNumber 17 = .ok (.invokevirtual 69, 3) := by decide +kernel
theorem dX7_readNumber_20 : decode cX7_readNumber 20 = .ok (.iload_n 2, 1) := by decide +kernel
theorem dX7_readNumber_21 : decode cX7_readNumber 21 = .ok (.ireturn, 1) := by decide +kernel
theorem dX7_take_0 : decode cX7_take 0 = .ok (.aload_n 0, 1) := by decide +kernel
theorem dX7_take_1 : decode cX7_take 1 = .ok (.aload_n 1, 1) := by decide +kernel
theorem dX7_take_2 : decode cX7_take 2 = .ok (.invokevirtual 79, 3) := by decide +kernel
theorem dX7_take_5 : decode cX7_take 5 = .ok (.istore_n 2, 1) := by decide +kernel
theorem dX7_take_6 : decode cX7_take 6 = .ok (.iload_n 2, 1) := by decide +kernel
theorem dX7_take_7 : decode cX7_take 7 = .ok (.ifCond .eq 7, 3) := by decide +kernel
theorem dX7_take_10 : decode cX7_take 10 = .ok (.aload_n 0, 1) := by decide +kernel
theorem dX7_take_11 : decode cX7_take 11 = .ok (.invokevirtual 69, 3) := by decide +kernel
theorem dX7_take_14 : decode cX7_take 14 = .ok (.iload_n 2, 1) := by decide +kernel
theorem dX7_take_15 : decode cX7_take 15 = .ok (.ireturn, 1) := by decide +kernel
theorem dX7_says_0 : decode cX7_says 0 = .ok (.aload_n 1, 1) := by decide +kernel
theorem dX7_says_1 : decode cX7_says 1 = .ok (.invokevirtual 159, 3) := by decide +kernel
theorem dX7_says_4 : decode cX7_says 4 = .ok (.aload_n 0, 1) := by decide +kernel
theorem dX7_says_5 : decode cX7_says 5 = .ok (.getfield 66, 3) := by decide +kernel
theorem dX7_says_8 : decode cX7_says 8 = .ok (.aload_n 0, 1) := by decide +kernel
theorem dX7_says_9 : decode cX7_says 9 = .ok (.getfield 34, 3) := by decide +kernel
theorem dX7_says_12 : decode cX7_says 12 = .ok (.isub, 1) := by decide +kernel
theorem dX7_says_13 : decode cX7_says 13 = .ok (.if_icmp .eq 5, 3) := by decide +kernel
theorem dX7_says_16 : decode cX7_says 16 = .ok (.iconst 0, 1) := by decide +kernel
theorem dX7_says_17 : decode cX7_says 17 = .ok (.ireturn, 1) := by decide +kernel
theorem dX7_says_18 : decode cX7_says 18 = .ok (.aload_n 0, 1) := by decide +kernel
theorem dX7_says_19 : decode cX7_says 19 = .ok (.getfield 34, 3) := by decide +kernel
theorem dX7_says_22 : decode cX7_says 22 = .ok (.istore_n 2, 1) := by decide +kernel
theorem dX7_says_23 : decode cX7_says 23 = .ok (.iload_n 2, 1) := by decide +kernel
theorem dX7_says_24 : decode cX7_says 24 = .ok (.aload_n 0, 1) := by decide +kernel
theorem dX7_says_25 : decode cX7_says 25 = .ok (.getfield 66, 3) := by decide +kernel
theorem dX7_says_28 : decode cX7_says 28 = .ok (.if_icmp .ge 33, 3) := by decide +kernel
theorem dX7_says_31 : decode cX7_says 31 = .ok (.aload_n 0, 1) := by decide +kernel
theorem dX7_says_32 : decode cX7_says 32 = .ok (.getfield 20, 3) := by decide +kernel
theorem dX7_says_35 : decode cX7_says 35 = .ok (.getfield 165, 3) := by decide +kernel
theorem dX7_says_38 : decode cX7_says 38 = .ok (.iload_n 2, 1) := by decide +kernel
theorem dX7_says_39 : decode cX7_says 39 = .ok (.iaload, 1) := by decide +kernel
theorem dX7_says_40 : decode cX7_says 40 = .ok (.aload_n 1, 1) := by decide +kernel
theorem dX7_says_41 : decode cX7_says 41 = .ok (.iload_n 2, 1) := by decide +kernel
theorem dX7_says_42 : decode cX7_says 42 = .ok (.aload_n 0, 1) := by decide +kernel
theorem dX7_says_43 : decode cX7_says 43 = .ok (.getfield 34, 3) := by decide +kernel
theorem dX7_says_46 : decode cX7_says 46 = .ok (.isub, 1) := by decide +kernel
theorem dX7_says_47 : decode cX7_says 47 = .ok (.invokevirtual 171, 3) := by decide +kernel
theorem dX7_says_50 : decode cX7_says 50 = .ok (.if_icmp .eq 5, 3) := by decide +kernel
theorem dX7_says_53 : decode cX7_says 53 = .ok (.iconst 0, 1) := by decide +kernel
theorem dX7_says_54 : decode cX7_says 54 = .ok (.ireturn, 1) := by decide +kernel
theorem dX7_says_55 : decode cX7_says 55 = .ok (.iinc 2 1, 3) := by decide +kernel
theorem dX7_says_58 : decode cX7_says 58 = .ok (.goto (-35), 3) := by decide +kernel
theorem dX7_says_61 : decode cX7_says 61 = .ok (.iconst 1, 1) := by decide +kernel
theorem dX7_says_62 : decode cX7_says 62 = .ok (.ireturn, 1) := by decide +kernel
theorem dX7_atEnd_0 : decode cX7_atEnd 0 = .ok (.aload_n 0, 1) := by decide +kernel
theorem dX7_atEnd_1 : decode cX7_atEnd 1 = .ok (.getfield 34, 3) := by decide +kernel
theorem dX7_atEnd_4 : decode cX7_atEnd 4 = .ok (.aload_n 0, 1) := by decide +kernel
theorem dX7_atEnd_5 : decode cX7_atEnd 5 = .ok (.getfield 20, 3) := by decide +kernel
theorem dX7_atEnd_8 : decode cX7_atEnd 8 = .ok (.getfield 175, 3) := by decide +kernel
theorem dX7_atEnd_11 : decode cX7_atEnd 11 = .ok (.if_icmp .lt 7, 3) := by decide +kernel
theorem dX7_atEnd_14 : decode cX7_atEnd 14 = .ok (.iconst 1, 1) := by decide +kernel
theorem dX7_atEnd_15 : decode cX7_atEnd 15 = .ok (.goto 4, 3) := by decide +kernel
theorem dX7_atEnd_18 : decode cX7_atEnd 18 = .ok (.iconst 0, 1) := by decide +kernel
theorem dX7_atEnd_19 : decode cX7_atEnd 19 = .ok (.ireturn, 1) := by decide +kernel
theorem dX7_advance_0 : decode cX7_advance 0 = .ok (.aload_n 0, 1) := by decide +kernel
theorem dX7_advance_1 : decode cX7_advance 1 = .ok (.getfield 20, 3) := by decide +kernel
theorem dX7_advance_4 : decode cX7_advance 4 = .ok (.getfield 175, 3) := by decide +kernel
theorem dX7_advance_7 : decode cX7_advance 7 = .ok (.istore_n 1, 1) := by decide +kernel
theorem dX7_advance_8 : decode cX7_advance 8 = .ok (.aload_n 0, 1) := by decide +kernel
theorem dX7_advance_9 : decode cX7_advance 9 = .ok (.aload_n 0, 1) := by decide +kernel
theorem dX7_advance_10 : decode cX7_advance 10 = .ok (.getfield 66, 3) := by decide +kernel
theorem dX7_advance_13 : decode cX7_advance 13 = .ok (.putfield 34, 3) := by decide +kernel
theorem dX7_advance_16 : decode cX7_advance 16 = .ok (.aload_n 0, 1) := by decide +kernel
theorem dX7_advance_17 : decode cX7_advance 17 = .ok (.getfield 34, 3) := by decide +kernel
theorem dX7_advance_20 : decode cX7_advance 20 = .ok (.iload_n 1, 1) := by decide +kernel
theorem dX7_advance_21 : decode cX7_advance 21 = .ok (.if_icmp .ge 33, 3) := by decide +kernel
theorem dX7_advance_24 : decode cX7_advance 24 = .ok (.aload_n 0, 1) := by decide +kernel
theorem dX7_advance_25 : decode cX7_advance 25 = .ok (.getfield 20, 3) := by decide +kernel
theorem dX7_advance_28 : decode cX7_advance 28 = .ok (.getfield 165, 3) := by decide +kernel
theorem dX7_advance_31 : decode cX7_advance 31 = .ok (.aload_n 0, 1) := by decide +kernel
theorem dX7_advance_32 : decode cX7_advance 32 = .ok (.getfield 34, 3) := by decide +kernel
theorem dX7_advance_35 : decode cX7_advance 35 = .ok (.iaload, 1) := by decide +kernel
theorem dX7_advance_36 : decode cX7_advance 36 = .ok (.bipush 32, 2) := by decide +kernel
theorem dX7_advance_38 : decode cX7_advance 38 = .ok (.if_icmp .ne 16, 3) := by decide +kernel
theorem dX7_advance_41 : decode cX7_advance 41 = .ok (.aload_n 0, 1) := by decide +kernel
theorem dX7_advance_42 : decode cX7_advance 42 = .ok (.dup, 1) := by decide +kernel
theorem dX7_advance_43 : decode cX7_advance 43 = .ok (.getfield 34, 3) := by decide +kernel
theorem dX7_advance_46 : decode cX7_advance 46 = .ok (.iconst 1, 1) := by decide +kernel
theorem dX7_advance_47 : decode cX7_advance 47 = .ok (.iadd, 1) := by decide +kernel
theorem dX7_advance_48 : decode cX7_advance 48 = .ok (.putfield 34, 3) := by decide +kernel
theorem dX7_advance_51 : decode cX7_advance 51 = .ok (.goto (-35), 3) := by decide +kernel
theorem dX7_advance_54 : decode cX7_advance 54 = .ok (.aload_n 0, 1) := by decide +kernel
theorem dX7_advance_55 : decode cX7_advance 55 = .ok (.aload_n 0, 1) := by decide +kernel
theorem dX7_advance_56 : decode cX7_advance 56 = .ok (.getfield 34, 3) := by decide +kernel
theorem dX7_advance_59 : decode cX7_advance 59 = .ok (.putfield 66, 3) := by decide +kernel
theorem dX7_advance_62 : decode cX7_advance 62 = .ok (.aload_n 0, 1) := by decide +kernel
theorem dX7_advance_63 : decode cX7_advance 63 = .ok (.iconst (-1), 1) := by decide +kernel
theorem dX7_advance_64 : decode cX7_advance 64 = .ok (.putfield 156, 3) := by decide +kernel
theorem dX7_advance_67 : decode cX7_advance 67 = .ok (.aload_n 0, 1) := by decide +kernel
theorem dX7_advance_68 : decode cX7_advance 68 = .ok (.getfield 34, 3) := by decide +kernel
theorem dX7_advance_71 : decode cX7_advance 71 = .ok (.iload_n 1, 1) := by decide +kernel
theorem dX7_advance_72 : decode cX7_advance 72 = .ok (.if_icmp .lt 4, 3) := by decide +kernel
theorem dX7_advance_75 : decode cX7_advance 75 = .ok (.return_, 1) := by decide +kernel
theorem dX7_advance_76 : decode cX7_advance 76 = .ok (.aload_n 0, 1) := by decide +kernel
theorem dX7_advance_77 : decode cX7_advance 77 = .ok (.getfield 20, 3) := by decide +kernel
theorem dX7_advance_80 : decode cX7_advance 80 = .ok (.getfield 165, 3) := by decide +kernel
theorem dX7_advance_83 : decode cX7_advance 83 = .ok (.aload_n 0, 1) := by decide +kernel
theorem dX7_advance_84 : decode cX7_advance 84 = .ok (.getfield 34, 3) := by decide +kernel
theorem dX7_advance_87 : decode cX7_advance 87 = .ok (.iaload, 1) := by decide +kernel
theorem dX7_advance_88 : decode cX7_advance 88 = .ok (.invokestatic 177, 3) := by decide +kernel
theorem dX7_advance_91 : decode cX7_advance 91 = .ok (.ifCond .eq 81, 3) := by decide +kernel
theorem dX7_advance_94 : decode cX7_advance 94 = .ok (.aload_n 0, 1) := by decide +kernel
theorem dX7_advance_95 : decode cX7_advance 95 = .ok (.iconst 0, 1) := by decide +kernel
theorem dX7_advance_96 : decode cX7_advance 96 = .ok (.putfield 156, 3) := by decide +kernel
theorem dX7_advance_99 : decode cX7_advance 99 = .ok (.aload_n 0, 1) := by decide +kernel
theorem dX7_advance_100 : decode cX7_advance 100 = .ok (.getfield 66, 3) := by decide +kernel
theorem dX7_advance_103 : decode cX7_advance 103 = .ok (.iload_n 1, 1) := by decide +kernel
theorem dX7_advance_104 : decode cX7_advance 104 = .ok (.if_icmp .ge 67, 3) := by decide +kernel
theorem dX7_advance_107 : decode cX7_advance 107 = .ok (.aload_n 0, 1) := by decide +kernel
theorem dX7_advance_108 : decode cX7_advance 108 = .ok (.getfield 20, 3) := by decide +kernel
theorem dX7_advance_111 : decode cX7_advance 111 = .ok (.getfield 165, 3) := by decide +kernel
theorem dX7_advance_114 : decode cX7_advance 114 = .ok (.aload_n 0, 1) := by decide +kernel
theorem dX7_advance_115 : decode cX7_advance 115 = .ok (.getfield 66, 3) := by decide +kernel
theorem dX7_advance_118 : decode cX7_advance 118 = .ok (.iaload, 1) := by decide +kernel
theorem dX7_advance_119 : decode cX7_advance 119 = .ok (.invokestatic 177, 3) := by decide +kernel
theorem dX7_advance_122 : decode cX7_advance 122 = .ok (.ifCond .eq 49, 3) := by decide +kernel
theorem dX7_advance_125 : decode cX7_advance 125 = .ok (.aload_n 0, 1) := by decide +kernel
theorem dX7_advance_126 : decode cX7_advance 126 = .ok (.aload_n 0, 1) := by decide +kernel
theorem dX7_advance_127 : decode cX7_advance 127 = .ok (.getfield 156, 3) := by decide +kernel
theorem dX7_advance_130 : decode cX7_advance 130 = .ok (.bipush 10, 2) := by decide +kernel
theorem dX7_advance_132 : decode cX7_advance 132 = .ok (.imul, 1) := by decide +kernel
theorem dX7_advance_133 : decode cX7_advance 133 = .ok (.aload_n 0, 1) := by decide +kernel
theorem dX7_advance_134 : decode cX7_advance 134 = .ok (.getfield 20, 3) := by decide +kernel
theorem dX7_advance_137 : decode cX7_advance 137 = .ok (.getfield 165, 3) := by decide +kernel
theorem dX7_advance_140 : decode cX7_advance 140 = .ok (.aload_n 0, 1) := by decide +kernel
theorem dX7_advance_141 : decode cX7_advance 141 = .ok (.getfield 66, 3) := by decide +kernel
theorem dX7_advance_144 : decode cX7_advance 144 = .ok (.iaload, 1) := by decide +kernel
theorem dX7_advance_145 : decode cX7_advance 145 = .ok (.iadd, 1) := by decide +kernel
theorem dX7_advance_146 : decode cX7_advance 146 = .ok (.bipush 48, 2) := by decide +kernel
theorem dX7_advance_148 : decode cX7_advance 148 = .ok (.isub, 1) := by decide +kernel
theorem dX7_advance_149 : decode cX7_advance 149 = .ok (.sipush 1000, 3) := by decide +kernel
theorem dX7_advance_152 : decode cX7_advance 152 = .ok (.invokestatic 181, 3) := by decide +kernel
theorem dX7_advance_155 : decode cX7_advance 155 = .ok (.putfield 156, 3) := by decide +kernel
theorem dX7_advance_158 : decode cX7_advance 158 = .ok (.aload_n 0, 1) := by decide +kernel
theorem dX7_advance_159 : decode cX7_advance 159 = .ok (.dup, 1) := by decide +kernel
theorem dX7_advance_160 : decode cX7_advance 160 = .ok (.getfield 66, 3) := by decide +kernel
theorem dX7_advance_163 : decode cX7_advance 163 = .ok (.iconst 1, 1) := by decide +kernel
theorem dX7_advance_164 : decode cX7_advance 164 = .ok (.iadd, 1) := by decide +kernel
theorem dX7_advance_165 : decode cX7_advance 165 = .ok (.putfield 66, 3) := by decide +kernel
theorem dX7_advance_168 : decode cX7_advance 168 = .ok (.goto (-69), 3) := by decide +kernel
theorem dX7_advance_171 : decode cX7_advance 171 = .ok (.return_, 1) := by decide +kernel
theorem dX7_advance_172 : decode cX7_advance 172 = .ok (.aload_n 0, 1) := by decide +kernel
theorem dX7_advance_173 : decode cX7_advance 173 = .ok (.dup, 1) := by decide +kernel
theorem dX7_advance_174 : decode cX7_advance 174 = .ok (.getfield 66, 3) := by decide +kernel
theorem dX7_advance_177 : decode cX7_advance 177 = .ok (.iconst 1, 1) := by decide +kernel
theorem dX7_advance_178 : decode cX7_advance 178 = .ok (.iadd, 1) := by decide +kernel
theorem dX7_advance_179 : decode cX7_advance 179 = .ok (.putfield 66, 3) := by decide +kernel
theorem dX7_advance_182 : decode cX7_advance 182 = .ok (.aload_n 0, 1) := by decide +kernel
theorem dX7_advance_183 : decode cX7_advance 183 = .ok (.getfield 20, 3) := by decide +kernel
theorem dX7_advance_186 : decode cX7_advance 186 = .ok (.getfield 165, 3) := by decide +kernel
theorem dX7_advance_189 : decode cX7_advance 189 = .ok (.aload_n 0, 1) := by decide +kernel
theorem dX7_advance_190 : decode cX7_advance 190 = .ok (.getfield 34, 3) := by decide +kernel
theorem dX7_advance_193 : decode cX7_advance 193 = .ok (.iaload, 1) := by decide +kernel
theorem dX7_advance_194 : decode cX7_advance 194 = .ok (.invokestatic 187, 3) := by decide +kernel
theorem dX7_advance_197 : decode cX7_advance 197 = .ok (.ifCond .eq 42, 3) := by decide +kernel
theorem dX7_advance_200 : decode cX7_advance 200 = .ok (.aload_n 0, 1) := by decide +kernel
theorem dX7_advance_201 : decode cX7_advance 201 = .ok (.getfield 66, 3) := by decide +kernel
theorem dX7_advance_204 : decode cX7_advance 204 = .ok (.iload_n 1, 1) := by decide +kernel
theorem dX7_advance_205 : decode cX7_advance 205 = .ok (.if_icmp .ge 34, 3) := by decide +kernel
theorem dX7_advance_208 : decode cX7_advance 208 = .ok (.aload_n 0, 1) := by decide +kernel
theorem dX7_advance_209 : decode cX7_advance 209 = .ok (.getfield 20, 3) := by decide +kernel
theorem dX7_advance_212 : decode cX7_advance 212 = .ok (.getfield 165, 3) := by decide +kernel
theorem dX7_advance_215 : decode cX7_advance 215 = .ok (.aload_n 0, 1) := by decide +kernel
theorem dX7_advance_216 : decode cX7_advance 216 = .ok (.getfield 66, 3) := by decide +kernel
theorem dX7_advance_219 : decode cX7_advance 219 = .ok (.iaload, 1) := by decide +kernel
theorem dX7_advance_220 : decode cX7_advance 220 = .ok (.invokestatic 187, 3) := by decide +kernel
theorem dX7_advance_223 : decode cX7_advance 223 = .ok (.ifCond .eq 16, 3) := by decide +kernel
theorem dX7_advance_226 : decode cX7_advance 226 = .ok (.aload_n 0, 1) := by decide +kernel
theorem dX7_advance_227 : decode cX7_advance 227 = .ok (.dup, 1) := by decide +kernel
theorem dX7_advance_228 : decode cX7_advance 228 = .ok (.getfield 66, 3) := by decide +kernel
theorem dX7_advance_231 : decode cX7_advance 231 = .ok (.iconst 1, 1) := by decide +kernel
theorem dX7_advance_232 : decode cX7_advance 232 = .ok (.iadd, 1) := by decide +kernel
theorem dX7_advance_233 : decode cX7_advance 233 = .ok (.putfield 66, 3) := by decide +kernel
theorem dX7_advance_236 : decode cX7_advance 236 = .ok (.goto (-36), 3) := by decide +kernel
theorem dX7_advance_239 : decode cX7_advance 239 = .ok (.return_, 1) := by decide +kernel
theorem dX7_isLetter_0 : decode cX7_isLetter 0 = .ok (.iload_n 0, 1) := by decide +kernel
theorem dX7_isLetter_1 : decode cX7_isLetter 1 = .ok (.bipush 97, 2) := by decide +kernel
theorem dX7_isLetter_3 : decode cX7_isLetter 3 = .ok (.if_icmp .lt 13, 3) := by decide +kernel
theorem dX7_isLetter_6 : decode cX7_isLetter 6 = .ok (.iload_n 0, 1) := by decide +kernel
theorem dX7_isLetter_7 : decode cX7_isLetter 7 = .ok (.bipush 122, 2) := by decide +kernel
theorem dX7_isLetter_9 : decode cX7_isLetter 9 = .ok (.if_icmp .gt 7, 3) := by decide +kernel
theorem dX7_isLetter_12 : decode cX7_isLetter 12 = .ok (.iconst 1, 1) := by decide +kernel
theorem dX7_isLetter_13 : decode cX7_isLetter 13 = .ok (.goto 4, 3) := by decide +kernel
theorem dX7_isLetter_16 : decode cX7_isLetter 16 = .ok (.iconst 0, 1) := by decide +kernel
theorem dX7_isLetter_17 : decode cX7_isLetter 17 = .ok (.ireturn, 1) := by decide +kernel
theorem dX7_isDigit_0 : decode cX7_isDigit 0 = .ok (.iload_n 0, 1) := by decide +kernel
theorem dX7_isDigit_1 : decode cX7_isDigit 1 = .ok (.bipush 48, 2) := by decide +kernel
theorem dX7_isDigit_3 : decode cX7_isDigit 3 = .ok (.if_icmp .lt 13, 3) := by decide +kernel
theorem dX7_isDigit_6 : decode cX7_isDigit 6 = .ok (.iload_n 0, 1) := by decide +kernel
theorem dX7_isDigit_7 : decode cX7_isDigit 7 = .ok (.bipush 57, 2) := by decide +kernel
theorem dX7_isDigit_9 : decode cX7_isDigit 9 = .ok (.if_icmp .gt 7, 3) := by decide +kernel
theorem dX7_isDigit_12 : decode cX7_isDigit 12 = .ok (.iconst 1, 1) := by decide +kernel
theorem dX7_isDigit_13 : decode cX7_isDigit 13 = .ok (.goto 4, 3) := by decide +kernel
theorem dX7_isDigit_16 : decode cX7_isDigit 16 = .ok (.iconst 0, 1) := by decide +kernel
theorem dX7_isDigit_17 : decode cX7_isDigit 17 = .ok (.ireturn, 1) := by decide +kernel
theorem dX8_init_0 : decode cX8_init 0 = .ok (.aload_n 0, 1) := by decide +kernel
theorem dX8_init_1 : decode cX8_init 1 = .ok (.invokespecial 1, 3) := by decide +kernel
theorem dX8_init_4 : decode cX8_init 4 = .ok (.aload_n 0, 1) := by decide +kernel
theorem dX8_init_5 : decode cX8_init 5 = .ok (.lconst 1, 1) := by decide +kernel
theorem dX8_init_6 : decode cX8_init 6 = .ok (.putfield 7, 3) := by decide +kernel
theorem dX8_init_9 : decode cX8_init 9 = .ok (.return_, 1) := by decide +kernel
theorem dX8_put_0 : decode cX8_put 0 = .ok (.lload_n 1, 1) := by decide +kernel
theorem dX8_put_1 : decode cX8_put 1 = .ok (.invokestatic 13, 3) := by decide +kernel
theorem dX8_put_4 : decode cX8_put 4 = .ok (.lload_n 3, 1) := by decide +kernel
theorem dX8_put_5 : decode cX8_put 5 = .ok (.invokestatic 13, 3) := by decide +kernel
theorem dX8_put_8 : decode cX8_put 8 = .ok (.invokestatic 19, 3) := by decide +kernel
theorem dX8_put_11 : decode cX8_put 11 = .ok (.lload 5, 2) := by decide +kernel
theorem dX8_put_13 : decode cX8_put 13 = .ok (.invokestatic 19, 3) := by decide +kernel
theorem dX8_put_16 : decode cX8_put 16 = .ok (.lstore 7, 2) := by decide +kernel
theorem dX8_put_18 : decode cX8_put 18 = .ok (.lload 7, 2) := by decide +kernel
theorem dX8_put_20 : decode cX8_put 20 = .ok (.lconst 0, 1) := by decide +kernel
theorem dX8_put_21 : decode cX8_put 21 = .ok (.lcmp, 1) := by decide +kernel
theorem dX8_put_22 : decode cX8_put 22 = .ok (.ifCond .gt 19, 3) := by decide +kernel
theorem dX8_put_25 : decode cX8_put 25 = .ok (.aload_n 0, 1) := by decide +kernel
theorem dX8_put_26 : decode cX8_put 26 = .ok (.lconst 0, 1) := by decide +kernel
theorem dX8_put_27 : decode cX8_put 27 = .ok (.putfield 23, 3) := by decide +kernel
theorem dX8_put_30 : decode cX8_put 30 = .ok (.aload_n 0, 1) := by decide +kernel
theorem dX8_put_31 : decode cX8_put 31 = .ok (.lconst 0, 1) := by decide +kernel
theorem dX8_put_32 : decode cX8_put 32 = .ok (.putfield 26, 3) := by decide +kernel
theorem dX8_put_35 : decode cX8_put 35 = .ok (.aload_n 0, 1) := by decide +kernel
theorem dX8_put_36 : decode cX8_put 36 = .ok (.lconst 1, 1) := by decide +kernel
theorem dX8_put_37 : decode cX8_put 37 = .ok (.putfield 7, 3) := by decide +kernel
theorem dX8_put_40 : decode cX8_put 40 = .ok (.return_, 1) := by decide +kernel
theorem dX8_put_41 : decode cX8_put 41 = .ok (.aload_n 0, 1) := by decide +kernel
theorem dX8_put_42 : decode cX8_put 42 = .ok (.lload_n 1, 1) := by decide +kernel
theorem dX8_put_43 : decode cX8_put 43 = .ok (.lload 7, 2) := by decide +kernel
theorem dX8_put_45 : decode cX8_put 45 = .ok (.ldiv, 1) := by decide +kernel
theorem dX8_put_46 : decode cX8_put 46 = .ok (.putfield 23, 3) := by decide +kernel
theorem dX8_put_49 : decode cX8_put 49 = .ok (.aload_n 0, 1) := by decide +kernel
theorem dX8_put_50 : decode cX8_put 50 = .ok (.lload_n 3, 1) := by decide +kernel
theorem dX8_put_51 : decode cX8_put 51 = .ok (.lload 7, 2) := by decide +kernel
theorem dX8_put_53 : decode cX8_put 53 = .ok (.ldiv, 1) := by decide +kernel
theorem dX8_put_54 : decode cX8_put 54 = .ok (.putfield 26, 3) := by decide +kernel
theorem dX8_put_57 : decode cX8_put 57 = .ok (.aload_n 0, 1) := by decide +kernel
theorem dX8_put_58 : decode cX8_put 58 = .ok (.lload 5, 2) := by decide +kernel
theorem dX8_put_60 : decode cX8_put 60 = .ok (.lload 7, 2) := by decide +kernel
theorem dX8_put_62 : decode cX8_put 62 = .ok (.ldiv, 1) := by decide +kernel
theorem dX8_put_63 : decode cX8_put 63 = .ok (.putfield 7, 3) := by decide +kernel
theorem dX8_put_66 : decode cX8_put 66 = .ok (.return_, 1) := by decide +kernel
theorem dX8_copyShare_0 : decode cX8_copyShare 0 = .ok (.aload_n 0, 1) := by decide +kernel
theorem dX8_copyShare_1 : decode cX8_copyShare 1 = .ok (.aload_n 1, 1) := by decide +kernel
theorem dX8_copyShare_2 : decode cX8_copyShare 2 = .ok (.getfield 23, 3) := by decide +kernel
theorem dX8_copyShare_5 : decode cX8_copyShare 5 = .ok (.putfield 23, 3) := by decide +kernel
theorem dX8_copyShare_8 : decode cX8_copyShare 8 = .ok (.aload_n 0, 1) := by decide +kernel
theorem dX8_copyShare_9 : decode cX8_copyShare 9 = .ok (.aload_n 1, 1) := by decide +kernel
theorem dX8_copyShare_10 : decode cX8_copyShare 10 = .ok (.getfield 26, 3) := by decide +kernel
theorem dX8_copyShare_13 : decode cX8_copyShare 13 = .ok (.putfield 26, 3) := by decide +kernel
theorem dX8_copyShare_16 : decode cX8_copyShare 16 = .ok (.aload_n 0, 1) := by decide +kernel
theorem dX8_copyShare_17 : decode cX8_copyShare 17 = .ok (.aload_n 1, 1) := by decide +kernel
theorem dX8_copyShare_18 : decode cX8_copyShare 18 = .ok (.getfield 7, 3) := by decide +kernel
theorem dX8_copyShare_21 : decode cX8_copyShare 21 = .ok (.putfield 7, 3) := by decide +kernel
theorem dX8_copyShare_24 : decode cX8_copyShare 24 = .ok (.return_, 1) := by decide +kernel
theorem dX8_divisor_0 : decode cX8_divisor 0 = .ok (.lload_n 0, 1) := by decide +kernel
theorem dX8_divisor_1 : decode cX8_divisor 1 = .ok (.lstore 4, 2) := by decide +kernel
theorem dX8_divisor_3 : decode cX8_divisor 3 = .ok (.lload_n 2, 1) := by decide +kernel
theorem dX8_divisor_4 : decode cX8_divisor 4 = .ok (.lstore 6, 2) := by decide +kernel
theorem dX8_divisor_6 : decode cX8_divisor 6 = .ok (.iconst 0, 1) := by decide +kernel
theorem dX8_divisor_7 : decode cX8_divisor 7 = .ok (.istore 8, 2) := by decide +kernel
theorem dX8_divisor_9 : decode cX8_divisor 9 = .ok (.iload 8, 2) := by decide +kernel
theorem dX8_divisor_11 : decode cX8_divisor 11 = .ok (.sipush 200, 3) := by decide +kernel
theorem dX8_divisor_14 : decode cX8_divisor 14 = .ok (.if_icmp .ge 31, 3) := by decide +kernel
theorem dX8_divisor_17 : decode cX8_divisor 17 = .ok (.lload 6, 2) := by decide +kernel
theorem dX8_divisor_19 : decode cX8_divisor 19 = .ok (.lconst 0, 1) := by decide +kernel
theorem dX8_divisor_20 : decode cX8_divisor 20 = .ok (.lcmp, 1) := by decide +kernel
theorem dX8_divisor_21 : decode cX8_divisor 21 = .ok (.ifCond .eq 24, 3) := by decide +kernel
theorem dX8_divisor_24 : decode cX8_divisor 24 = .ok (.lload 4, 2) := by decide +kernel
theorem dX8_divisor_26 : decode cX8_divisor 26 = .ok (.lload 6, 2) := by decide +kernel
theorem dX8_divisor_28 : decode cX8_divisor 28 = .ok (.lrem, 1) := by decide +kernel
theorem dX8_divisor_29 : decode cX8_divisor 29 = .ok (.lstore 9, 2) := by decide +kernel
theorem dX8_divisor_31 : decode cX8_divisor 31 = .ok (.lload 6, 2) := by decide +kernel
theorem dX8_divisor_33 : decode cX8_divisor 33 = .ok (.lstore 4, 2) := by decide +kernel
theorem dX8_divisor_35 : decode cX8_divisor 35 = .ok (.lload 9, 2) := by decide +kernel
theorem dX8_divisor_37 : decode cX8_divisor 37 = .ok (.lstore 6, 2) := by decide +kernel
theorem dX8_divisor_39 : decode cX8_divisor 39 = .ok (.iinc 8 1, 3) := by decide +kernel
theorem dX8_divisor_42 : decode cX8_divisor 42 = .ok (.goto (-33), 3) := by decide +kernel
theorem dX8_divisor_45 : decode cX8_divisor 45 = .ok (.lload 4, 2) := by decide +kernel
theorem dX8_divisor_47 : decode cX8_divisor 47 = .ok (.lreturn, 1) := by decide +kernel
theorem dX8_part_0 : decode cX8_part 0 = .ok (.iload_n 1, 1) := by decide +kernel
theorem dX8_part_1 : decode cX8_part 1 = .ok (.ifCond .ne 8, 3) := by decide +kernel
theorem dX8_part_4 : decode cX8_part 4 = .ok (.aload_n 0, 1) := by decide +kernel
theorem dX8_part_5 : decode cX8_part 5 = .ok (.getfield 23, 3) := by decide +kernel
theorem dX8_part_8 : decode cX8_part 8 = .ok (.lreturn, 1) := by decide +kernel
theorem dX8_part_9 : decode cX8_part 9 = .ok (.iload_n 1, 1) := by decide +kernel
theorem dX8_part_10 : decode cX8_part 10 = .ok (.iconst 1, 1) := by decide +kernel
theorem dX8_part_11 : decode cX8_part 11 = .ok (.if_icmp .ne 10, 3) := by decide +kernel
theorem dX8_part_14 : decode cX8_part 14 = .ok (.aload_n 0, 1) := by decide +kernel
theorem dX8_part_15 : decode cX8_part 15 = .ok (.getfield 26, 3) := by decide +kernel
theorem dX8_part_18 : decode cX8_part 18 = .ok (.goto 7, 3) := by decide +kernel
theorem dX8_part_21 : decode cX8_part 21 = .ok (.aload_n 0, 1) := by decide +kernel
theorem dX8_part_22 : decode cX8_part 22 = .ok (.getfield 7, 3) := by decide +kernel
theorem dX8_part_25 : decode cX8_part 25 = .ok (.lreturn, 1) := by decide +kernel
theorem dX8_isZero_0 : decode cX8_isZero 0 = .ok (.aload_n 0, 1) := by decide +kernel
theorem dX8_isZero_1 : decode cX8_isZero 1 = .ok (.getfield 23, 3) := by decide +kernel
theorem dX8_isZero_4 : decode cX8_isZero 4 = .ok (.lconst 0, 1) := by decide +kernel
theorem dX8_isZero_5 : decode cX8_isZero 5 = .ok (.lcmp, 1) := by decide +kernel
theorem dX8_isZero_6 : decode cX8_isZero 6 = .ok (.ifCond .ne 16, 3) := by decide +kernel
theorem dX8_isZero_9 : decode cX8_isZero 9 = .ok (.aload_n 0, 1) := by decide +kernel
theorem dX8_isZero_10 : decode cX8_isZero 10 = .ok (.getfield 26, 3) := by decide +kernel
theorem dX8_isZero_13 : decode cX8_isZero 13 = .ok (.lconst 0, 1) := by decide +kernel
theorem dX8_isZero_14 : decode cX8_isZero 14 = .ok (.lcmp, 1) := by decide +kernel
theorem dX8_isZero_15 : decode cX8_isZero 15 = .ok (.ifCond .ne 7, 3) := by decide +kernel
theorem dX8_isZero_18 : decode cX8_isZero 18 = .ok (.iconst 1, 1) := by decide +kernel
theorem dX8_isZero_19 : decode cX8_isZero 19 = .ok (.goto 4, 3) := by decide +kernel
theorem dX8_isZero_22 : decode cX8_isZero 22 = .ok (.iconst 0, 1) := by decide +kernel
theorem dX8_isZero_23 : decode cX8_isZero 23 = .ok (.ireturn, 1) := by decide +kernel
theorem dX8_thousandths_0 : decode cX8_thousandths 0 = .ok (.aload_n 0, 1) := by decide +kernel
theorem dX8_thousandths_1 : decode cX8_thousandths 1 = .ok (.getfield 7, 3) := by decide +kernel
theorem dX8_thousandths_4 : decode cX8_thousandths 4 = .ok (.lconst 0, 1) := by decide +kernel
theorem dX8_thousandths_5 : decode cX8_thousandths 5 = .ok (.lcmp, 1) := by decide +kernel
theorem dX8_thousandths_6 : decode cX8_thousandths 6 = .ok (.ifCond .gt 5, 3) := by decide +kernel
theorem dX8_thousandths_9 : decode cX8_thousandths 9 = .ok (.iconst 0, 1) := by decide +kernel
theorem dX8_thousandths_10 : decode cX8_thousandths 10 = .ok (.ireturn, 1) := by decide +kernel
theorem dX8_thousandths_11 : decode cX8_thousandths 11 = .ok (.aload_n 0, 1) := by decide +kernel
theorem dX8_thousandths_12 : decode cX8_thousandths 12 = .ok (.getfield 23, 3) := by decide +kernel
theorem dX8_thousandths_15 : decode cX8_thousandths 15 = .ok (.aload_n 0, 1) := by decide +kernel
theorem dX8_thousandths_16 : decode cX8_thousandths 16 = .ok (.getfield 26, 3) := by decide +kernel
theorem dX8_thousandths_19 : decode cX8_thousandths 19 = .ok (.ldc2_w 29, 3) := by decide +kernel
theorem dX8_thousandths_22 : decode cX8_thousandths 22 = .ok (.lmul, 1) := by decide +kernel
theorem dX8_thousandths_23 : decode cX8_thousandths 23 = .ok (.ldc2_w 31, 3) := by decide +kernel
theorem dX8_thousandths_26 : decode cX8_thousandths 26 = .ok (.ldiv, 1) := by decide +kernel
theorem dX8_thousandths_27 : decode cX8_thousandths 27 = .ok (.ladd, 1) := by decide +kernel
theorem dX8_thousandths_28 : decode cX8_thousandths 28 = .ok (.ldc2_w 31, 3) := by decide +kernel
theorem dX8_thousandths_31 : decode cX8_thousandths 31 = .ok (.lmul, 1) := by decide +kernel
theorem dX8_thousandths_32 : decode cX8_thousandths 32 = .ok (.aload_n 0, 1) := by decide +kernel
theorem dX8_thousandths_33 : decode cX8_thousandths 33 = .ok (.getfield 7, 3) := by decide +kernel
theorem dX8_thousandths_36 : decode cX8_thousandths 36 = .ok (.ldiv, 1) := by decide +kernel
theorem dX8_thousandths_37 : decode cX8_thousandths 37 = .ok (.l2i, 1) := by decide +kernel
theorem dX8_thousandths_38 : decode cX8_thousandths 38 = .ok (.ireturn, 1) := by decide +kernel
theorem dX8_compareShare_0 : decode cX8_compareShare 0 = .ok (.aload_n 0, 1) := by decide +kernel
theorem dX8_compareShare_1 : decode cX8_compareShare 1 = .ok (.getfield 7, 3) := by decide +kernel
theorem dX8_compareShare_4 : decode cX8_compareShare 4 = .ok (.aload_n 1, 1) := by decide +kernel
theorem dX8_compareShare_5 : decode cX8_compareShare 5 = .ok (.getfield 7, 3) := by decide +kernel
theorem dX8_compareShare_8 : decode cX8_compareShare 8 = .ok (.invokestatic 19, 3) := by decide +kernel
theorem dX8_compareShare_11 : decode cX8_compareShare 11 = .ok (.lstore_n 2, 1) := by decide +kernel
theorem dX8_compareShare_12 : decode cX8_compareShare 12 = .ok (.lload_n 2, 1) := by decide +kernel
theorem dX8_compareShare_13 : decode cX8_compareShare 13 = .ok (.lconst 0, 1) := by decide +kernel
theorem dX8_compareShare_14 : decode cX8_compareShare 14 = .ok (.lcmp, 1) := by decide +kernel
theorem dX8_compareShare_15 : decode cX8_compareShare 15 = .ok (.ifCond .gt 5, 3) := by decide +kernel
theorem dX8_compareShare_18 : decode cX8_compareShare 18 = .ok (.iconst 0, 1) := by decide +kernel
theorem dX8_compareShare_19 : decode cX8_compareShare 19 = .ok (.ireturn, 1) := by decide +kernel
theorem dX8_compareShare_20 : decode cX8_compareShare 20 = .ok (.aload_n 1, 1) := by decide +kernel
theorem dX8_compareShare_21 : decode cX8_compareShare 21 = .ok (.getfield 7, 3) := by decide +kernel
theorem dX8_compareShare_24 : decode cX8_compareShare 24 = .ok (.lload_n 2, 1) := by decide +kernel
theorem dX8_compareShare_25 : decode cX8_compareShare 25 = .ok (.ldiv, 1) := by decide +kernel
theorem dX8_compareShare_26 : decode cX8_compareShare 26 = .ok (.lstore 4, 2) := by decide +kernel
theorem dX8_compareShare_28 : decode cX8_compareShare 28 = .ok (.aload_n 0, 1) := by decide +kernel
theorem dX8_compareShare_29 : decode cX8_compareShare 29 = .ok (.getfield 7, 3) := by decide +kernel
theorem dX8_compareShare_32 : decode cX8_compareShare 32 = .ok (.lload_n 2, 1) := by decide +kernel
theorem dX8_compareShare_33 : decode cX8_compareShare 33 = .ok (.ldiv, 1) := by decide +kernel
theorem dX8_compareShare_34 : decode cX8_compareShare 34 = .ok (.lstore 6, 2) := by decide +kernel
theorem dX8_compareShare_36 : decode cX8_compareShare 36 = .ok (.aload_n 0, 1) := by decide +kernel
theorem dX8_compareShare_37 : decode cX8_compareShare 37 = .ok (.getfield 23, 3) := by decide +kernel
theorem dX8_compareShare_40 : decode cX8_compareShare 40 = .ok (.lload 4, 2) := by decide +kernel
theorem dX8_compareShare_42 : decode cX8_compareShare 42 = .ok (.lmul, 1) := by decide +kernel
theorem dX8_compareShare_43 : decode cX8_compareShare 43 = .ok (.aload_n 1, 1) := by decide +kernel
theorem dX8_compareShare_44 : decode cX8_compareShare 44 = .ok (.getfield 23, 3) := by decide +kernel
theorem dX8_compareShare_47 : decode cX8_compareShare 47 = .ok (.lload 6, 2) := by decide +kernel
theorem dX8_compareShare_49 : decode cX8_compareShare 49 = .ok (.lmul, 1) := by decide +kernel
theorem dX8_compareShare_50 : decode cX8_compareShare 50 = .ok (.lsub, 1) := by decide +kernel
theorem dX8_compareShare_51 : decode cX8_compareShare 51 = .ok (.aload_n 0, 1) := by decide +kernel
theorem dX8_compareShare_52 : decode cX8_compareShare 52 = .ok (.getfield 26, 3) := by decide +kernel
theorem dX8_compareShare_55 : decode cX8_compareShare 55 = .ok (.lload 4, 2) := by decide +kernel
theorem dX8_compareShare_57 : decode cX8_compareShare 57 = .ok (.lmul, 1) := by decide +kernel
theorem dX8_compareShare_58 : decode cX8_compareShare 58 = .ok (.aload_n 1, 1) := by decide +kernel
theorem dX8_compareShare_59 : decode cX8_compareShare 59 = .ok (.getfield 26, 3) := by decide +kernel
theorem dX8_compareShare_62 : decode cX8_compareShare 62 = .ok (.lload 6, 2) := by decide +kernel
theorem dX8_compareShare_64 : decode cX8_compareShare 64 = .ok (.lmul, 1) := by decide +kernel
theorem dX8_compareShare_65 : decode cX8_compareShare 65 = .ok (.lsub, 1) := by decide +kernel
theorem dX8_compareShare_66 : decode cX8_compareShare 66 = .ok (.invokestatic 33, 3) := by decide +kernel
theorem dX8_compareShare_69 : decode cX8_compareShare 69 = .ok (.ireturn, 1) := by decide +kernel
theorem dX8_signOf_0 : decode cX8_signOf 0 = .ok (.lload_n 0, 1) := by decide +kernel
theorem dX8_signOf_1 : decode cX8_signOf 1 = .ok (.lconst 0, 1) := by decide +kernel
theorem dX8_signOf_2 : decode cX8_signOf 2 = .ok (.lcmp, 1) := by decide +kernel
theorem dX8_signOf_3 : decode cX8_signOf 3 = .ok (.ifCond .lt 27, 3) := by decide +kernel
theorem dX8_signOf_6 : decode cX8_signOf 6 = .ok (.lload_n 2, 1) := by decide +kernel
theorem dX8_signOf_7 : decode cX8_signOf 7 = .ok (.lconst 0, 1) := by decide +kernel
theorem dX8_signOf_8 : decode cX8_signOf 8 = .ok (.lcmp, 1) := by decide +kernel
theorem dX8_signOf_9 : decode cX8_signOf 9 = .ok (.ifCond .lt 21, 3) := by decide +kernel
theorem dX8_signOf_12 : decode cX8_signOf 12 = .ok (.lload_n 0, 1) := by decide +kernel
theorem dX8_signOf_13 : decode cX8_signOf 13 = .ok (.lconst 0, 1) := by decide +kernel
theorem dX8_signOf_14 : decode cX8_signOf 14 = .ok (.lcmp, 1) := by decide +kernel
theorem dX8_signOf_15 : decode cX8_signOf 15 = .ok (.ifCond .ne 13, 3) := by decide +kernel
theorem dX8_signOf_18 : decode cX8_signOf 18 = .ok (.lload_n 2, 1) := by decide +kernel
theorem dX8_signOf_19 : decode cX8_signOf 19 = .ok (.lconst 0, 1) := by decide +kernel
theorem dX8_signOf_20 : decode cX8_signOf 20 = .ok (.lcmp, 1) := by decide +kernel
theorem dX8_signOf_21 : decode cX8_signOf 21 = .ok (.ifCond .ne 7, 3) := by decide +kernel
theorem dX8_signOf_24 : decode cX8_signOf 24 = .ok (.iconst 0, 1) := by decide +kernel
theorem dX8_signOf_25 : decode cX8_signOf 25 = .ok (.goto 4, 3) := by decide +kernel
theorem dX8_signOf_28 : decode cX8_signOf 28 = .ok (.iconst 1, 1) := by decide +kernel
theorem dX8_signOf_29 : decode cX8_signOf 29 = .ok (.ireturn, 1) := by decide +kernel
theorem dX8_signOf_30 : decode cX8_signOf 30 = .ok (.lload_n 0, 1) := by decide +kernel
theorem dX8_signOf_31 : decode cX8_signOf 31 = .ok (.lconst 0, 1) := by decide +kernel
theorem dX8_signOf_32 : decode cX8_signOf 32 = .ok (.lcmp, 1) := by decide +kernel
theorem dX8_signOf_33 : decode cX8_signOf 33 = .ok (.ifCond .gt 11, 3) := by decide +kernel
theorem dX8_signOf_36 : decode cX8_signOf 36 = .ok (.lload_n 2, 1) := by decide +kernel
theorem dX8_signOf_37 : decode cX8_signOf 37 = .ok (.lconst 0, 1) := by decide +kernel
theorem dX8_signOf_38 : decode cX8_signOf 38 = .ok (.lcmp, 1) := by decide +kernel
theorem dX8_signOf_39 : decode cX8_signOf 39 = .ok (.ifCond .gt 5, 3) := by decide +kernel
theorem dX8_signOf_42 : decode cX8_signOf 42 = .ok (.iconst (-1), 1) := by decide +kernel
theorem dX8_signOf_43 : decode cX8_signOf 43 = .ok (.ireturn, 1) := by decide +kernel
theorem dX8_signOf_44 : decode cX8_signOf 44 = .ok (.lload_n 0, 1) := by decide +kernel
theorem dX8_signOf_45 : decode cX8_signOf 45 = .ok (.lconst 0, 1) := by decide +kernel
theorem dX8_signOf_46 : decode cX8_signOf 46 = .ok (.lcmp, 1) := by decide +kernel
theorem dX8_signOf_47 : decode cX8_signOf 47 = .ok (.ifCond .le 7, 3) := by decide +kernel
theorem dX8_signOf_50 : decode cX8_signOf 50 = .ok (.iconst 1, 1) := by decide +kernel
theorem dX8_signOf_51 : decode cX8_signOf 51 = .ok (.goto 4, 3) := by decide +kernel
theorem dX8_signOf_54 : decode cX8_signOf 54 = .ok (.iconst (-1), 1) := by decide +kernel
theorem dX8_signOf_55 : decode cX8_signOf 55 = .ok (.istore 4, 2) := by decide +kernel
theorem dX8_signOf_57 : decode cX8_signOf 57 = .ok (.lload_n 0, 1) := by decide +kernel
theorem dX8_signOf_58 : decode cX8_signOf 58 = .ok (.invokestatic 13, 3) := by decide +kernel
theorem dX8_signOf_61 : decode cX8_signOf 61 = .ok (.lstore 5, 2) := by decide +kernel
theorem dX8_signOf_63 : decode cX8_signOf 63 = .ok (.lload_n 2, 1) := by decide +kernel
theorem dX8_signOf_64 : decode cX8_signOf 64 = .ok (.invokestatic 13, 3) := by decide +kernel
theorem dX8_signOf_67 : decode cX8_signOf 67 = .ok (.lstore 7, 2) := by decide +kernel
theorem dX8_signOf_69 : decode cX8_signOf 69 = .ok (.iconst 0, 1) := by decide +kernel
theorem dX8_signOf_70 : decode cX8_signOf 70 = .ok (.istore 9, 2) := by decide +kernel
theorem dX8_signOf_72 : decode cX8_signOf 72 = .ok (.iload 9, 2) := by decide +kernel
theorem dX8_signOf_74 : decode cX8_signOf 74 = .ok (.sipush 200, 3) := by decide +kernel
theorem dX8_signOf_77 : decode cX8_signOf 77 = .ok (.if_icmp .ge 63, 3) := by decide +kernel
theorem dX8_signOf_80 : decode cX8_signOf 80 = .ok (.lload 5, 2) := by decide +kernel
theorem dX8_signOf_82 : decode cX8_signOf 82 = .ok (.ldc2_w 37, 3) := by decide +kernel
theorem dX8_signOf_85 : decode cX8_signOf 85 = .ok (.lload 7, 2) := by decide +kernel
theorem dX8_signOf_87 : decode cX8_signOf 87 = .ok (.lmul, 1) := by decide +kernel
theorem dX8_signOf_88 : decode cX8_signOf 88 = .ok (.lcmp, 1) := by decide +kernel
theorem dX8_signOf_89 : decode cX8_signOf 89 = .ok (.ifCond .lt 6, 3) := by decide +kernel
theorem dX8_signOf_92 : decode cX8_signOf 92 = .ok (.iload 4, 2) := by decide +kernel
theorem dX8_signOf_94 : decode cX8_signOf 94 = .ok (.ireturn, 1) := by decide +kernel
theorem dX8_signOf_95 : decode cX8_signOf 95 = .ok (.lload 5, 2) := by decide +kernel
theorem dX8_signOf_97 : decode cX8_signOf 97 = .ok (.lload 7, 2) := by decide +kernel
theorem dX8_signOf_99 : decode cX8_signOf 99 = .ok (.lcmp, 1) := by decide +kernel
theorem dX8_signOf_100 : decode cX8_signOf 100 = .ok (.ifCond .gt 7, 3) := by decide +kernel
theorem dX8_signOf_103 : decode cX8_signOf 103 = .ok (.iload 4, 2) := by decide +kernel
theorem dX8_signOf_105 : decode cX8_signOf 105 = .ok (.ineg, 1) := by decide +kernel
theorem dX8_signOf_106 : decode cX8_signOf 106 = .ok (.ireturn, 1) := by decide +kernel
theorem dX8_signOf_107 : decode cX8_signOf 107 = .ok (.lload 5, 2) := by decide +kernel
theorem dX8_signOf_109 : decode cX8_signOf 109 = .ok (.lload 7, 2) := by decide +kernel
theorem dX8_signOf_111 : decode cX8_signOf 111 = .ok (.lsub, 1) := by decide +kernel
theorem dX8_signOf_112 : decode cX8_signOf 112 = .ok (.lstore 10, 2) := by decide +kernel
theorem dX8_signOf_114 : decode cX8_signOf 114 = .ok (.ldc2_w 37, 3) := by decide +kernel
theorem dX8_signOf_117 : decode cX8_signOf 117 = .ok (.lload 7, 2) := by decide +kernel
theorem dX8_signOf_119 : decode cX8_signOf 119 = .ok (.lmul, 1) := by decide +kernel
theorem dX8_signOf_120 : decode cX8_signOf 120 = .ok (.lload 5, 2) := by decide +kernel
theorem dX8_signOf_122 : decode cX8_signOf 122 = .ok (.lsub, 1) := by decide +kernel
theorem dX8_signOf_123 : decode cX8_signOf 123 = .ok (.lstore 5, 2) := by decide +kernel
theorem dX8_signOf_125 : decode cX8_signOf 125 = .ok (.lload 10, 2) := by decide +kernel
theorem dX8_signOf_127 : decode cX8_signOf 127 = .ok (.lstore 7, 2) := by decide +kernel
theorem dX8_signOf_129 : decode cX8_signOf 129 = .ok (.iload 4, 2) := by decide +kernel
theorem dX8_signOf_131 : decode cX8_signOf 131 = .ok (.ineg, 1) := by decide +kernel
theorem dX8_signOf_132 : decode cX8_signOf 132 = .ok (.istore 4, 2) := by decide +kernel
theorem dX8_signOf_134 : decode cX8_signOf 134 = .ok (.iinc 9 1, 3) := by decide +kernel
theorem dX8_signOf_137 : decode cX8_signOf 137 = .ok (.goto (-65), 3) := by decide +kernel
theorem dX8_signOf_140 : decode cX8_signOf 140 = .ok (.iconst 0, 1) := by decide +kernel
theorem dX8_signOf_141 : decode cX8_signOf 141 = .ok (.ireturn, 1) := by decide +kernel
theorem dX9_init_0 : decode cX9_init 0 = .ok (.aload_n 0, 1) := by decide +kernel
theorem dX9_init_1 : decode cX9_init 1 = .ok (.invokespecial 3, 3) := by decide +kernel
theorem dX9_init_4 : decode cX9_init 4 = .ok (.aload_n 0, 1) := by decide +kernel
theorem dX9_init_5 : decode cX9_init 5 = .ok (.sipush 400, 3) := by decide +kernel
theorem dX9_init_8 : decode cX9_init 8 = .ok (.newarray .int, 2) := by decide +kernel
theorem dX9_init_10 : decode cX9_init 10 = .ok (.putfield 9, 3) := by decide +kernel
theorem dX9_init_13 : decode cX9_init 13 = .ok (.return_, 1) := by decide +kernel
theorem dX9_hasRoom_0 : decode cX9_hasRoom 0 = .ok (.aload_n 0, 1) := by decide +kernel
theorem dX9_hasRoom_1 : decode cX9_hasRoom 1 = .ok (.getfield 15, 3) := by decide +kernel
theorem dX9_hasRoom_4 : decode cX9_hasRoom 4 = .ok (.iload_n 1, 1) := by decide +kernel
theorem dX9_hasRoom_5 : decode cX9_hasRoom 5 = .ok (.iadd, 1) := by decide +kernel
theorem dX9_hasRoom_6 : decode cX9_hasRoom 6 = .ok (.sipush 400, 3) := by decide +kernel
theorem dX9_hasRoom_9 : decode cX9_hasRoom 9 = .ok (.if_icmp .gt 7, 3) := by decide +kernel
theorem dX9_hasRoom_12 : decode cX9_hasRoom 12 = .ok (.iconst 1, 1) := by decide +kernel
theorem dX9_hasRoom_13 : decode cX9_hasRoom 13 = .ok (.goto 4, 3) := by decide +kernel
theorem dX9_hasRoom_16 : decode cX9_hasRoom 16 = .ok (.iconst 0, 1) := by decide +kernel
theorem dX9_hasRoom_17 : decode cX9_hasRoom 17 = .ok (.ireturn, 1) := by decide +kernel
theorem dX9_write_0 : decode cX9_write 0 = .ok (.bipush 24, 2) := by decide +kernel
theorem dX9_write_2 : decode cX9_write 2 = .ok (.istore_n 2, 1) := by decide +kernel
theorem dX9_write_3 : decode cX9_write 3 = .ok (.iload_n 2, 1) := by decide +kernel
theorem dX9_write_4 : decode cX9_write 4 = .ok (.ifCond .lt 45, 3) := by decide +kernel
theorem dX9_write_7 : decode cX9_write 7 = .ok (.aload_n 0, 1) := by decide +kernel
theorem dX9_write_8 : decode cX9_write 8 = .ok (.getfield 15, 3) := by decide +kernel
theorem dX9_write_11 : decode cX9_write 11 = .ok (.sipush 400, 3) := by decide +kernel
theorem dX9_write_14 : decode cX9_write 14 = .ok (.if_icmp .ge 35, 3) := by decide +kernel
theorem dX9_write_17 : decode cX9_write 17 = .ok (.aload_n 0, 1) := by decide +kernel
theorem dX9_write_18 : decode cX9_write 18 = .ok (.getfield 9, 3) := by decide +kernel
theorem dX9_write_21 : decode cX9_write 21 = .ok (.aload_n 0, 1) := by decide +kernel
theorem dX9_write_22 : decode cX9_write 22 = .ok (.getfield 15, 3) := by decide +kernel
theorem dX9_write_25 : decode cX9_write 25 = .ok (.iload_n 1, 1) := by decide +kernel
theorem dX9_write_26 : decode cX9_write 26 = .ok (.iload_n 2, 1) := by decide +kernel
theorem dX9_write_27 : decode cX9_write 27 = .ok (.ishr, 1) := by decide +kernel
theorem dX9_write_28 : decode cX9_write 28 = .ok (.sipush 255, 3) := by decide +kernel
theorem dX9_write_31 : decode cX9_write 31 = .ok (.iand, 1) := by decide +kernel
theorem dX9_write_32 : decode cX9_write 32 = .ok (.iastore, 1) := by decide +kernel
theorem dX9_write_33 : decode cX9_write 33 = .ok (.aload_n 0, 1) := by decide +kernel
theorem dX9_write_34 : decode cX9_write 34 = .ok (.dup, 1) := by decide +kernel
theorem dX9_write_35 : decode cX9_write 35 = .ok (.getfield 15, 3) := by decide +kernel
theorem dX9_write_38 : decode cX9_write 38 = .ok (.iconst 1, 1) := by decide +kernel
theorem dX9_write_39 : decode cX9_write 39 = .ok (.iadd, 1) := by decide +kernel
theorem dX9_write_40 : decode cX9_write 40 = .ok (.putfield 15, 3) := by decide +kernel
theorem dX9_write_43 : decode cX9_write 43 = .ok (.iinc 2 (-8), 3) := by decide +kernel
theorem dX9_write_46 : decode cX9_write 46 = .ok (.goto (-43), 3) := by decide +kernel
theorem dX9_write_49 : decode cX9_write 49 = .ok (.return_, 1) := by decide +kernel
theorem dX10_init_0 : decode cX10_init 0 = .ok (.aload_n 0, 1) := by decide +kernel
theorem dX10_init_1 : decode cX10_init 1 = .ok (.invokespecial 3, 3) := by decide +kernel
theorem dX10_init_4 : decode cX10_init 4 = .ok (.aload_n 0, 1) := by decide +kernel
theorem dX10_init_5 : decode cX10_init 5 = .ok (.new 9, 3) := by decide +kernel
theorem dX10_init_8 : decode cX10_init 8 = .ok (.dup, 1) := by decide +kernel
theorem dX10_init_9 : decode cX10_init 9 = .ok (.invokespecial 11, 3) := by decide +kernel
theorem dX10_init_12 : decode cX10_init 12 = .ok (.putfield 12, 3) := by decide +kernel
theorem dX10_init_15 : decode cX10_init 15 = .ok (.aload_n 0, 1) := by decide +kernel
theorem dX10_init_16 : decode cX10_init 16 = .ok (.new 16, 3) := by decide +kernel
theorem dX10_init_19 : decode cX10_init 19 = .ok (.dup, 1) := by decide +kernel
theorem dX10_init_20 : decode cX10_init 20 = .ok (.aload_n 0, 1) := by decide +kernel
theorem dX10_init_21 : decode cX10_init 21 = .ok (.getfield 12, 3) := by decide +kernel
theorem dX10_init_24 : decode cX10_init 24 = .ok (.invokespecial 18, 3) := by decide +kernel
theorem dX10_init_27 : decode cX10_init 27 = .ok (.putfield 21, 3) := by decide +kernel
theorem dX10_init_30 : decode cX10_init 30 = .ok (.aload_n 0, 1) := by decide +kernel
theorem dX10_init_31 : decode cX10_init 31 = .ok (.iconst 4, 1) := by decide +kernel
theorem dX10_init_32 : decode cX10_init 32 = .ok (.anewarray 25, 3) := by decide +kernel
theorem dX10_init_35 : decode cX10_init 35 = .ok (.putfield 27, 3) := by decide +kernel
theorem dX10_init_38 : decode cX10_init 38 = .ok (.aload_n 0, 1) := by decide +kernel
theorem dX10_init_39 : decode cX10_init 39 = .ok (.iconst 4, 1) := by decide +kernel
theorem dX10_init_40 : decode cX10_init 40 = .ok (.anewarray 31, 3) := by decide +kernel
theorem dX10_init_43 : decode cX10_init 43 = .ok (.putfield 33, 3) := by decide +kernel
theorem dX10_init_46 : decode cX10_init 46 = .ok (.iconst 0, 1) := by decide +kernel
theorem dX10_init_47 : decode cX10_init 47 = .ok (.istore_n 1, 1) := by decide +kernel
theorem dX10_init_48 : decode cX10_init 48 = .ok (.iload_n 1, 1) := by decide +kernel
theorem dX10_init_49 : decode cX10_init 49 = .ok (.iconst 4, 1) := by decide +kernel
theorem dX10_init_50 : decode cX10_init 50 = .ok (.if_icmp .ge 37, 3) := by decide +kernel
theorem dX10_init_53 : decode cX10_init 53 = .ok (.aload_n 0, 1) := by decide +kernel
theorem dX10_init_54 : decode cX10_init 54 = .ok (.getfield 27, 3) := by decide +kernel
theorem dX10_init_57 : decode cX10_init 57 = .ok (.iload_n 1, 1) := by decide +kernel
theorem dX10_init_58 : decode cX10_init 58 = .ok (.new 25, 3) := by decide +kernel
theorem dX10_init_61 : decode cX10_init 61 = .ok (.dup, 1) := by decide +kernel
theorem dX10_init_62 : decode cX10_init 62 = .ok (.bipush 16, 2) := by decide +kernel
theorem dX10_init_64 : decode cX10_init 64 = .ok (.invokespecial 37, 3) := by decide +kernel
theorem dX10_init_67 : decode cX10_init 67 = .ok (.aastore, 1) := by decide +kernel
theorem dX10_init_68 : decode cX10_init 68 = .ok (.aload_n 0, 1) := by decide +kernel
theorem dX10_init_69 : decode cX10_init 69 = .ok (.getfield 33, 3) := by decide +kernel
theorem dX10_init_72 : decode cX10_init 72 = .ok (.iload_n 1, 1) := by decide +kernel
theorem dX10_init_73 : decode cX10_init 73 = .ok (.new 31, 3) := by decide +kernel
theorem dX10_init_76 : decode cX10_init 76 = .ok (.dup, 1) := by decide +kernel
theorem dX10_init_77 : decode cX10_init 77 = .ok (.invokespecial 40, 3) := by decide +kernel
theorem dX10_init_80 : decode cX10_init 80 = .ok (.aastore, 1) := by decide +kernel
theorem dX10_init_81 : decode cX10_init 81 = .ok (.iinc 1 1, 3) := by decide +kernel
theorem dX10_init_84 : decode cX10_init 84 = .ok (.goto (-36), 3) := by decide +kernel
theorem dX10_init_87 : decode cX10_init 87 = .ok (.aload_n 0, 1) := by decide +kernel
theorem dX10_init_88 : decode cX10_init 88 = .ok (.new 25, 3) := by decide +kernel
theorem dX10_init_91 : decode cX10_init 91 = .ok (.dup, 1) := by decide +kernel
theorem dX10_init_92 : decode cX10_init 92 = .ok (.bipush 8, 2) := by decide +kernel
theorem dX10_init_94 : decode cX10_init 94 = .ok (.invokespecial 37, 3) := by decide +kernel
theorem dX10_init_97 : decode cX10_init 97 = .ok (.putfield 41, 3) := by decide +kernel
theorem dX10_init_100 : decode cX10_init 100 = .ok (.aload_n 0, 1) := by decide +kernel
theorem dX10_init_101 : decode cX10_init 101 = .ok (.new 45, 3) := by decide +kernel
theorem dX10_init_104 : decode cX10_init 104 = .ok (.dup, 1) := by decide +kernel
theorem dX10_init_105 : decode cX10_init 105 = .ok (.invokespecial 47, 3) := by decide +kernel
theorem dX10_init_108 : decode cX10_init 108 = .ok (.putfield 48, 3) := by decide +kernel
theorem dX10_init_111 : decode cX10_init 111 = .ok (.aload_n 0, 1) := by decide +kernel
theorem dX10_init_112 : decode cX10_init 112 = .ok (.new 52, 3) := by decide +kernel
theorem dX10_init_115 : decode cX10_init 115 = .ok (.dup, 1) := by decide +kernel
theorem dX10_init_116 : decode cX10_init 116 = .ok (.invokespecial 54, 3) := by decide +kernel
theorem dX10_init_119 : decode cX10_init 119 = .ok (.putfield 55, 3) := by decide +kernel
theorem dX10_init_122 : decode cX10_init 122 = .ok (.aload_n 0, 1) := by decide +kernel
theorem dX10_init_123 : decode cX10_init 123 = .ok (.new 59, 3) := by decide +kernel
theorem dX10_init_126 : decode cX10_init 126 = .ok (.dup, 1) := by decide +kernel
theorem dX10_init_127 : decode cX10_init 127 = .ok (.aload_n 0, 1) := by decide +kernel
theorem dX10_init_128 : decode cX10_init 128 = .ok (.getfield 41, 3) := by decide +kernel
theorem dX10_init_131 : decode cX10_init 131 = .ok (.invokespecial 61, 3) := by decide +kernel
theorem dX10_init_134 : decode cX10_init 134 = .ok (.putfield 64, 3) := by decide +kernel
theorem dX10_init_137 : decode cX10_init 137 = .ok (.aload_n 0, 1) := by decide +kernel
theorem dX10_init_138 : decode cX10_init 138 = .ok (.new 68, 3) := by decide +kernel
theorem dX10_init_141 : decode cX10_init 141 = .ok (.dup, 1) := by decide +kernel
theorem dX10_init_142 : decode cX10_init 142 = .ok (.bipush 17, 2) := by decide +kernel
theorem dX10_init_144 : decode cX10_init 144 = .ok (.invokespecial 70, 3) := by decide +kernel
theorem dX10_init_147 : decode cX10_init 147 = .ok (.putfield 71, 3) := by decide +kernel
theorem dX10_init_150 : decode cX10_init 150 = .ok (.aload_n 0, 1) := by decide +kernel
theorem dX10_init_151 : decode cX10_init 151 = .ok (.new 68, 3) := by decide +kernel
theorem dX10_init_154 : decode cX10_init 154 = .ok (.dup, 1) := by decide +kernel
theorem dX10_init_155 : decode cX10_init 155 = .ok (.bipush 17, 2) := by decide +kernel
theorem dX10_init_157 : decode cX10_init 157 = .ok (.invokespecial 70, 3) := by decide +kernel
theorem dX10_init_160 : decode cX10_init 160 = .ok (.putfield 75, 3) := by decide +kernel
theorem dX10_init_163 : decode cX10_init 163 = .ok (.aload_n 0, 1) := by decide +kernel
theorem dX10_init_164 : decode cX10_init 164 = .ok (.new 78, 3) := by decide +kernel
theorem dX10_init_167 : decode cX10_init 167 = .ok (.dup, 1) := by decide +kernel
theorem dX10_init_168 : decode cX10_init 168 = .ok (.invokespecial 80, 3) := by decide +kernel
theorem dX10_init_171 : decode cX10_init 171 = .ok (.putfield 81, 3) := by decide +kernel
theorem dX10_init_174 : decode cX10_init 174 = .ok (.aload_n 0, 1) := by decide +kernel
theorem dX10_init_175 : decode cX10_init 175 = .ok (.iconst 3, 1) := by decide +kernel
theorem dX10_init_176 : decode cX10_init 176 = .ok (.newarray .int, 2) := by decide +kernel
theorem dX10_init_178 : decode cX10_init 178 = .ok (.putfield 85, 3) := by decide +kernel
theorem dX10_init_181 : decode cX10_init 181 = .ok (.aload_n 0, 1) := by decide +kernel
theorem dX10_init_182 : decode cX10_init 182 = .ok (.iconst 5, 1) := by decide +kernel
theorem dX10_init_183 : decode cX10_init 183 = .ok (.newarray .int, 2) := by decide +kernel
theorem dX10_init_185 : decode cX10_init 185 = .ok (.putfield 89, 3) := by decide +kernel
theorem dX10_init_188 : decode cX10_init 188 = .ok (.aload_n 0, 1) := by decide +kernel
theorem dX10_init_189 : decode cX10_init 189 = .ok (.iconst (-1), 1) := by decide +kernel
theorem dX10_init_190 : decode cX10_init 190 = .ok (.putfield 92, 3) := by decide +kernel
theorem dX10_init_193 : decode cX10_init 193 = .ok (.return_, 1) := by decide +kernel
theorem dX10_grain_0 : decode cX10_grain 0 = .ok (.iload_n 1, 1) := by decide +kernel
theorem dX10_grain_1 : decode cX10_grain 1 = .ok (.ifCond .lt 9, 3) := by decide +kernel
theorem dX10_grain_4 : decode cX10_grain 4 = .ok (.iload_n 1, 1) := by decide +kernel
theorem dX10_grain_5 : decode cX10_grain 5 = .ok (.bipush 10, 2) := by decide +kernel
theorem dX10_grain_7 : decode cX10_grain 7 = .ok (.if_icmp .lt 9, 3) := by decide +kernel
theorem dX10_grain_10 : decode cX10_grain 10 = .ok (.aload_n 0, 1) := by decide +kernel
theorem dX10_grain_11 : decode cX10_grain 11 = .ok (.iconst (-1), 1) := by decide +kernel
theorem dX10_grain_12 : decode cX10_grain 12 = .ok (.invokevirtual 96, 3) := by decide +kernel
theorem dX10_grain_15 : decode cX10_grain 15 = .ok (.ireturn, 1) := by decide +kernel
theorem dX10_grain_16 : decode cX10_grain 16 = .ok (.aload_n 0, 1) := by decide +kernel
theorem dX10_grain_17 : decode cX10_grain 17 = .ok (.getfield 100, 3) := by decide +kernel
theorem dX10_grain_20 : decode cX10_grain 20 = .ok (.iconst 3, 1) := by decide +kernel
theorem dX10_grain_21 : decode cX10_grain 21 = .ok (.if_icmp .lt 10, 3) := by decide +kernel
theorem dX10_grain_24 : decode cX10_grain 24 = .ok (.aload_n 0, 1) := by decide +kernel
theorem dX10_grain_25 : decode cX10_grain 25 = .ok (.bipush (-5), 2) := by decide +kernel
theorem dX10_grain_27 : decode cX10_grain 27 = .ok (.invokevirtual 96, 3) := by decide +kernel
theorem dX10_grain_30 : decode cX10_grain 30 = .ok (.ireturn, 1) := by decide +kernel
theorem dX10_grain_31 : decode cX10_grain 31 = .ok (.aload_n 0, 1) := by decide +kernel
theorem dX10_grain_32 : decode cX10_grain 32 = .ok (.getfield 85, 3) := by decide +kernel
theorem dX10_grain_35 : decode cX10_grain 35 = .ok (.aload_n 0, 1) := by decide +kernel
theorem dX10_grain_36 : decode cX10_grain 36 = .ok (.getfield 100, 3) := by decide +kernel
theorem dX10_grain_39 : decode cX10_grain 39 = .ok (.iload_n 1, 1) := by decide +kernel
theorem dX10_grain_40 : decode cX10_grain 40 = .ok (.iconst 1, 1) := by decide +kernel
theorem dX10_grain_41 : decode cX10_grain 41 = .ok (.iadd, 1) := by decide +kernel
theorem dX10_grain_42 : decode cX10_grain 42 = .ok (.iastore, 1) := by decide +kernel
theorem dX10_grain_43 : decode cX10_grain 43 = .ok (.aload_n 0, 1) := by decide +kernel
theorem dX10_grain_44 : decode cX10_grain 44 = .ok (.dup, 1) := by decide +kernel
theorem dX10_grain_45 : decode cX10_grain 45 = .ok (.getfield 100, 3) := by decide +kernel
theorem dX10_grain_48 : decode cX10_grain 48 = .ok (.iconst 1, 1) := by decide +kernel
theorem dX10_grain_49 : decode cX10_grain 49 = .ok (.iadd, 1) := by decide +kernel
theorem dX10_grain_50 : decode cX10_grain 50 = .ok (.putfield 100, 3) := by decide +kernel
theorem dX10_grain_53 : decode cX10_grain 53 = .ok (.aload_n 0, 1) := by decide +kernel
theorem dX10_grain_54 : decode cX10_grain 54 = .ok (.invokevirtual 103, 3) := by decide +kernel
theorem dX10_grain_57 : decode cX10_grain 57 = .ok (.aload_n 0, 1) := by decide +kernel
theorem dX10_grain_58 : decode cX10_grain 58 = .ok (.aload_n 0, 1) := by decide +kernel
theorem dX10_grain_59 : decode cX10_grain 59 = .ok (.getfield 100, 3) := by decide +kernel
theorem dX10_grain_62 : decode cX10_grain 62 = .ok (.invokevirtual 106, 3) := by decide +kernel
theorem dX10_grain_65 : decode cX10_grain 65 = .ok (.ireturn, 1) := by decide +kernel
theorem dX10_clear_0 : decode cX10_clear 0 = .ok (.aload_n 0, 1) := by decide +kernel
theorem dX10_clear_1 : decode cX10_clear 1 = .ok (.getfield 100, 3) := by decide +kernel
theorem dX10_clear_4 : decode cX10_clear 4 = .ok (.istore_n 1, 1) := by decide +kernel
theorem dX10_clear_5 : decode cX10_clear 5 = .ok (.aload_n 0, 1) := by decide +kernel
theorem dX10_clear_6 : decode cX10_clear 6 = .ok (.iconst 0, 1) := by decide +kernel
theorem dX10_clear_7 : decode cX10_clear 7 = .ok (.putfield 100, 3) := by decide +kernel
theorem dX10_clear_10 : decode cX10_clear 10 = .ok (.iconst 0, 1) := by decide +kernel
theorem dX10_clear_11 : decode cX10_clear 11 = .ok (.istore_n 2, 1) := by decide +kernel
theorem dX10_clear_12 : decode cX10_clear 12 = .ok (.iload_n 2, 1) := by decide +kernel
theorem dX10_clear_13 : decode cX10_clear 13 = .ok (.iconst 3, 1) := by decide +kernel
theorem dX10_clear_14 : decode cX10_clear 14 = .ok (.if_icmp .ge 16, 3) := by decide +kernel
theorem dX10_clear_17 : decode cX10_clear 17 = .ok (.aload_n 0, 1) := by decide +kernel
theorem dX10_clear_18 : decode cX10_clear 18 = .ok (.getfield 85, 3) := by decide +kernel
theorem dX10_clear_21 : decode cX10_clear 21 = .ok (.iload_n 2, 1) := by decide +kernel
theorem dX10_clear_22 : decode cX10_clear 22 = .ok (.iconst 0, 1) := by decide +kernel
theorem dX10_clear_23 : decode cX10_clear 23 = .ok (.iastore, 1) := by decide +kernel
theorem dX10_clear_24 : decode cX10_clear 24 = .ok (.iinc 2 1, 3) := by decide +kernel
theorem dX10_clear_27 : decode cX10_clear 27 = .ok (.goto (-15), 3) := by decide +kernel
theorem dX10_clear_30 : decode cX10_clear 30 = .ok (.aload_n 0, 1) := by decide +kernel
theorem dX10_clear_31 : decode cX10_clear 31 = .ok (.invokevirtual 103, 3) := by decide +kernel
theorem dX10_clear_34 : decode cX10_clear 34 = .ok (.iload_n 1, 1) := by decide +kernel
theorem dX10_clear_35 : decode cX10_clear 35 = .ok (.ireturn, 1) := by decide +kernel
theorem dX10_feed_0 : decode cX10_feed 0 = .ok (.aload_n 0, 1) := by decide +kernel
theorem dX10_feed_1 : decode cX10_feed 1 = .ok (.getfield 12, 3) := by decide +kernel
theorem dX10_feed_4 : decode cX10_feed 4 = .ok (.bipush 20, 2) := by decide +kernel
theorem dX10_feed_6 : decode cX10_feed 6 = .ok (.invokevirtual 109, 3) := by decide +kernel
theorem dX10_feed_9 : decode cX10_feed 9 = .ok (.ifCond .ne 5, 3) := by decide +kernel
theorem dX10_feed_12 : decode cX10_feed 12 = .ok (.iconst (-1), 1) := by decide +kernel
theorem dX10_feed_13 : decode cX10_feed 13 = .ok (.ireturn, 1) := by decide +kernel
theorem dX10_feed_14 : decode cX10_feed 14 = .ok (.aload_n 0, 1) := by decide +kernel
theorem dX10_feed_15 : decode cX10_feed 15 = .ok (.getfield 12, 3) := by decide +kernel
theorem dX10_feed_18 : decode cX10_feed 18 = .ok (.iload_n 1, 1) := by decide +kernel
theorem dX10_feed_19 : decode cX10_feed 19 = .ok (.invokevirtual 113, 3) := by decide +kernel
theorem dX10_feed_22 : decode cX10_feed 22 = .ok (.aload_n 0, 1) := by decide +kernel
theorem dX10_feed_23 : decode cX10_feed 23 = .ok (.getfield 12, 3) := by decide +kernel
theorem dX10_feed_26 : decode cX10_feed 26 = .ok (.iload_n 2, 1) := by decide +kernel
theorem dX10_feed_27 : decode cX10_feed 27 = .ok (.invokevirtual 113, 3) := by decide +kernel
theorem dX10_feed_30 : decode cX10_feed 30 = .ok (.aload_n 0, 1) := by decide +kernel
theorem dX10_feed_31 : decode cX10_feed 31 = .ok (.getfield 12, 3) := by decide +kernel
theorem dX10_feed_34 : decode cX10_feed 34 = .ok (.iload_n 3, 1) := by decide +kernel
theorem dX10_feed_35 : decode cX10_feed 35 = .ok (.invokevirtual 113, 3) := by decide +kernel
theorem dX10_feed_38 : decode cX10_feed 38 = .ok (.aload_n 0, 1) := by decide +kernel
theorem dX10_feed_39 : decode cX10_feed 39 = .ok (.getfield 12, 3) := by decide +kernel
theorem dX10_feed_42 : decode cX10_feed 42 = .ok (.iload 4, 2) := by decide +kernel
theorem dX10_feed_44 : decode cX10_feed 44 = .ok (.invokevirtual 113, 3) := by decide +kernel
theorem dX10_feed_47 : decode cX10_feed 47 = .ok (.aload_n 0, 1) := by decide +kernel
theorem dX10_feed_48 : decode cX10_feed 48 = .ok (.getfield 12, 3) := by decide +kernel
theorem dX10_feed_51 : decode cX10_feed 51 = .ok (.iload 5, 2) := by decide +kernel
theorem dX10_feed_53 : decode cX10_feed 53 = .ok (.invokevirtual 113, 3) := by decide +kernel
theorem dX10_feed_56 : decode cX10_feed 56 = .ok (.aload_n 0, 1) := by decide +kernel
theorem dX10_feed_57 : decode cX10_feed 57 = .ok (.getfield 12, 3) := by decide +kernel
theorem dX10_feed_60 : decode cX10_feed 60 = .ok (.getfield 116, 3) := by decide +kernel
theorem dX10_feed_63 : decode cX10_feed 63 = .ok (.ireturn, 1) := by decide +kernel
theorem dX10_end_0 : decode cX10_end 0 = .ok (.iload_n 1, 1) := by decide +kernel
theorem dX10_end_1 : decode cX10_end 1 = .ok (.ifCond .lt 14, 3) := by decide +kernel
theorem dX10_end_4 : decode cX10_end 4 = .ok (.iload_n 1, 1) := by decide +kernel
theorem dX10_end_5 : decode cX10_end 5 = .ok (.aload_n 0, 1) := by decide +kernel
theorem dX10_end_6 : decode cX10_end 6 = .ok (.getfield 12, 3) := by decide +kernel
theorem dX10_end_9 : decode cX10_end 9 = .ok (.getfield 116, 3) := by decide +kernel
theorem dX10_end_12 : decode cX10_end 12 = .ok (.if_icmp .le 5, 3) := by decide +kernel
theorem dX10_end_15 : decode cX10_end 15 = .ok (.iconst (-1), 1) := by decide +kernel
theorem dX10_end_16 : decode cX10_end 16 = .ok (.ireturn, 1) := by decide +kernel
theorem dX10_end_17 : decode cX10_end 17 = .ok (.aload_n 0, 1) := by decide +kernel
theorem dX10_end_18 : decode cX10_end 18 = .ok (.getfield 12, 3) := by decide +kernel
theorem dX10_end_21 : decode cX10_end 21 = .ok (.iload_n 1, 1) := by decide +kernel
theorem dX10_end_22 : decode cX10_end 22 = .ok (.putfield 116, 3) := by decide +kernel
theorem dX10_end_25 : decode cX10_end 25 = .ok (.iload_n 1, 1) := by decide +kernel
theorem dX10_end_26 : decode cX10_end 26 = .ok (.ireturn, 1) := by decide +kernel
theorem dX10_bench_0 : decode cX10_bench 0 = .ok (.iload_n 1, 1) := by decide +kernel
theorem dX10_bench_1 : decode cX10_bench 1 = .ok (.invokestatic 119, 3) := by decide +kernel
theorem dX10_bench_4 : decode cX10_bench 4 = .ok (.ifCond .ne 18, 3) := by decide +kernel
theorem dX10_bench_7 : decode cX10_bench 7 = .ok (.aload_n 0, 1) := by decide +kernel
theorem dX10_bench_8 : decode cX10_bench 8 = .ok (.getfield 12, 3) := by decide +kernel
theorem dX10_bench_11 : decode cX10_bench 11 = .ok (.iconst 0, 1) := by decide +kernel
theorem dX10_bench_12 : decode cX10_bench 12 = .ok (.putfield 116, 3) := by decide +kernel
theorem dX10_bench_15 : decode cX10_bench 15 = .ok (.aload_n 0, 1) := by decide +kernel
theorem dX10_bench_16 : decode cX10_bench 16 = .ok (.bipush (-2), 2) := by decide +kernel
theorem dX10_bench_18 : decode cX10_bench 18 = .ok (.invokevirtual 96, 3) := by decide +kernel
theorem dX10_bench_21 : decode cX10_bench 21 = .ok (.ireturn, 1) := by decide +kernel
theorem dX10_bench_22 : decode cX10_bench 22 = .ok (.aload_n 0, 1) := by decide +kernel
theorem dX10_bench_23 : decode cX10_bench 23 = .ok (.aload_n 0, 1) := by decide +kernel
theorem dX10_bench_24 : decode cX10_bench 24 = .ok (.getfield 21, 3) := by decide +kernel
theorem dX10_bench_27 : decode cX10_bench 27 = .ok (.invokevirtual 122, 3) := by decide +kernel
theorem dX10_bench_30 : decode cX10_bench 30 = .ok (.putfield 92, 3) := by decide +kernel
theorem dX10_bench_33 : decode cX10_bench 33 = .ok (.aload_n 0, 1) := by decide +kernel
theorem dX10_bench_34 : decode cX10_bench 34 = .ok (.getfield 12, 3) := by decide +kernel
theorem dX10_bench_37 : decode cX10_bench 37 = .ok (.iconst 0, 1) := by decide +kernel
theorem dX10_bench_38 : decode cX10_bench 38 = .ok (.putfield 116, 3) := by decide +kernel
theorem dX10_bench_41 : decode cX10_bench 41 = .ok (.aload_n 0, 1) := by decide +kernel
theorem dX10_bench_42 : decode cX10_bench 42 = .ok (.getfield 92, 3) := by decide +kernel
theorem dX10_bench_45 : decode cX10_bench 45 = .ok (.iconst (-1), 1) := by decide +kernel
theorem dX10_bench_46 : decode cX10_bench 46 = .ok (.if_icmp .eq 10, 3) := by decide +kernel
theorem dX10_bench_49 : decode cX10_bench 49 = .ok (.aload_n 0, 1) := by decide +kernel
theorem dX10_bench_50 : decode cX10_bench 50 = .ok (.bipush (-6), 2) := by decide +kernel
theorem dX10_bench_52 : decode cX10_bench 52 = .ok (.invokevirtual 96, 3) := by decide +kernel
theorem dX10_bench_55 : decode cX10_bench 55 = .ok (.ireturn, 1) := by decide +kernel
theorem dX10_bench_56 : decode cX10_bench 56 = .ok (.aload_n 0, 1) := by decide +kernel
theorem dX10_bench_57 : decode cX10_bench 57 = .ok (.getfield 27, 3) := by decide +kernel
theorem dX10_bench_60 : decode cX10_bench 60 = .ok (.iload_n 1, 1) := by decide +kernel
theorem dX10_bench_61 : decode cX10_bench 61 = .ok (.aaload, 1) := by decide +kernel
theorem dX10_bench_62 : decode cX10_bench 62 = .ok (.aload_n 0, 1) := by decide +kernel
theorem dX10_bench_63 : decode cX10_bench 63 = .ok (.getfield 21, 3) := by decide +kernel
theorem dX10_bench_66 : decode cX10_bench 66 = .ok (.getfield 126, 3) := by decide +kernel
theorem dX10_bench_69 : decode cX10_bench 69 = .ok (.invokevirtual 129, 3) := by decide +kernel
theorem dX10_bench_72 : decode cX10_bench 72 = .ok (.aload_n 0, 1) := by decide +kernel
theorem dX10_bench_73 : decode cX10_bench 73 = .ok (.getfield 33, 3) := by decide +kernel
theorem dX10_bench_76 : decode cX10_bench 76 = .ok (.iload_n 1, 1) := by decide +kernel
theorem dX10_bench_77 : decode cX10_bench 77 = .ok (.aaload, 1) := by decide +kernel
theorem dX10_bench_78 : decode cX10_bench 78 = .ok (.iconst 0, 1) := by decide +kernel
theorem dX10_bench_79 : decode cX10_bench 79 = .ok (.putfield 132, 3) := by decide +kernel
theorem dX10_bench_82 : decode cX10_bench 82 = .ok (.aload_n 0, 1) := by decide +kernel
theorem dX10_bench_83 : decode cX10_bench 83 = .ok (.aload_n 0, 1) := by decide +kernel
theorem dX10_bench_84 : decode cX10_bench 84 = .ok (.getfield 27, 3) := by decide +kernel
theorem dX10_bench_87 : decode cX10_bench 87 = .ok (.iload_n 1, 1) := by decide +kernel
theorem dX10_bench_88 : decode cX10_bench 88 = .ok (.aaload, 1) := by decide +kernel
theorem dX10_bench_89 : decode cX10_bench 89 = .ok (.getfield 136, 3) := by decide +kernel
theorem dX10_bench_92 : decode cX10_bench 92 = .ok (.invokevirtual 106, 3) := by decide +kernel
theorem dX10_bench_95 : decode cX10_bench 95 = .ok (.ireturn, 1) := by decide +kernel
theorem dX10_shelf_0 : decode cX10_shelf 0 = .ok (.aload_n 0, 1) := by decide +kernel
theorem dX10_shelf_1 : decode cX10_shelf 1 = .ok (.getfield 41, 3) := by decide +kernel
theorem dX10_shelf_4 : decode cX10_shelf 4 = .ok (.getfield 136, 3) := by decide +kernel
theorem dX10_shelf_7 : decode cX10_shelf 7 = .ok (.bipush 8, 2) := by decide +kernel
theorem dX10_shelf_9 : decode cX10_shelf 9 = .ok (.if_icmp .lt 18, 3) := by decide +kernel
theorem dX10_shelf_12 : decode cX10_shelf 12 = .ok (.aload_n 0, 1) := by decide +kernel
theorem dX10_shelf_13 : decode cX10_shelf 13 = .ok (.getfield 12, 3) := by decide +kernel
theorem dX10_shelf_16 : decode cX10_shelf 16 = .ok (.iconst 0, 1) := by decide +kernel
theorem dX10_shelf_17 : decode cX10_shelf 17 = .ok (.putfield 116, 3) := by decide +kernel
theorem dX10_shelf_20 : decode cX10_shelf 20 = .ok (.aload_n 0, 1) := by decide +kernel
theorem dX10_shelf_21 : decode cX10_shelf 21 = .ok (.bipush (-5), 2) := by decide +kernel
theorem dX10_shelf_23 : decode cX10_shelf 23 = .ok (.invokevirtual 96, 3) := by decide +kernel
theorem dX10_shelf_26 : decode cX10_shelf 26 = .ok (.ireturn, 1) := by decide +kernel
theorem dX10_shelf_27 : decode cX10_shelf 27 = .ok (.aload_n 0, 1) := by decide +kernel
theorem dX10_shelf_28 : decode cX10_shelf 28 = .ok (.aload_n 0, 1) := by decide +kernel
theorem dX10_shelf_29 : decode cX10_shelf 29 = .ok (.getfield 21, 3) := by decide +kernel
theorem dX10_shelf_32 : decode cX10_shelf 32 = .ok (.invokevirtual 139, 3) := by decide +kernel
theorem dX10_shelf_35 : decode cX10_shelf 35 = .ok (.putfield 92, 3) := by decide +kernel
theorem dX10_shelf_38 : decode cX10_shelf 38 = .ok (.aload_n 0, 1) := by decide +kernel
theorem dX10_shelf_39 : decode cX10_shelf 39 = .ok (.getfield 12, 3) := by decide +kernel
theorem dX10_shelf_42 : decode cX10_shelf 42 = .ok (.iconst 0, 1) := by decide +kernel
theorem dX10_shelf_43 : decode cX10_shelf 43 = .ok (.putfield 116, 3) := by decide +kernel
theorem dX10_shelf_46 : decode cX10_shelf 46 = .ok (.aload_n 0, 1) := by decide +kernel
theorem dX10_shelf_47 : decode cX10_shelf 47 = .ok (.getfield 92, 3) := by decide +kernel
theorem dX10_shelf_50 : decode cX10_shelf 50 = .ok (.iconst (-1), 1) := by decide +kernel
theorem dX10_shelf_51 : decode cX10_shelf 51 = .ok (.if_icmp .eq 10, 3) := by decide +kernel
theorem dX10_shelf_54 : decode cX10_shelf 54 = .ok (.aload_n 0, 1) := by decide +kernel
theorem dX10_shelf_55 : decode cX10_shelf 55 = .ok (.bipush (-6), 2) := by decide +kernel
theorem dX10_shelf_57 : decode cX10_shelf 57 = .ok (.invokevirtual 96, 3) := by decide +kernel
theorem dX10_shelf_60 : decode cX10_shelf 60 = .ok (.ireturn, 1) := by decide +kernel
theorem dX10_shelf_61 : decode cX10_shelf 61 = .ok (.aload_n 0, 1) := by decide +kernel
theorem dX10_shelf_62 : decode cX10_shelf 62 = .ok (.getfield 41, 3) := by decide +kernel
theorem dX10_shelf_65 : decode cX10_shelf 65 = .ok (.aload_n 0, 1) := by decide +kernel
theorem dX10_shelf_66 : decode cX10_shelf 66 = .ok (.getfield 21, 3) := by decide +kernel
theorem dX10_shelf_69 : decode cX10_shelf 69 = .ok (.getfield 126, 3) := by decide +kernel
theorem dX10_shelf_72 : decode cX10_shelf 72 = .ok (.getfield 142, 3) := by decide +kernel
theorem dX10_shelf_75 : decode cX10_shelf 75 = .ok (.iconst 0, 1) := by decide +kernel
theorem dX10_shelf_76 : decode cX10_shelf 76 = .ok (.aaload, 1) := by decide +kernel
theorem dX10_shelf_77 : decode cX10_shelf 77 = .ok (.invokevirtual 146, 3) := by decide +kernel
theorem dX10_shelf_80 : decode cX10_shelf 80 = .ok (.aload_n 0, 1) := by decide +kernel
theorem dX10_shelf_81 : decode cX10_shelf 81 = .ok (.aload_n 0, 1) := by decide +kernel
theorem dX10_shelf_82 : decode cX10_shelf 82 = .ok (.getfield 41, 3) := by decide +kernel
theorem dX10_shelf_85 : decode cX10_shelf 85 = .ok (.getfield 136, 3) := by decide +kernel
theorem dX10_shelf_88 : decode cX10_shelf 88 = .ok (.iconst 1, 1) := by decide +kernel
theorem dX10_shelf_89 : decode cX10_shelf 89 = .ok (.isub, 1) := by decide +kernel
theorem dX10_shelf_90 : decode cX10_shelf 90 = .ok (.invokevirtual 106, 3) := by decide +kernel
theorem dX10_shelf_93 : decode cX10_shelf 93 = .ok (.ireturn, 1) := by decide +kernel
theorem dX10_fault_0 : decode cX10_fault 0 = .ok (.aload_n 0, 1) := by decide +kernel
theorem dX10_fault_1 : decode cX10_fault 1 = .ok (.getfield 92, 3) := by decide +kernel
theorem dX10_fault_4 : decode cX10_fault 4 = .ok (.ireturn, 1) := by decide +kernel
theorem dX10_deep_0 : decode cX10_deep 0 = .ok (.iload_n 1, 1) := by decide +kernel
theorem dX10_deep_1 : decode cX10_deep 1 = .ok (.invokestatic 119, 3) := by decide +kernel
theorem dX10_deep_4 : decode cX10_deep 4 = .ok (.ifCond .eq 19, 3) := by decide +kernel
theorem dX10_deep_7 : decode cX10_deep 7 = .ok (.aload_n 0, 1) := by decide +kernel
theorem dX10_deep_8 : decode cX10_deep 8 = .ok (.getfield 27, 3) := by decide +kernel
theorem dX10_deep_11 : decode cX10_deep 11 = .ok (.iload_n 1, 1) := by decide +kernel
theorem dX10_deep_12 : decode cX10_deep 12 = .ok (.aaload, 1) := by decide +kernel
theorem dX10_deep_13 : decode cX10_deep 13 = .ok (.aload_n 0, 1) := by decide +kernel
theorem dX10_deep_14 : decode cX10_deep 14 = .ok (.getfield 100, 3) := by decide +kernel
theorem dX10_deep_17 : decode cX10_deep 17 = .ok (.invokevirtual 150, 3) := by decide +kernel
theorem dX10_deep_20 : decode cX10_deep 20 = .ok (.goto 4, 3) := by decide +kernel
theorem dX10_deep_23 : decode cX10_deep 23 = .ok (.iconst (-1), 1) := by decide +kernel
theorem dX10_deep_24 : decode cX10_deep 24 = .ok (.ireturn, 1) := by decide +kernel
theorem dX10_way_0 : decode cX10_way 0 = .ok (.iload_n 1, 1) := by decide +kernel
theorem dX10_way_1 : decode cX10_way 1 = .ok (.invokestatic 119, 3) := by decide +kernel
theorem dX10_way_4 : decode cX10_way 4 = .ok (.ifCond .eq 23, 3) := by decide +kernel
theorem dX10_way_7 : decode cX10_way 7 = .ok (.iload_n 2, 1) := by decide +kernel
theorem dX10_way_8 : decode cX10_way 8 = .ok (.ifCond .lt 19, 3) := by decide +kernel
theorem dX10_way_11 : decode cX10_way 11 = .ok (.iload_n 2, 1) := by decide +kernel
theorem dX10_way_12 : decode cX10_way 12 = .ok (.bipush 10, 2) := by decide +kernel
theorem dX10_way_14 : decode cX10_way 14 = .ok (.if_icmp .ge 13, 3) := by decide +kernel
theorem dX10_way_17 : decode cX10_way 17 = .ok (.iload_n 3, 1) := by decide +kernel
theorem dX10_way_18 : decode cX10_way 18 = .ok (.ifCond .lt 9, 3) := by decide +kernel
theorem dX10_way_21 : decode cX10_way 21 = .ok (.iload_n 3, 1) := by decide +kernel
theorem dX10_way_22 : decode cX10_way 22 = .ok (.bipush 10, 2) := by decide +kernel
theorem dX10_way_24 : decode cX10_way 24 = .ok (.if_icmp .lt 6, 3) := by decide +kernel
theorem dX10_way_27 : decode cX10_way 27 = .ok (.ldc 153, 2) := by decide +kernel
theorem dX10_way_29 : decode cX10_way 29 = .ok (.ireturn, 1) := by decide +kernel
theorem dX10_way_30 : decode cX10_way 30 = .ok (.aload_n 0, 1) := by decide +kernel
theorem dX10_way_31 : decode cX10_way 31 = .ok (.getfield 27, 3) := by decide +kernel
theorem dX10_way_34 : decode cX10_way 34 = .ok (.iload_n 1, 1) := by decide +kernel
theorem dX10_way_35 : decode cX10_way 35 = .ok (.aaload, 1) := by decide +kernel
theorem dX10_way_36 : decode cX10_way 36 = .ok (.iconst 1, 1) := by decide +kernel
theorem dX10_way_37 : decode cX10_way 37 = .ok (.invokevirtual 150, 3) := by decide +kernel
theorem dX10_way_40 : decode cX10_way 40 = .ok (.istore 5, 2) := by decide +kernel
theorem dX10_way_42 : decode cX10_way 42 = .ok (.iload 5, 2) := by decide +kernel
theorem dX10_way_44 : decode cX10_way 44 = .ok (.ldc 154, 2) := by decide +kernel
theorem dX10_way_46 : decode cX10_way 46 = .ok (.if_icmp .gt 14, 3) := by decide +kernel
theorem dX10_way_49 : decode cX10_way 49 = .ok (.iload 4, 2) := by decide +kernel
theorem dX10_way_51 : decode cX10_way 51 = .ok (.ifCond .lt 9, 3) := by decide +kernel
theorem dX10_way_54 : decode cX10_way 54 = .ok (.iload 4, 2) := by decide +kernel
theorem dX10_way_56 : decode cX10_way 56 = .ok (.iconst 4, 1) := by decide +kernel
theorem dX10_way_57 : decode cX10_way 57 = .ok (.if_icmp .le 6, 3) := by decide +kernel
theorem dX10_way_60 : decode cX10_way 60 = .ok (.ldc 153, 2) := by decide +kernel
theorem dX10_way_62 : decode cX10_way 62 = .ok (.ireturn, 1) := by decide +kernel
theorem dX10_way_63 : decode cX10_way 63 = .ok (.iload 4, 2) := by decide +kernel
theorem dX10_way_65 : decode cX10_way 65 = .ok (.iconst 4, 1) := by decide +kernel
theorem dX10_way_66 : decode cX10_way 66 = .ok (.if_icmp .ne 6, 3) := by decide +kernel
theorem dX10_way_69 : decode cX10_way 69 = .ok (.iload 5, 2) := by decide +kernel
theorem dX10_way_71 : decode cX10_way 71 = .ok (.ireturn, 1) := by decide +kernel
theorem dX10_way_72 : decode cX10_way 72 = .ok (.aload_n 0, 1) := by decide +kernel
theorem dX10_way_73 : decode cX10_way 73 = .ok (.aload_n 0, 1) := by decide +kernel
theorem dX10_way_74 : decode cX10_way 74 = .ok (.getfield 27, 3) := by decide +kernel
theorem dX10_way_77 : decode cX10_way 77 = .ok (.iload_n 1, 1) := by decide +kernel
theorem dX10_way_78 : decode cX10_way 78 = .ok (.aaload, 1) := by decide +kernel
theorem dX10_way_79 : decode cX10_way 79 = .ok (.iconst 0, 1) := by decide +kernel
theorem dX10_way_80 : decode cX10_way 80 = .ok (.iconst 0, 1) := by decide +kernel
theorem dX10_way_81 : decode cX10_way 81 = .ok (.iload_n 2, 1) := by decide +kernel
theorem dX10_way_82 : decode cX10_way 82 = .ok (.iconst 1, 1) := by decide +kernel
theorem dX10_way_83 : decode cX10_way 83 = .ok (.iadd, 1) := by decide +kernel
theorem dX10_way_84 : decode cX10_way 84 = .ok (.invokestatic 155, 3) := by decide +kernel
theorem dX10_way_87 : decode cX10_way 87 = .ok (.invokevirtual 159, 3) := by decide +kernel
theorem dX10_way_90 : decode cX10_way 90 = .ok (.astore 6, 2) := by decide +kernel
theorem dX10_way_92 : decode cX10_way 92 = .ok (.aload 6, 2) := by decide +kernel
theorem dX10_way_94 : decode cX10_way 94 = .ok (.iconst 0, 1) := by decide +kernel
theorem dX10_way_95 : decode cX10_way 95 = .ok (.iconst 0, 1) := by decide +kernel
theorem dX10_way_96 : decode cX10_way 96 = .ok (.iload_n 3, 1) := by decide +kernel
theorem dX10_way_97 : decode cX10_way 97 = .ok (.iconst 1, 1) := by decide +kernel
theorem dX10_way_98 : decode cX10_way 98 = .ok (.iadd, 1) := by decide +kernel
theorem dX10_way_99 : decode cX10_way 99 = .ok (.invokestatic 155, 3) := by decide +kernel
theorem dX10_way_102 : decode cX10_way 102 = .ok (.iload 4, 2) := by decide +kernel
theorem dX10_way_104 : decode cX10_way 104 = .ok (.invokevirtual 163, 3) := by decide +kernel
theorem dX10_way_107 : decode cX10_way 107 = .ok (.l2i, 1) := by decide +kernel
theorem dX10_way_108 : decode cX10_way 108 = .ok (.ireturn, 1) := by decide +kernel
theorem dX10_odds_0 : decode cX10_odds 0 = .ok (.iload 7, 2) := by decide +kernel
theorem dX10_odds_2 : decode cX10_odds 2 = .ok (.ifCond .lt 9, 3) := by decide +kernel
theorem dX10_odds_5 : decode cX10_odds 5 = .ok (.iload 7, 2) := by decide +kernel
theorem dX10_odds_7 : decode cX10_odds 7 = .ok (.iconst 2, 1) := by decide +kernel
theorem dX10_odds_8 : decode cX10_odds 8 = .ok (.if_icmp .le 7, 3) := by decide +kernel
theorem dX10_odds_11 : decode cX10_odds 11 = .ok (.ldc2_w 167, 3) := by decide +kernel
theorem dX10_odds_14 : decode cX10_odds 14 = .ok (.lreturn, 1) := by decide +kernel
theorem dX10_odds_15 : decode cX10_odds 15 = .ok (.iload_n 2, 1) := by decide +kernel
theorem dX10_odds_16 : decode cX10_odds 16 = .ok (.iload_n 3, 1) := by decide +kernel
theorem dX10_odds_17 : decode cX10_odds 17 = .ok (.iload 4, 2) := by decide +kernel
theorem dX10_odds_19 : decode cX10_odds 19 = .ok (.iload 5, 2) := by decide +kernel
theorem dX10_odds_21 : decode cX10_odds 21 = .ok (.iload 6, 2) := by decide +kernel
theorem dX10_odds_23 : decode cX10_odds 23 = .ok (.invokestatic 169, 3) := by decide +kernel
theorem dX10_odds_26 : decode cX10_odds 26 = .ok (.istore 8, 2) := by decide +kernel
theorem dX10_odds_28 : decode cX10_odds 28 = .ok (.iload 8, 2) := by decide +kernel
theorem dX10_odds_30 : decode cX10_odds 30 = .ok (.ifCond .lt 11, 3) := by decide +kernel
theorem dX10_odds_33 : decode cX10_odds 33 = .ok (.aload_n 0, 1) := by decide +kernel
theorem dX10_odds_34 : decode cX10_odds 34 = .ok (.iload_n 1, 1) := by decide +kernel
theorem dX10_odds_35 : decode cX10_odds 35 = .ok (.invokevirtual 173, 3) := by decide +kernel
theorem dX10_odds_38 : decode cX10_odds 38 = .ok (.ifCond .ne 17, 3) := by decide +kernel
theorem dX10_odds_41 : decode cX10_odds 41 = .ok (.iload 7, 2) := by decide +kernel
theorem dX10_odds_43 : decode cX10_odds 43 = .ok (.iconst 2, 1) := by decide +kernel
theorem dX10_odds_44 : decode cX10_odds 44 = .ok (.if_icmp .ne 9, 3) := by decide +kernel
theorem dX10_odds_47 : decode cX10_odds 47 = .ok (.ldc2_w 167, 3) := by decide +kernel
theorem dX10_odds_50 : decode cX10_odds 50 = .ok (.goto 4, 3) := by decide +kernel
theorem dX10_odds_53 : decode cX10_odds 53 = .ok (.lconst 0, 1) := by decide +kernel
theorem dX10_odds_54 : decode cX10_odds 54 = .ok (.lreturn, 1) := by decide +kernel
theorem dX10_odds_55 : decode cX10_odds 55 = .ok (.aload_n 0, 1) := by decide +kernel
theorem dX10_odds_56 : decode cX10_odds 56 = .ok (.getfield 33, 3) := by decide +kernel
theorem dX10_odds_59 : decode cX10_odds 59 = .ok (.iload_n 1, 1) := by decide +kernel
theorem dX10_odds_60 : decode cX10_odds 60 = .ok (.aaload, 1) := by decide +kernel
theorem dX10_odds_61 : decode cX10_odds 61 = .ok (.iload 8, 2) := by decide +kernel
theorem dX10_odds_63 : decode cX10_odds 63 = .ok (.invokestatic 176, 3) := by decide +kernel
theorem dX10_odds_66 : decode cX10_odds 66 = .ok (.aload_n 0, 1) := by decide +kernel
theorem dX10_odds_67 : decode cX10_odds 67 = .ok (.getfield 81, 3) := by decide +kernel
theorem dX10_odds_70 : decode cX10_odds 70 = .ok (.invokevirtual 179, 3) := by decide +kernel
theorem dX10_odds_73 : decode cX10_odds 73 = .ok (.aload_n 0, 1) := by decide +kernel
theorem dX10_odds_74 : decode cX10_odds 74 = .ok (.getfield 81, 3) := by decide +kernel
theorem dX10_odds_77 : decode cX10_odds 77 = .ok (.iload 7, 2) := by decide +kernel
theorem dX10_odds_79 : decode cX10_odds 79 = .ok (.invokevirtual 183, 3) := by decide +kernel
theorem dX10_odds_82 : decode cX10_odds 82 = .ok (.lreturn, 1) := by decide +kernel
theorem dX10_dark_0 : decode cX10_dark 0 = .ok (.iload_n 1, 1) := by decide +kernel
theorem dX10_dark_1 : decode cX10_dark 1 = .ok (.ifCond .lt 18, 3) := by decide +kernel
theorem dX10_dark_4 : decode cX10_dark 4 = .ok (.iload_n 1, 1) := by decide +kernel
theorem dX10_dark_5 : decode cX10_dark 5 = .ok (.iconst 5, 1) := by decide +kernel
theorem dX10_dark_6 : decode cX10_dark 6 = .ok (.if_icmp .ge 13, 3) := by decide +kernel
theorem dX10_dark_9 : decode cX10_dark 9 = .ok (.iload_n 2, 1) := by decide +kernel
theorem dX10_dark_10 : decode cX10_dark 10 = .ok (.ifCond .lt 9, 3) := by decide +kernel
theorem dX10_dark_13 : decode cX10_dark 13 = .ok (.iload_n 2, 1) := by decide +kernel
theorem dX10_dark_14 : decode cX10_dark 14 = .ok (.bipush 10, 2) := by decide +kernel
theorem dX10_dark_16 : decode cX10_dark 16 = .ok (.if_icmp .lt 9, 3) := by decide +kernel
theorem dX10_dark_19 : decode cX10_dark 19 = .ok (.aload_n 0, 1) := by decide +kernel
theorem dX10_dark_20 : decode cX10_dark 20 = .ok (.iconst (-1), 1) := by decide +kernel
theorem dX10_dark_21 : decode cX10_dark 21 = .ok (.invokevirtual 96, 3) := by decide +kernel
theorem dX10_dark_24 : decode cX10_dark 24 = .ok (.ireturn, 1) := by decide +kernel
theorem dX10_dark_25 : decode cX10_dark 25 = .ok (.aload_n 0, 1) := by decide +kernel
theorem dX10_dark_26 : decode cX10_dark 26 = .ok (.getfield 89, 3) := by decide +kernel
theorem dX10_dark_29 : decode cX10_dark 29 = .ok (.iload_n 1, 1) := by decide +kernel
theorem dX10_dark_30 : decode cX10_dark 30 = .ok (.iaload, 1) := by decide +kernel
theorem dX10_dark_31 : decode cX10_dark 31 = .ok (.istore_n 3, 1) := by decide +kernel
theorem dX10_dark_32 : decode cX10_dark 32 = .ok (.aload_n 0, 1) := by decide +kernel
theorem dX10_dark_33 : decode cX10_dark 33 = .ok (.getfield 89, 3) := by decide +kernel
theorem dX10_dark_36 : decode cX10_dark 36 = .ok (.iload_n 1, 1) := by decide +kernel
theorem dX10_dark_37 : decode cX10_dark 37 = .ok (.iload_n 2, 1) := by decide +kernel
theorem dX10_dark_38 : decode cX10_dark 38 = .ok (.iastore, 1) := by decide +kernel
theorem dX10_dark_39 : decode cX10_dark 39 = .ok (.aload_n 0, 1) := by decide +kernel
theorem dX10_dark_40 : decode cX10_dark 40 = .ok (.iload_n 3, 1) := by decide +kernel
theorem dX10_dark_41 : decode cX10_dark 41 = .ok (.invokevirtual 106, 3) := by decide +kernel
theorem dX10_dark_44 : decode cX10_dark 44 = .ok (.ireturn, 1) := by decide +kernel
theorem dX10_clicks_0 : decode cX10_clicks 0 = .ok (.iload_n 3, 1) := by decide +kernel
theorem dX10_clicks_1 : decode cX10_clicks 1 = .ok (.ifCond .lt 8, 3) := by decide +kernel
theorem dX10_clicks_4 : decode cX10_clicks 4 = .ok (.iload_n 3, 1) := by decide +kernel
theorem dX10_clicks_5 : decode cX10_clicks 5 = .ok (.iconst 2, 1) := by decide +kernel
theorem dX10_clicks_6 : decode cX10_clicks 6 = .ok (.if_icmp .le 7, 3) := by decide +kernel
theorem dX10_clicks_9 : decode cX10_clicks 9 = .ok (.ldc2_w 167, 3) := by decide +kernel
theorem dX10_clicks_12 : decode cX10_clicks 12 = .ok (.lreturn, 1) := by decide +kernel
theorem dX10_clicks_13 : decode cX10_clicks 13 = .ok (.iload_n 2, 1) := by decide +kernel
theorem dX10_clicks_14 : decode cX10_clicks 14 = .ok (.invokestatic 187, 3) := by decide +kernel
theorem dX10_clicks_17 : decode cX10_clicks 17 = .ok (.ifCond .eq 11, 3) := by decide +kernel
theorem dX10_clicks_20 : decode cX10_clicks 20 = .ok (.aload_n 0, 1) := by decide +kernel
theorem dX10_clicks_21 : decode cX10_clicks 21 = .ok (.iload_n 1, 1) := by decide +kernel
theorem dX10_clicks_22 : decode cX10_clicks 22 = .ok (.invokevirtual 173, 3) := by decide +kernel
theorem dX10_clicks_25 : decode cX10_clicks 25 = .ok (.ifCond .ne 16, 3) := by decide +kernel
theorem dX10_clicks_28 : decode cX10_clicks 28 = .ok (.iload_n 3, 1) := by decide +kernel
theorem dX10_clicks_29 : decode cX10_clicks 29 = .ok (.iconst 2, 1) := by decide +kernel
theorem dX10_clicks_30 : decode cX10_clicks 30 = .ok (.if_icmp .ne 9, 3) := by decide +kernel
theorem dX10_clicks_33 : decode cX10_clicks 33 = .ok (.ldc2_w 167, 3) := by decide +kernel
theorem dX10_clicks_36 : decode cX10_clicks 36 = .ok (.goto 4, 3) := by decide +kernel
theorem dX10_clicks_39 : decode cX10_clicks 39 = .ok (.lconst 0, 1) := by decide +kernel
theorem dX10_clicks_40 : decode cX10_clicks 40 = .ok (.lreturn, 1) := by decide +kernel
theorem dX10_clicks_41 : decode cX10_clicks 41 = .ok (.aload_n 0, 1) := by decide +kernel
theorem dX10_clicks_42 : decode cX10_clicks 42 = .ok (.getfield 33, 3) := by decide +kernel
theorem dX10_clicks_45 : decode cX10_clicks 45 = .ok (.iload_n 1, 1) := by decide +kernel
theorem dX10_clicks_46 : decode cX10_clicks 46 = .ok (.aaload, 1) := by decide +kernel
theorem dX10_clicks_47 : decode cX10_clicks 47 = .ok (.iload_n 2, 1) := by decide +kernel
theorem dX10_clicks_48 : decode cX10_clicks 48 = .ok (.aload_n 0, 1) := by decide +kernel
theorem dX10_clicks_49 : decode cX10_clicks 49 = .ok (.getfield 89, 3) := by decide +kernel
theorem dX10_clicks_52 : decode cX10_clicks 52 = .ok (.aload_n 0, 1) := by decide +kernel
theorem dX10_clicks_53 : decode cX10_clicks 53 = .ok (.getfield 81, 3) := by decide +kernel
theorem dX10_clicks_56 : decode cX10_clicks 56 = .ok (.invokevirtual 190, 3) := by decide +kernel
theorem dX10_clicks_59 : decode cX10_clicks 59 = .ok (.aload_n 0, 1) := by decide +kernel
theorem dX10_clicks_60 : decode cX10_clicks 60 = .ok (.getfield 81, 3) := by decide +kernel
theorem dX10_clicks_63 : decode cX10_clicks 63 = .ok (.iload_n 3, 1) := by decide +kernel
theorem dX10_clicks_64 : decode cX10_clicks 64 = .ok (.invokevirtual 183, 3) := by decide +kernel
theorem dX10_clicks_67 : decode cX10_clicks 67 = .ok (.lreturn, 1) := by decide +kernel
theorem dX10_run_0 : decode cX10_run 0 = .ok (.iload_n 2, 1) := by decide +kernel
theorem dX10_run_1 : decode cX10_run 1 = .ok (.invokestatic 187, 3) := by decide +kernel
theorem dX10_run_4 : decode cX10_run 4 = .ok (.ifCond .eq 10, 3) := by decide +kernel
theorem dX10_run_7 : decode cX10_run 7 = .ok (.iload_n 3, 1) := by decide +kernel
theorem dX10_run_8 : decode cX10_run 8 = .ok (.invokestatic 194, 3) := by decide +kernel
theorem dX10_run_11 : decode cX10_run 11 = .ok (.ifCond .ne 9, 3) := by decide +kernel
theorem dX10_run_14 : decode cX10_run 14 = .ok (.aload_n 0, 1) := by decide +kernel
theorem dX10_run_15 : decode cX10_run 15 = .ok (.iconst (-1), 1) := by decide +kernel
theorem dX10_run_16 : decode cX10_run 16 = .ok (.invokevirtual 96, 3) := by decide +kernel
theorem dX10_run_19 : decode cX10_run 19 = .ok (.ireturn, 1) := by decide +kernel
theorem dX10_run_20 : decode cX10_run 20 = .ok (.iload_n 1, 1) := by decide +kernel
theorem dX10_run_21 : decode cX10_run 21 = .ok (.invokestatic 119, 3) := by decide +kernel
theorem dX10_run_24 : decode cX10_run 24 = .ok (.ifCond .ne 10, 3) := by decide +kernel
theorem dX10_run_27 : decode cX10_run 27 = .ok (.aload_n 0, 1) := by decide +kernel
theorem dX10_run_28 : decode cX10_run 28 = .ok (.bipush (-2), 2) := by decide +kernel
theorem dX10_run_30 : decode cX10_run 30 = .ok (.invokevirtual 96, 3) := by decide +kernel
theorem dX10_run_33 : decode cX10_run 33 = .ok (.ireturn, 1) := by decide +kernel
theorem dX10_run_34 : decode cX10_run 34 = .ok (.aload_n 0, 1) := by decide +kernel
theorem dX10_run_35 : decode cX10_run 35 = .ok (.getfield 48, 3) := by decide +kernel
theorem dX10_run_38 : decode cX10_run 38 = .ok (.getfield 197, 3) := by decide +kernel
theorem dX10_run_41 : decode cX10_run 41 = .ok (.sipush 200, 3) := by decide +kernel
theorem dX10_run_44 : decode cX10_run 44 = .ok (.if_icmp .lt 10, 3) := by decide +kernel
theorem dX10_run_47 : decode cX10_run 47 = .ok (.aload_n 0, 1) := by decide +kernel
theorem dX10_run_48 : decode cX10_run 48 = .ok (.bipush (-5), 2) := by decide +kernel
theorem dX10_run_50 : decode cX10_run 50 = .ok (.invokevirtual 96, 3) := by decide +kernel
theorem dX10_run_53 : decode cX10_run 53 = .ok (.ireturn, 1) := by decide +kernel
theorem dX10_run_54 : decode cX10_run 54 = .ok (.aload_n 0, 1) := by decide +kernel
theorem dX10_run_55 : decode cX10_run 55 = .ok (.getfield 48, 3) := by decide +kernel
theorem dX10_run_58 : decode cX10_run 58 = .ok (.iload_n 1, 1) := by decide +kernel
theorem dX10_run_59 : decode cX10_run 59 = .ok (.iload_n 2, 1) := by decide +kernel
theorem dX10_run_60 : decode cX10_run 60 = .ok (.iload_n 3, 1) := by decide +kernel
theorem dX10_run_61 : decode cX10_run 61 = .ok (.invokevirtual 198, 3) := by decide +kernel
theorem dX10_run_64 : decode cX10_run 64 = .ok (.aload_n 0, 1) := by decide +kernel
theorem dX10_run_65 : decode cX10_run 65 = .ok (.aload_n 0, 1) := by decide +kernel
theorem dX10_run_66 : decode cX10_run 66 = .ok (.getfield 48, 3) := by decide +kernel
theorem dX10_run_69 : decode cX10_run 69 = .ok (.getfield 197, 3) := by decide +kernel
theorem dX10_run_72 : decode cX10_run 72 = .ok (.invokevirtual 106, 3) := by decide +kernel
theorem dX10_run_75 : decode cX10_run 75 = .ok (.ireturn, 1) := by decide +kernel
theorem dX10_counted_0 : decode cX10_counted 0 = .ok (.iload_n 1, 1) := by decide +kernel
theorem dX10_counted_1 : decode cX10_counted 1 = .ok (.invokestatic 119, 3) := by decide +kernel
theorem dX10_counted_4 : decode cX10_counted 4 = .ok (.ifCond .eq 22, 3) := by decide +kernel
theorem dX10_counted_7 : decode cX10_counted 7 = .ok (.iload_n 3, 1) := by decide +kernel
theorem dX10_counted_8 : decode cX10_counted 8 = .ok (.invokestatic 194, 3) := by decide +kernel
theorem dX10_counted_11 : decode cX10_counted 11 = .ok (.ifCond .eq 15, 3) := by decide +kernel
theorem dX10_counted_14 : decode cX10_counted 14 = .ok (.iload_n 2, 1) := by decide +kernel
theorem dX10_counted_15 : decode cX10_counted 15 = .ok (.iconst (-1), 1) := by decide +kernel
theorem dX10_counted_16 : decode cX10_counted 16 = .ok (.if_icmp .eq 12, 3) := by decide +kernel
theorem dX10_counted_19 : decode cX10_counted 19 = .ok (.iload_n 2, 1) := by decide +kernel
theorem dX10_counted_20 : decode cX10_counted 20 = .ok (.invokestatic 187, 3) := by decide +kernel
theorem dX10_counted_23 : decode cX10_counted 23 = .ok (.ifCond .ne 5, 3) := by decide +kernel
theorem dX10_counted_26 : decode cX10_counted 26 = .ok (.iconst (-1), 1) := by decide +kernel
theorem dX10_counted_27 : decode cX10_counted 27 = .ok (.ireturn, 1) := by decide +kernel
theorem dX10_counted_28 : decode cX10_counted 28 = .ok (.aload_n 0, 1) := by decide +kernel
theorem dX10_counted_29 : decode cX10_counted 29 = .ok (.getfield 48, 3) := by decide +kernel
theorem dX10_counted_32 : decode cX10_counted 32 = .ok (.iload_n 1, 1) := by decide +kernel
theorem dX10_counted_33 : decode cX10_counted 33 = .ok (.iload_n 3, 1) := by decide +kernel
theorem dX10_counted_34 : decode cX10_counted 34 = .ok (.invokevirtual 201, 3) := by decide +kernel
theorem dX10_counted_37 : decode cX10_counted 37 = .ok (.iload_n 2, 1) := by decide +kernel
theorem dX10_counted_38 : decode cX10_counted 38 = .ok (.iconst (-1), 1) := by decide +kernel
theorem dX10_counted_39 : decode cX10_counted 39 = .ok (.if_icmp .ne 13, 3) := by decide +kernel
theorem dX10_counted_42 : decode cX10_counted 42 = .ok (.aload_n 0, 1) := by decide +kernel
theorem dX10_counted_43 : decode cX10_counted 43 = .ok (.getfield 48, 3) := by decide +kernel
theorem dX10_counted_46 : decode cX10_counted 46 = .ok (.getfield 205, 3) := by decide +kernel
theorem dX10_counted_49 : decode cX10_counted 49 = .ok (.goto 12, 3) := by decide +kernel
theorem dX10_counted_52 : decode cX10_counted 52 = .ok (.aload_n 0, 1) := by decide +kernel
theorem dX10_counted_53 : decode cX10_counted 53 = .ok (.getfield 48, 3) := by decide +kernel
theorem dX10_counted_56 : decode cX10_counted 56 = .ok (.getfield 208, 3) := by decide +kernel
theorem dX10_counted_59 : decode cX10_counted 59 = .ok (.iload_n 2, 1) := by decide +kernel
theorem dX10_counted_60 : decode cX10_counted 60 = .ok (.iaload, 1) := by decide +kernel
theorem dX10_counted_61 : decode cX10_counted 61 = .ok (.ireturn, 1) := by decide +kernel
theorem dX10_wrong_0 : decode cX10_wrong 0 = .ok (.iload_n 2, 1) := by decide +kernel
theorem dX10_wrong_1 : decode cX10_wrong 1 = .ok (.invokestatic 194, 3) := by decide +kernel
theorem dX10_wrong_4 : decode cX10_wrong 4 = .ok (.ifCond .eq 11, 3) := by decide +kernel
theorem dX10_wrong_7 : decode cX10_wrong 7 = .ok (.aload_n 0, 1) := by decide +kernel
theorem dX10_wrong_8 : decode cX10_wrong 8 = .ok (.iload_n 1, 1) := by decide +kernel
theorem dX10_wrong_9 : decode cX10_wrong 9 = .ok (.invokevirtual 173, 3) := by decide +kernel
theorem dX10_wrong_12 : decode cX10_wrong 12 = .ok (.ifCond .ne 5, 3) := by decide +kernel
theorem dX10_wrong_15 : decode cX10_wrong 15 = .ok (.iconst (-1), 1) := by decide +kernel
theorem dX10_wrong_16 : decode cX10_wrong 16 = .ok (.ireturn, 1) := by decide +kernel
theorem dX10_wrong_17 : decode cX10_wrong 17 = .ok (.aload_n 0, 1) := by decide +kernel
theorem dX10_wrong_18 : decode cX10_wrong 18 = .ok (.getfield 48, 3) := by decide +kernel
theorem dX10_wrong_21 : decode cX10_wrong 21 = .ok (.iload_n 1, 1) := by decide +kernel
theorem dX10_wrong_22 : decode cX10_wrong 22 = .ok (.iload_n 2, 1) := by decide +kernel
theorem dX10_wrong_23 : decode cX10_wrong 23 = .ok (.invokevirtual 201, 3) := by decide +kernel
theorem dX10_wrong_26 : decode cX10_wrong 26 = .ok (.iconst 0, 1) := by decide +kernel
theorem dX10_wrong_27 : decode cX10_wrong 27 = .ok (.istore_n 3, 1) := by decide +kernel
theorem dX10_wrong_28 : decode cX10_wrong 28 = .ok (.iconst 0, 1) := by decide +kernel
theorem dX10_wrong_29 : decode cX10_wrong 29 = .ok (.istore 4, 2) := by decide +kernel
theorem dX10_wrong_31 : decode cX10_wrong 31 = .ok (.iload 4, 2) := by decide +kernel
theorem dX10_wrong_33 : decode cX10_wrong 33 = .ok (.bipush 32, 2) := by decide +kernel
theorem dX10_wrong_35 : decode cX10_wrong 35 = .ok (.if_icmp .ge 68, 3) := by decide +kernel
theorem dX10_wrong_38 : decode cX10_wrong 38 = .ok (.aload_n 0, 1) := by decide +kernel
theorem dX10_wrong_39 : decode cX10_wrong 39 = .ok (.getfield 48, 3) := by decide +kernel
theorem dX10_wrong_42 : decode cX10_wrong 42 = .ok (.getfield 208, 3) := by decide +kernel
theorem dX10_wrong_45 : decode cX10_wrong 45 = .ok (.iload 4, 2) := by decide +kernel
theorem dX10_wrong_47 : decode cX10_wrong 47 = .ok (.iaload, 1) := by decide +kernel
theorem dX10_wrong_48 : decode cX10_wrong 48 = .ok (.ifCond .le 49, 3) := by decide +kernel
theorem dX10_wrong_51 : decode cX10_wrong 51 = .ok (.aload_n 0, 1) := by decide +kernel
theorem dX10_wrong_52 : decode cX10_wrong 52 = .ok (.getfield 33, 3) := by decide +kernel
theorem dX10_wrong_55 : decode cX10_wrong 55 = .ok (.iload_n 1, 1) := by decide +kernel
theorem dX10_wrong_56 : decode cX10_wrong 56 = .ok (.aaload, 1) := by decide +kernel
theorem dX10_wrong_57 : decode cX10_wrong 57 = .ok (.iload 4, 2) := by decide +kernel
theorem dX10_wrong_59 : decode cX10_wrong 59 = .ok (.aload_n 0, 1) := by decide +kernel
theorem dX10_wrong_60 : decode cX10_wrong 60 = .ok (.getfield 89, 3) := by decide +kernel
theorem dX10_wrong_63 : decode cX10_wrong 63 = .ok (.aload_n 0, 1) := by decide +kernel
theorem dX10_wrong_64 : decode cX10_wrong 64 = .ok (.getfield 81, 3) := by decide +kernel
theorem dX10_wrong_67 : decode cX10_wrong 67 = .ok (.invokevirtual 190, 3) := by decide +kernel
theorem dX10_wrong_70 : decode cX10_wrong 70 = .ok (.iload_n 3, 1) := by decide +kernel
theorem dX10_wrong_71 : decode cX10_wrong 71 = .ok (.aload_n 0, 1) := by decide +kernel
theorem dX10_wrong_72 : decode cX10_wrong 72 = .ok (.getfield 81, 3) := by decide +kernel
theorem dX10_wrong_75 : decode cX10_wrong 75 = .ok (.invokevirtual 211, 3) := by decide +kernel
theorem dX10_wrong_78 : decode cX10_wrong 78 = .ok (.ifCond .eq 16, 3) := by decide +kernel
theorem dX10_wrong_81 : decode cX10_wrong 81 = .ok (.aload_n 0, 1) := by decide +kernel
theorem dX10_wrong_82 : decode cX10_wrong 82 = .ok (.getfield 48, 3) := by decide +kernel
theorem dX10_wrong_85 : decode cX10_wrong 85 = .ok (.getfield 208, 3) := by decide +kernel
theorem dX10_wrong_88 : decode cX10_wrong 88 = .ok (.iload 4, 2) := by decide +kernel
theorem dX10_wrong_90 : decode cX10_wrong 90 = .ok (.iaload, 1) := by decide +kernel
theorem dX10_wrong_91 : decode cX10_wrong 91 = .ok (.goto 4, 3) := by decide +kernel
theorem dX10_wrong_94 : decode cX10_wrong 94 = .ok (.iconst 0, 1) := by decide +kernel
theorem dX10_wrong_95 : decode cX10_wrong 95 = .ok (.iadd, 1) := by decide +kernel
theorem dX10_wrong_96 : decode cX10_wrong 96 = .ok (.istore_n 3, 1) := by decide +kernel
theorem dX10_wrong_97 : decode cX10_wrong 97 = .ok (.iinc 4 1, 3) := by decide +kernel
theorem dX10_wrong_100 : decode cX10_wrong 100 = .ok (.goto (-69), 3) := by decide +kernel
theorem dX10_wrong_103 : decode cX10_wrong 103 = .ok (.iload_n 3, 1) := by decide +kernel
theorem dX10_wrong_104 : decode cX10_wrong 104 = .ok (.ireturn, 1) := by decide +kernel
theorem dX10_misfit_0 : decode cX10_misfit 0 = .ok (.iload_n 2, 1) := by decide +kernel
theorem dX10_misfit_1 : decode cX10_misfit 1 = .ok (.invokestatic 194, 3) := by decide +kernel
theorem dX10_misfit_4 : decode cX10_misfit 4 = .ok (.ifCond .eq 20, 3) := by decide +kernel
theorem dX10_misfit_7 : decode cX10_misfit 7 = .ok (.aload_n 0, 1) := by decide +kernel
theorem dX10_misfit_8 : decode cX10_misfit 8 = .ok (.iload_n 1, 1) := by decide +kernel
theorem dX10_misfit_9 : decode cX10_misfit 9 = .ok (.invokevirtual 173, 3) := by decide +kernel
theorem dX10_misfit_12 : decode cX10_misfit 12 = .ok (.ifCond .eq 12, 3) := by decide +kernel
theorem dX10_misfit_15 : decode cX10_misfit 15 = .ok (.aload_n 0, 1) := by decide +kernel
theorem dX10_misfit_16 : decode cX10_misfit 16 = .ok (.iload_n 1, 1) := by decide +kernel
theorem dX10_misfit_17 : decode cX10_misfit 17 = .ok (.iload_n 2, 1) := by decide +kernel
theorem dX10_misfit_18 : decode cX10_misfit 18 = .ok (.invokevirtual 215, 3) := by decide +kernel
theorem dX10_misfit_21 : decode cX10_misfit 21 = .ok (.goto 4, 3) := by decide +kernel
theorem dX10_misfit_24 : decode cX10_misfit 24 = .ok (.iconst (-1), 1) := by decide +kernel
theorem dX10_misfit_25 : decode cX10_misfit 25 = .ok (.ireturn, 1) := by decide +kernel
theorem dX10_fits_0 : decode cX10_fits 0 = .ok (.iload_n 1, 1) := by decide +kernel
theorem dX10_fits_1 : decode cX10_fits 1 = .ok (.invokestatic 194, 3) := by decide +kernel
theorem dX10_fits_4 : decode cX10_fits 4 = .ok (.ifCond .ne 5, 3) := by decide +kernel
theorem dX10_fits_7 : decode cX10_fits 7 = .ok (.iconst (-1), 1) := by decide +kernel
theorem dX10_fits_8 : decode cX10_fits 8 = .ok (.ireturn, 1) := by decide +kernel
theorem dX10_fits_9 : decode cX10_fits 9 = .ok (.iconst (-1), 1) := by decide +kernel
theorem dX10_fits_10 : decode cX10_fits 10 = .ok (.istore_n 2, 1) := by decide +kernel
theorem dX10_fits_11 : decode cX10_fits 11 = .ok (.iconst 0, 1) := by decide +kernel
theorem dX10_fits_12 : decode cX10_fits 12 = .ok (.istore_n 3, 1) := by decide +kernel
theorem dX10_fits_13 : decode cX10_fits 13 = .ok (.iconst 0, 1) := by decide +kernel
theorem dX10_fits_14 : decode cX10_fits 14 = .ok (.istore 4, 2) := by decide +kernel
theorem dX10_fits_16 : decode cX10_fits 16 = .ok (.iload 4, 2) := by decide +kernel
theorem dX10_fits_18 : decode cX10_fits 18 = .ok (.iconst 4, 1) := by decide +kernel
theorem dX10_fits_19 : decode cX10_fits 19 = .ok (.if_icmp .ge 54, 3) := by decide +kernel
theorem dX10_fits_22 : decode cX10_fits 22 = .ok (.aload_n 0, 1) := by decide +kernel
theorem dX10_fits_23 : decode cX10_fits 23 = .ok (.iload 4, 2) := by decide +kernel
theorem dX10_fits_25 : decode cX10_fits 25 = .ok (.invokevirtual 173, 3) := by decide +kernel
theorem dX10_fits_28 : decode cX10_fits 28 = .ok (.ifCond .eq 13, 3) := by decide +kernel
theorem dX10_fits_31 : decode cX10_fits 31 = .ok (.aload_n 0, 1) := by decide +kernel
theorem dX10_fits_32 : decode cX10_fits 32 = .ok (.iload 4, 2) := by decide +kernel
theorem dX10_fits_34 : decode cX10_fits 34 = .ok (.iload_n 1, 1) := by decide +kernel
theorem dX10_fits_35 : decode cX10_fits 35 = .ok (.invokevirtual 215, 3) := by decide +kernel
theorem dX10_fits_38 : decode cX10_fits 38 = .ok (.goto 4, 3) := by decide +kernel
theorem dX10_fits_41 : decode cX10_fits 41 = .ok (.iconst (-1), 1) := by decide +kernel
theorem dX10_fits_42 : decode cX10_fits 42 = .ok (.istore 5, 2) := by decide +kernel
theorem dX10_fits_44 : decode cX10_fits 44 = .ok (.iload 5, 2) := by decide +kernel
theorem dX10_fits_46 : decode cX10_fits 46 = .ok (.iconst (-1), 1) := by decide +kernel
theorem dX10_fits_47 : decode cX10_fits 47 = .ok (.if_icmp .eq 20, 3) := by decide +kernel
theorem dX10_fits_50 : decode cX10_fits 50 = .ok (.iload_n 2, 1) := by decide +kernel
theorem dX10_fits_51 : decode cX10_fits 51 = .ok (.iconst (-1), 1) := by decide +kernel
theorem dX10_fits_52 : decode cX10_fits 52 = .ok (.if_icmp .eq 9, 3) := by decide +kernel
theorem dX10_fits_55 : decode cX10_fits 55 = .ok (.iload 5, 2) := by decide +kernel
theorem dX10_fits_57 : decode cX10_fits 57 = .ok (.iload_n 3, 1) := by decide +kernel
theorem dX10_fits_58 : decode cX10_fits 58 = .ok (.if_icmp .ge 9, 3) := by decide +kernel
theorem dX10_fits_61 : decode cX10_fits 61 = .ok (.iload 4, 2) := by decide +kernel
theorem dX10_fits_63 : decode cX10_fits 63 = .ok (.istore_n 2, 1) := by decide +kernel
theorem dX10_fits_64 : decode cX10_fits 64 = .ok (.iload 5, 2) := by decide +kernel
theorem dX10_fits_66 : decode cX10_fits 66 = .ok (.istore_n 3, 1) := by decide +kernel
theorem dX10_fits_67 : decode cX10_fits 67 = .ok (.iinc 4 1, 3) := by decide +kernel
theorem dX10_fits_70 : decode cX10_fits 70 = .ok (.goto (-54), 3) := by decide +kernel
theorem dX10_fits_73 : decode cX10_fits 73 = .ok (.iload_n 2, 1) := by decide +kernel
theorem dX10_fits_74 : decode cX10_fits 74 = .ok (.ireturn, 1) := by decide +kernel
theorem dX10_pairs_0 : decode cX10_pairs 0 = .ok (.iload_n 1, 1) := by decide +kernel
theorem dX10_pairs_1 : decode cX10_pairs 1 = .ok (.invokestatic 119, 3) := by decide +kernel
theorem dX10_pairs_4 : decode cX10_pairs 4 = .ok (.ifCond .eq 19, 3) := by decide +kernel
theorem dX10_pairs_7 : decode cX10_pairs 7 = .ok (.iload_n 2, 1) := by decide +kernel
theorem dX10_pairs_8 : decode cX10_pairs 8 = .ok (.invokestatic 194, 3) := by decide +kernel
theorem dX10_pairs_11 : decode cX10_pairs 11 = .ok (.ifCond .eq 12, 3) := by decide +kernel
theorem dX10_pairs_14 : decode cX10_pairs 14 = .ok (.iload_n 3, 1) := by decide +kernel
theorem dX10_pairs_15 : decode cX10_pairs 15 = .ok (.ifCond .lt 8, 3) := by decide +kernel
theorem dX10_pairs_18 : decode cX10_pairs 18 = .ok (.iload_n 3, 1) := by decide +kernel
theorem dX10_pairs_19 : decode cX10_pairs 19 = .ok (.iconst 1, 1) := by decide +kernel
theorem dX10_pairs_20 : decode cX10_pairs 20 = .ok (.if_icmp .le 5, 3) := by decide +kernel
theorem dX10_pairs_23 : decode cX10_pairs 23 = .ok (.iconst (-1), 1) := by decide +kernel
theorem dX10_pairs_24 : decode cX10_pairs 24 = .ok (.ireturn, 1) := by decide +kernel
theorem dX10_pairs_25 : decode cX10_pairs 25 = .ok (.aload_n 0, 1) := by decide +kernel
theorem dX10_pairs_26 : decode cX10_pairs 26 = .ok (.getfield 48, 3) := by decide +kernel
theorem dX10_pairs_29 : decode cX10_pairs 29 = .ok (.iload_n 1, 1) := by decide +kernel
theorem dX10_pairs_30 : decode cX10_pairs 30 = .ok (.iload_n 2, 1) := by decide +kernel
theorem dX10_pairs_31 : decode cX10_pairs 31 = .ok (.invokevirtual 201, 3) := by decide +kernel
theorem dX10_pairs_34 : decode cX10_pairs 34 = .ok (.iload_n 3, 1) := by decide +kernel
theorem dX10_pairs_35 : decode cX10_pairs 35 = .ok (.ifCond .ne 13, 3) := by decide +kernel
theorem dX10_pairs_38 : decode cX10_pairs 38 = .ok (.aload_n 0, 1) := by decide +kernel
theorem dX10_pairs_39 : decode cX10_pairs 39 = .ok (.getfield 48, 3) := by decide +kernel
theorem dX10_pairs_42 : decode cX10_pairs 42 = .ok (.invokevirtual 219, 3) := by decide +kernel
theorem dX10_pairs_45 : decode cX10_pairs 45 = .ok (.goto 10, 3) := by decide +kernel
theorem dX10_pairs_48 : decode cX10_pairs 48 = .ok (.aload_n 0, 1) := by decide +kernel
theorem dX10_pairs_49 : decode cX10_pairs 49 = .ok (.getfield 48, 3) := by decide +kernel
theorem dX10_pairs_52 : decode cX10_pairs 52 = .ok (.invokevirtual 222, 3) := by decide +kernel
theorem dX10_pairs_55 : decode cX10_pairs 55 = .ok (.ireturn, 1) := by decide +kernel
theorem dX10_notes_0 : decode cX10_notes 0 = .ok (.iload_n 1, 1) := by decide +kernel
theorem dX10_notes_1 : decode cX10_notes 1 = .ok (.invokestatic 194, 3) := by decide +kernel
theorem dX10_notes_4 : decode cX10_notes 4 = .ok (.ifCond .eq 27, 3) := by decide +kernel
theorem dX10_notes_7 : decode cX10_notes 7 = .ok (.iload_n 2, 1) := by decide +kernel
theorem dX10_notes_8 : decode cX10_notes 8 = .ok (.ifCond .lt 23, 3) := by decide +kernel
theorem dX10_notes_11 : decode cX10_notes 11 = .ok (.iload_n 2, 1) := by decide +kernel
theorem dX10_notes_12 : decode cX10_notes 12 = .ok (.iconst 2, 1) := by decide +kernel
theorem dX10_notes_13 : decode cX10_notes 13 = .ok (.if_icmp .gt 18, 3) := by decide +kernel
theorem dX10_notes_16 : decode cX10_notes 16 = .ok (.aload_n 0, 1) := by decide +kernel
theorem dX10_notes_17 : decode cX10_notes 17 = .ok (.getfield 48, 3) := by decide +kernel
theorem dX10_notes_20 : decode cX10_notes 20 = .ok (.iload_n 1, 1) := by decide +kernel
theorem dX10_notes_21 : decode cX10_notes 21 = .ok (.aload_n 0, 1) := by decide +kernel
theorem dX10_notes_22 : decode cX10_notes 22 = .ok (.getfield 81, 3) := by decide +kernel
theorem dX10_notes_25 : decode cX10_notes 25 = .ok (.invokevirtual 225, 3) := by decide +kernel
theorem dX10_notes_28 : decode cX10_notes 28 = .ok (.ifCond .ne 7, 3) := by decide +kernel
theorem dX10_notes_31 : decode cX10_notes 31 = .ok (.ldc2_w 229, 3) := by decide +kernel
theorem dX10_notes_34 : decode cX10_notes 34 = .ok (.lreturn, 1) := by decide +kernel
theorem dX10_notes_35 : decode cX10_notes 35 = .ok (.iload_n 2, 1) := by decide +kernel
theorem dX10_notes_36 : decode cX10_notes 36 = .ok (.ifCond .ne 11, 3) := by decide +kernel
theorem dX10_notes_39 : decode cX10_notes 39 = .ok (.aload_n 0, 1) := by decide +kernel
theorem dX10_notes_40 : decode cX10_notes 40 = .ok (.getfield 81, 3) := by decide +kernel
theorem dX10_notes_43 : decode cX10_notes 43 = .ok (.getfield 231, 3) := by decide +kernel
theorem dX10_notes_46 : decode cX10_notes 46 = .ok (.lreturn, 1) := by decide +kernel
theorem dX10_notes_47 : decode cX10_notes 47 = .ok (.iload_n 2, 1) := by decide +kernel
theorem dX10_notes_48 : decode cX10_notes 48 = .ok (.iconst 1, 1) := by decide +kernel
theorem dX10_notes_49 : decode cX10_notes 49 = .ok (.if_icmp .ne 11, 3) := by decide +kernel
theorem dX10_notes_52 : decode cX10_notes 52 = .ok (.aload_n 0, 1) := by decide +kernel
theorem dX10_notes_53 : decode cX10_notes 53 = .ok (.getfield 81, 3) := by decide +kernel
theorem dX10_notes_56 : decode cX10_notes 56 = .ok (.getfield 235, 3) := by decide +kernel
theorem dX10_notes_59 : decode cX10_notes 59 = .ok (.lreturn, 1) := by decide +kernel
theorem dX10_notes_60 : decode cX10_notes 60 = .ok (.aload_n 0, 1) := by decide +kernel
theorem dX10_notes_61 : decode cX10_notes 61 = .ok (.getfield 81, 3) := by decide +kernel
theorem dX10_notes_64 : decode cX10_notes 64 = .ok (.getfield 231, 3) := by decide +kernel
theorem dX10_notes_67 : decode cX10_notes 67 = .ok (.ldc2_w 238, 3) := by decide +kernel
theorem dX10_notes_70 : decode cX10_notes 70 = .ok (.aload_n 0, 1) := by decide +kernel
theorem dX10_notes_71 : decode cX10_notes 71 = .ok (.getfield 81, 3) := by decide +kernel
theorem dX10_notes_74 : decode cX10_notes 74 = .ok (.getfield 235, 3) := by decide +kernel
theorem dX10_notes_77 : decode cX10_notes 77 = .ok (.lmul, 1) := by decide +kernel
theorem dX10_notes_78 : decode cX10_notes 78 = .ok (.lcmp, 1) := by decide +kernel
theorem dX10_notes_79 : decode cX10_notes 79 = .ok (.ifCond .le 7, 3) := by decide +kernel
theorem dX10_notes_82 : decode cX10_notes 82 = .ok (.lconst 1, 1) := by decide +kernel
theorem dX10_notes_83 : decode cX10_notes 83 = .ok (.goto 4, 3) := by decide +kernel
theorem dX10_notes_86 : decode cX10_notes 86 = .ok (.lconst 0, 1) := by decide +kernel
theorem dX10_notes_87 : decode cX10_notes 87 = .ok (.lreturn, 1) := by decide +kernel
theorem dX10_plan_0 : decode cX10_plan 0 = .ok (.iload_n 2, 1) := by decide +kernel
theorem dX10_plan_1 : decode cX10_plan 1 = .ok (.iload_n 3, 1) := by decide +kernel
theorem dX10_plan_2 : decode cX10_plan 2 = .ok (.iload 4, 2) := by decide +kernel
theorem dX10_plan_4 : decode cX10_plan 4 = .ok (.iload 5, 2) := by decide +kernel
theorem dX10_plan_6 : decode cX10_plan 6 = .ok (.iload 6, 2) := by decide +kernel
theorem dX10_plan_8 : decode cX10_plan 8 = .ok (.invokestatic 169, 3) := by decide +kernel
theorem dX10_plan_11 : decode cX10_plan 11 = .ok (.istore 7, 2) := by decide +kernel
theorem dX10_plan_13 : decode cX10_plan 13 = .ok (.iload_n 1, 1) := by decide +kernel
theorem dX10_plan_14 : decode cX10_plan 14 = .ok (.ifCond .lt 20, 3) := by decide +kernel
theorem dX10_plan_17 : decode cX10_plan 17 = .ok (.iload_n 1, 1) := by decide +kernel
theorem dX10_plan_18 : decode cX10_plan 18 = .ok (.iconst 3, 1) := by decide +kernel
theorem dX10_plan_19 : decode cX10_plan 19 = .ok (.if_icmp .gt 15, 3) := by decide +kernel
theorem dX10_plan_22 : decode cX10_plan 22 = .ok (.iload 7, 2) := by decide +kernel
theorem dX10_plan_24 : decode cX10_plan 24 = .ok (.ifCond .lt 10, 3) := by decide +kernel
theorem dX10_plan_27 : decode cX10_plan 27 = .ok (.aload_n 0, 1) := by decide +kernel
theorem dX10_plan_28 : decode cX10_plan 28 = .ok (.getfield 100, 3) := by decide +kernel
theorem dX10_plan_31 : decode cX10_plan 31 = .ok (.ifCond .ne 5, 3) := by decide +kernel
theorem dX10_plan_34 : decode cX10_plan 34 = .ok (.iconst (-1), 1) := by decide +kernel
theorem dX10_plan_35 : decode cX10_plan 35 = .ok (.ireturn, 1) := by decide +kernel
theorem dX10_plan_36 : decode cX10_plan 36 = .ok (.aload_n 0, 1) := by decide +kernel
theorem dX10_plan_37 : decode cX10_plan 37 = .ok (.getfield 64, 3) := by decide +kernel
theorem dX10_plan_40 : decode cX10_plan 40 = .ok (.iload_n 1, 1) := by decide +kernel
theorem dX10_plan_41 : decode cX10_plan 41 = .ok (.aload_n 0, 1) := by decide +kernel
theorem dX10_plan_42 : decode cX10_plan 42 = .ok (.invokevirtual 240, 3) := by decide +kernel
theorem dX10_plan_45 : decode cX10_plan 45 = .ok (.aload_n 0, 1) := by decide +kernel
theorem dX10_plan_46 : decode cX10_plan 46 = .ok (.getfield 100, 3) := by decide +kernel
theorem dX10_plan_49 : decode cX10_plan 49 = .ok (.iload 7, 2) := by decide +kernel
theorem dX10_plan_51 : decode cX10_plan 51 = .ok (.invokestatic 176, 3) := by decide +kernel
theorem dX10_plan_54 : decode cX10_plan 54 = .ok (.invokevirtual 243, 3) := by decide +kernel
theorem dX10_plan_57 : decode cX10_plan 57 = .ok (.aload_n 0, 1) := by decide +kernel
theorem dX10_plan_58 : decode cX10_plan 58 = .ok (.getfield 64, 3) := by decide +kernel
theorem dX10_plan_61 : decode cX10_plan 61 = .ok (.getfield 247, 3) := by decide +kernel
theorem dX10_plan_64 : decode cX10_plan 64 = .ok (.ireturn, 1) := by decide +kernel
theorem dX10_planned_0 : decode cX10_planned 0 = .ok (.aload_n 0, 1) := by decide +kernel
theorem dX10_planned_1 : decode cX10_planned 1 = .ok (.getfield 64, 3) := by decide +kernel
theorem dX10_planned_4 : decode cX10_planned 4 = .ok (.getfield 247, 3) := by decide +kernel
theorem dX10_planned_7 : decode cX10_planned 7 = .ok (.iconst (-1), 1) := by decide +kernel
theorem dX10_planned_8 : decode cX10_planned 8 = .ok (.if_icmp .eq 20, 3) := by decide +kernel
theorem dX10_planned_11 : decode cX10_planned 11 = .ok (.iload_n 1, 1) := by decide +kernel
theorem dX10_planned_12 : decode cX10_planned 12 = .ok (.bipush (-3), 2) := by decide +kernel
theorem dX10_planned_14 : decode cX10_planned 14 = .ok (.if_icmp .lt 14, 3) := by decide +kernel
theorem dX10_planned_17 : decode cX10_planned 17 = .ok (.iload_n 1, 1) := by decide +kernel
theorem dX10_planned_18 : decode cX10_planned 18 = .ok (.aload_n 0, 1) := by decide +kernel
theorem dX10_planned_19 : decode cX10_planned 19 = .ok (.getfield 64, 3) := by decide +kernel
theorem dX10_planned_22 : decode cX10_planned 22 = .ok (.getfield 247, 3) := by decide +kernel
theorem dX10_planned_25 : decode cX10_planned 25 = .ok (.if_icmp .lt 7, 3) := by decide +kernel
theorem dX10_planned_28 : decode cX10_planned 28 = .ok (.ldc2_w 229, 3) := by decide +kernel
theorem dX10_planned_31 : decode cX10_planned 31 = .ok (.lreturn, 1) := by decide +kernel
theorem dX10_planned_32 : decode cX10_planned 32 = .ok (.iload_n 1, 1) := by decide +kernel
theorem dX10_planned_33 : decode cX10_planned 33 = .ok (.ifCond .ge 19, 3) := by decide +kernel
theorem dX10_planned_36 : decode cX10_planned 36 = .ok (.aload_n 0, 1) := by decide +kernel
theorem dX10_planned_37 : decode cX10_planned 37 = .ok (.getfield 64, 3) := by decide +kernel
theorem dX10_planned_40 : decode cX10_planned 40 = .ok (.getfield 250, 3) := by decide +kernel
theorem dX10_planned_43 : decode cX10_planned 43 = .ok (.iconst (-1), 1) := by decide +kernel
theorem dX10_planned_44 : decode cX10_planned 44 = .ok (.iload_n 1, 1) := by decide +kernel
theorem dX10_planned_45 : decode cX10_planned 45 = .ok (.isub, 1) := by decide +kernel
theorem dX10_planned_46 : decode cX10_planned 46 = .ok (.invokevirtual 183, 3) := by decide +kernel
theorem dX10_planned_49 : decode cX10_planned 49 = .ok (.goto 13, 3) := by decide +kernel
theorem dX10_planned_52 : decode cX10_planned 52 = .ok (.aload_n 0, 1) := by decide +kernel
theorem dX10_planned_53 : decode cX10_planned 53 = .ok (.getfield 64, 3) := by decide +kernel
theorem dX10_planned_56 : decode cX10_planned 56 = .ok (.getfield 253, 3) := by decide +kernel
theorem dX10_planned_59 : decode cX10_planned 59 = .ok (.iload_n 1, 1) := by decide +kernel
theorem dX10_planned_60 : decode cX10_planned 60 = .ok (.iaload, 1) := by decide +kernel
theorem dX10_planned_61 : decode cX10_planned 61 = .ok (.i2l, 1) := by decide +kernel
theorem dX10_planned_62 : decode cX10_planned 62 = .ok (.lreturn, 1) := by decide +kernel
theorem dX10_build_0 : decode cX10_build 0 = .ok (.iload_n 1, 1) := by decide +kernel
theorem dX10_build_1 : decode cX10_build 1 = .ok (.invokestatic 119, 3) := by decide +kernel
theorem dX10_build_4 : decode cX10_build 4 = .ok (.ifCond .ne 10, 3) := by decide +kernel
theorem dX10_build_7 : decode cX10_build 7 = .ok (.aload_n 0, 1) := by decide +kernel
theorem dX10_build_8 : decode cX10_build 8 = .ok (.bipush (-2), 2) := by decide +kernel
theorem dX10_build_10 : decode cX10_build 10 = .ok (.invokevirtual 96, 3) := by decide +kernel
theorem dX10_build_13 : decode cX10_build 13 = .ok (.ireturn, 1) := by decide +kernel
theorem dX10_build_14 : decode cX10_build 14 = .ok (.aload_n 0, 1) := by decide +kernel
theorem dX10_build_15 : decode cX10_build 15 = .ok (.getfield 64, 3) := by decide +kernel
theorem dX10_build_18 : decode cX10_build 18 = .ok (.getfield 247, 3) := by decide +kernel
theorem dX10_build_21 : decode cX10_build 21 = .ok (.iconst (-1), 1) := by decide +kernel
theorem dX10_build_22 : decode cX10_build 22 = .ok (.if_icmp .ne 10, 3) := by decide +kernel
theorem dX10_build_25 : decode cX10_build 25 = .ok (.aload_n 0, 1) := by decide +kernel
theorem dX10_build_26 : decode cX10_build 26 = .ok (.bipush (-6), 2) := by decide +kernel
theorem dX10_build_28 : decode cX10_build 28 = .ok (.invokevirtual 96, 3) := by decide +kernel
theorem dX10_build_31 : decode cX10_build 31 = .ok (.ireturn, 1) := by decide +kernel
theorem dX10_build_32 : decode cX10_build 32 = .ok (.aload_n 0, 1) := by decide +kernel
theorem dX10_build_33 : decode cX10_build 33 = .ok (.getfield 27, 3) := by decide +kernel
theorem dX10_build_36 : decode cX10_build 36 = .ok (.iload_n 1, 1) := by decide +kernel
theorem dX10_build_37 : decode cX10_build 37 = .ok (.aaload, 1) := by decide +kernel
theorem dX10_build_38 : decode cX10_build 38 = .ok (.astore_n 2, 1) := by decide +kernel
theorem dX10_build_39 : decode cX10_build 39 = .ok (.aload_n 2, 1) := by decide +kernel
theorem dX10_build_40 : decode cX10_build 40 = .ok (.iconst 0, 1) := by decide +kernel
theorem dX10_build_41 : decode cX10_build 41 = .ok (.putfield 136, 3) := by decide +kernel
theorem dX10_build_44 : decode cX10_build 44 = .ok (.iconst 0, 1) := by decide +kernel
theorem dX10_build_45 : decode cX10_build 45 = .ok (.istore_n 3, 1) := by decide +kernel
theorem dX10_build_46 : decode cX10_build 46 = .ok (.iload_n 3, 1) := by decide +kernel
theorem dX10_build_47 : decode cX10_build 47 = .ok (.aload_n 0, 1) := by decide +kernel
theorem dX10_build_48 : decode cX10_build 48 = .ok (.getfield 64, 3) := by decide +kernel
theorem dX10_build_51 : decode cX10_build 51 = .ok (.getfield 247, 3) := by decide +kernel
theorem dX10_build_54 : decode cX10_build 54 = .ok (.if_icmp .ge 30, 3) := by decide +kernel
theorem dX10_build_57 : decode cX10_build 57 = .ok (.aload_n 2, 1) := by decide +kernel
theorem dX10_build_58 : decode cX10_build 58 = .ok (.aload_n 0, 1) := by decide +kernel
theorem dX10_build_59 : decode cX10_build 59 = .ok (.getfield 41, 3) := by decide +kernel
theorem dX10_build_62 : decode cX10_build 62 = .ok (.getfield 142, 3) := by decide +kernel
theorem dX10_build_65 : decode cX10_build 65 = .ok (.aload_n 0, 1) := by decide +kernel
theorem dX10_build_66 : decode cX10_build 66 = .ok (.getfield 64, 3) := by decide +kernel
theorem dX10_build_69 : decode cX10_build 69 = .ok (.getfield 253, 3) := by decide +kernel
theorem dX10_build_72 : decode cX10_build 72 = .ok (.iload_n 3, 1) := by decide +kernel
theorem dX10_build_73 : decode cX10_build 73 = .ok (.iaload, 1) := by decide +kernel
theorem dX10_build_74 : decode cX10_build 74 = .ok (.aaload, 1) := by decide +kernel
theorem dX10_build_75 : decode cX10_build 75 = .ok (.invokevirtual 146, 3) := by decide +kernel
theorem dX10_build_78 : decode cX10_build 78 = .ok (.iinc 3 1, 3) := by decide +kernel
theorem dX10_build_81 : decode cX10_build 81 = .ok (.goto (-35), 3) := by decide +kernel
theorem dX10_build_84 : decode cX10_build 84 = .ok (.aload_n 0, 1) := by decide +kernel
theorem dX10_build_85 : decode cX10_build 85 = .ok (.getfield 33, 3) := by decide +kernel
theorem dX10_build_88 : decode cX10_build 88 = .ok (.iload_n 1, 1) := by decide +kernel
theorem dX10_build_89 : decode cX10_build 89 = .ok (.aaload, 1) := by decide +kernel
theorem dX10_build_90 : decode cX10_build 90 = .ok (.iconst 0, 1) := by decide +kernel
theorem dX10_build_91 : decode cX10_build 91 = .ok (.putfield 132, 3) := by decide +kernel
theorem dX10_build_94 : decode cX10_build 94 = .ok (.aload_n 0, 1) := by decide +kernel
theorem dX10_build_95 : decode cX10_build 95 = .ok (.aload_n 2, 1) := by decide +kernel
theorem dX10_build_96 : decode cX10_build 96 = .ok (.getfield 136, 3) := by decide +kernel
theorem dX10_build_99 : decode cX10_build 99 = .ok (.invokevirtual 106, 3) := by decide +kernel
theorem dX10_build_102 : decode cX10_build 102 = .ok (.ireturn, 1) := by decide +kernel
theorem dX10_count_0 : decode cX10_count 0 = .ok (.iload_n 1, 1) := by decide +kernel
theorem dX10_count_1 : decode cX10_count 1 = .ok (.iconst 1, 1) := by decide +kernel
theorem dX10_count_2 : decode cX10_count 2 = .ok (.if_icmp .lt 20, 3) := by decide +kernel
theorem dX10_count_5 : decode cX10_count 5 = .ok (.iload_n 1, 1) := by decide +kernel
theorem dX10_count_6 : decode cX10_count 6 = .ok (.iconst 4, 1) := by decide +kernel
theorem dX10_count_7 : decode cX10_count 7 = .ok (.if_icmp .gt 15, 3) := by decide +kernel
theorem dX10_count_10 : decode cX10_count 10 = .ok (.aload_n 0, 1) := by decide +kernel
theorem dX10_count_11 : decode cX10_count 11 = .ok (.getfield 27, 3) := by decide +kernel
theorem dX10_count_14 : decode cX10_count 14 = .ok (.iload_n 1, 1) := by decide +kernel
theorem dX10_count_15 : decode cX10_count 15 = .ok (.iconst 1, 1) := by decide +kernel
theorem dX10_count_16 : decode cX10_count 16 = .ok (.isub, 1) := by decide +kernel
theorem dX10_count_17 : decode cX10_count 17 = .ok (.aaload, 1) := by decide +kernel
theorem dX10_count_18 : decode cX10_count 18 = .ok (.getfield 136, 3) := by decide +kernel
theorem dX10_count_21 : decode cX10_count 21 = .ok (.ireturn, 1) := by decide +kernel
theorem dX10_count_22 : decode cX10_count 22 = .ok (.iload_n 1, 1) := by decide +kernel
theorem dX10_count_23 : decode cX10_count 23 = .ok (.tableswitch 74 0 7 #[45, 74, 74, 74, 74, 50, 58, 66], 45) := by decide +kernel
theorem dX10_count_68 : decode cX10_count 68 = .ok (.aload_n 0, 1) := by decide +kernel
theorem dX10_count_69 : decode cX10_count 69 = .ok (.getfield 100, 3) := by decide +kernel
theorem dX10_count_72 : decode cX10_count 72 = .ok (.ireturn, 1) := by decide +kernel
theorem dX10_count_73 : decode cX10_count 73 = .ok (.aload_n 0, 1) := by decide +kernel
theorem dX10_count_74 : decode cX10_count 74 = .ok (.getfield 41, 3) := by decide +kernel
theorem dX10_count_77 : decode cX10_count 77 = .ok (.getfield 136, 3) := by decide +kernel
theorem dX10_count_80 : decode cX10_count 80 = .ok (.ireturn, 1) := by decide +kernel
theorem dX10_count_81 : decode cX10_count 81 = .ok (.aload_n 0, 1) := by decide +kernel
theorem dX10_count_82 : decode cX10_count 82 = .ok (.getfield 48, 3) := by decide +kernel
theorem dX10_count_85 : decode cX10_count 85 = .ok (.getfield 197, 3) := by decide +kernel
theorem dX10_count_88 : decode cX10_count 88 = .ok (.ireturn, 1) := by decide +kernel
theorem dX10_count_89 : decode cX10_count 89 = .ok (.aload_n 0, 1) := by decide +kernel
theorem dX10_count_90 : decode cX10_count 90 = .ok (.getfield 12, 3) := by decide +kernel
theorem dX10_count_93 : decode cX10_count 93 = .ok (.getfield 116, 3) := by decide +kernel
theorem dX10_count_96 : decode cX10_count 96 = .ok (.ireturn, 1) := by decide +kernel
theorem dX10_count_97 : decode cX10_count 97 = .ok (.iconst (-1), 1) := by decide +kernel
theorem dX10_count_98 : decode cX10_count 98 = .ok (.ireturn, 1) := by decide +kernel
theorem dX10_status_0 : decode cX10_status 0 = .ok (.aload_n 0, 1) := by decide +kernel
theorem dX10_status_1 : decode cX10_status 1 = .ok (.getfield 256, 3) := by decide +kernel
theorem dX10_status_4 : decode cX10_status 4 = .ok (.ireturn, 1) := by decide +kernel
theorem dX10_refuse_0 : decode cX10_refuse 0 = .ok (.aload_n 0, 1) := by decide +kernel
theorem dX10_refuse_1 : decode cX10_refuse 1 = .ok (.iload_n 1, 1) := by decide +kernel
theorem dX10_refuse_2 : decode cX10_refuse 2 = .ok (.putfield 256, 3) := by decide +kernel
theorem dX10_refuse_5 : decode cX10_refuse 5 = .ok (.iload_n 1, 1) := by decide +kernel
theorem dX10_refuse_6 : decode cX10_refuse 6 = .ok (.ireturn, 1) := by decide +kernel
theorem dX10_allow_0 : decode cX10_allow 0 = .ok (.aload_n 0, 1) := by decide +kernel
theorem dX10_allow_1 : decode cX10_allow 1 = .ok (.iconst 0, 1) := by decide +kernel
theorem dX10_allow_2 : decode cX10_allow 2 = .ok (.putfield 256, 3) := by decide +kernel
theorem dX10_allow_5 : decode cX10_allow 5 = .ok (.iload_n 1, 1) := by decide +kernel
theorem dX10_allow_6 : decode cX10_allow 6 = .ok (.ireturn, 1) := by decide +kernel
theorem dX10_isBench_0 : decode cX10_isBench 0 = .ok (.iload_n 0, 1) := by decide +kernel
theorem dX10_isBench_1 : decode cX10_isBench 1 = .ok (.ifCond .lt 12, 3) := by decide +kernel
theorem dX10_isBench_4 : decode cX10_isBench 4 = .ok (.iload_n 0, 1) := by decide +kernel
theorem dX10_isBench_5 : decode cX10_isBench 5 = .ok (.iconst 4, 1) := by decide +kernel
theorem dX10_isBench_6 : decode cX10_isBench 6 = .ok (.if_icmp .ge 7, 3) := by decide +kernel
theorem dX10_isBench_9 : decode cX10_isBench 9 = .ok (.iconst 1, 1) := by decide +kernel
theorem dX10_isBench_10 : decode cX10_isBench 10 = .ok (.goto 4, 3) := by decide +kernel
theorem dX10_isBench_13 : decode cX10_isBench 13 = .ok (.iconst 0, 1) := by decide +kernel
theorem dX10_isBench_14 : decode cX10_isBench 14 = .ok (.ireturn, 1) := by decide +kernel
theorem dX10_isDay_0 : decode cX10_isDay 0 = .ok (.iload_n 0, 1) := by decide +kernel
theorem dX10_isDay_1 : decode cX10_isDay 1 = .ok (.ifCond .lt 14, 3) := by decide +kernel
theorem dX10_isDay_4 : decode cX10_isDay 4 = .ok (.iload_n 0, 1) := by decide +kernel
theorem dX10_isDay_5 : decode cX10_isDay 5 = .ok (.sipush 1000, 3) := by decide +kernel
theorem dX10_isDay_8 : decode cX10_isDay 8 = .ok (.if_icmp .ge 7, 3) := by decide +kernel
theorem dX10_isDay_11 : decode cX10_isDay 11 = .ok (.iconst 1, 1) := by decide +kernel
theorem dX10_isDay_12 : decode cX10_isDay 12 = .ok (.goto 4, 3) := by decide +kernel
theorem dX10_isDay_15 : decode cX10_isDay 15 = .ok (.iconst 0, 1) := by decide +kernel
theorem dX10_isDay_16 : decode cX10_isDay 16 = .ok (.ireturn, 1) := by decide +kernel
theorem dX10_areBits_0 : decode cX10_areBits 0 = .ok (.iload_n 0, 1) := by decide +kernel
theorem dX10_areBits_1 : decode cX10_areBits 1 = .ok (.ifCond .lt 13, 3) := by decide +kernel
theorem dX10_areBits_4 : decode cX10_areBits 4 = .ok (.iload_n 0, 1) := by decide +kernel
theorem dX10_areBits_5 : decode cX10_areBits 5 = .ok (.bipush 32, 2) := by decide +kernel
theorem dX10_areBits_7 : decode cX10_areBits 7 = .ok (.if_icmp .ge 7, 3) := by decide +kernel
theorem dX10_areBits_10 : decode cX10_areBits 10 = .ok (.iconst 1, 1) := by decide +kernel
theorem dX10_areBits_11 : decode cX10_areBits 11 = .ok (.goto 4, 3) := by decide +kernel
theorem dX10_areBits_14 : decode cX10_areBits 14 = .ok (.iconst 0, 1) := by decide +kernel
theorem dX10_areBits_15 : decode cX10_areBits 15 = .ok (.ireturn, 1) := by decide +kernel
theorem dX10_packCounts_0 : decode cX10_packCounts 0 = .ok (.iload_n 0, 1) := by decide +kernel
theorem dX10_packCounts_1 : decode cX10_packCounts 1 = .ok (.iload_n 1, 1) := by decide +kernel
theorem dX10_packCounts_2 : decode cX10_packCounts 2 = .ok (.invokestatic 259, 3) := by decide +kernel
theorem dX10_packCounts_5 : decode cX10_packCounts 5 = .ok (.iload_n 2, 1) := by decide +kernel
theorem dX10_packCounts_6 : decode cX10_packCounts 6 = .ok (.iload_n 3, 1) := by decide +kernel
theorem dX10_packCounts_7 : decode cX10_packCounts 7 = .ok (.invokestatic 259, 3) := by decide +kernel
theorem dX10_packCounts_10 : decode cX10_packCounts 10 = .ok (.invokestatic 259, 3) := by decide +kernel
theorem dX10_packCounts_13 : decode cX10_packCounts 13 = .ok (.iload 4, 2) := by decide +kernel
theorem dX10_packCounts_15 : decode cX10_packCounts 15 = .ok (.invokestatic 259, 3) := by decide +kernel
theorem dX10_packCounts_18 : decode cX10_packCounts 18 = .ok (.istore 5, 2) := by decide +kernel
theorem dX10_packCounts_20 : decode cX10_packCounts 20 = .ok (.iload_n 0, 1) := by decide +kernel
theorem dX10_packCounts_21 : decode cX10_packCounts 21 = .ok (.iload_n 1, 1) := by decide +kernel
theorem dX10_packCounts_22 : decode cX10_packCounts 22 = .ok (.invokestatic 264, 3) := by decide +kernel
theorem dX10_packCounts_25 : decode cX10_packCounts 25 = .ok (.iload_n 2, 1) := by decide +kernel
theorem dX10_packCounts_26 : decode cX10_packCounts 26 = .ok (.iload_n 3, 1) := by decide +kernel
theorem dX10_packCounts_27 : decode cX10_packCounts 27 = .ok (.invokestatic 264, 3) := by decide +kernel
theorem dX10_packCounts_30 : decode cX10_packCounts 30 = .ok (.invokestatic 264, 3) := by decide +kernel
theorem dX10_packCounts_33 : decode cX10_packCounts 33 = .ok (.iload 4, 2) := by decide +kernel
theorem dX10_packCounts_35 : decode cX10_packCounts 35 = .ok (.invokestatic 264, 3) := by decide +kernel
theorem dX10_packCounts_38 : decode cX10_packCounts 38 = .ok (.istore 6, 2) := by decide +kernel
theorem dX10_packCounts_40 : decode cX10_packCounts 40 = .ok (.iload 6, 2) := by decide +kernel
theorem dX10_packCounts_42 : decode cX10_packCounts 42 = .ok (.ifCond .lt 9, 3) := by decide +kernel
theorem dX10_packCounts_45 : decode cX10_packCounts 45 = .ok (.iload 5, 2) := by decide +kernel
theorem dX10_packCounts_47 : decode cX10_packCounts 47 = .ok (.iconst 3, 1) := by decide +kernel
theorem dX10_packCounts_48 : decode cX10_packCounts 48 = .ok (.if_icmp .le 5, 3) := by decide +kernel
theorem dX10_packCounts_51 : decode cX10_packCounts 51 = .ok (.iconst (-1), 1) := by decide +kernel
theorem dX10_packCounts_52 : decode cX10_packCounts 52 = .ok (.ireturn, 1) := by decide +kernel
theorem dX10_packCounts_53 : decode cX10_packCounts 53 = .ok (.iload_n 0, 1) := by decide +kernel
theorem dX10_packCounts_54 : decode cX10_packCounts 54 = .ok (.iload_n 1, 1) := by decide +kernel
theorem dX10_packCounts_55 : decode cX10_packCounts 55 = .ok (.iconst 4, 1) := by decide +kernel
theorem dX10_packCounts_56 : decode cX10_packCounts 56 = .ok (.ishl, 1) := by decide +kernel
theorem dX10_packCounts_57 : decode cX10_packCounts 57 = .ok (.ior, 1) := by decide +kernel
theorem dX10_packCounts_58 : decode cX10_packCounts 58 = .ok (.iload_n 2, 1) := by decide +kernel
theorem dX10_packCounts_59 : decode cX10_packCounts 59 = .ok (.bipush 8, 2) := by decide +kernel
theorem dX10_packCounts_61 : decode cX10_packCounts 61 = .ok (.ishl, 1) := by decide +kernel
theorem dX10_packCounts_62 : decode cX10_packCounts 62 = .ok (.ior, 1) := by decide +kernel
theorem dX10_packCounts_63 : decode cX10_packCounts 63 = .ok (.iload_n 3, 1) := by decide +kernel
theorem dX10_packCounts_64 : decode cX10_packCounts 64 = .ok (.bipush 12, 2) := by decide +kernel
theorem dX10_packCounts_66 : decode cX10_packCounts 66 = .ok (.ishl, 1) := by decide +kernel
theorem dX10_packCounts_67 : decode cX10_packCounts 67 = .ok (.ior, 1) := by decide +kernel
theorem dX10_packCounts_68 : decode cX10_packCounts 68 = .ok (.iload 4, 2) := by decide +kernel
theorem dX10_packCounts_70 : decode cX10_packCounts 70 = .ok (.bipush 16, 2) := by decide +kernel
theorem dX10_packCounts_72 : decode cX10_packCounts 72 = .ok (.ishl, 1) := by decide +kernel
theorem dX10_packCounts_73 : decode cX10_packCounts 73 = .ok (.ior, 1) := by decide +kernel
theorem dX10_packCounts_74 : decode cX10_packCounts 74 = .ok (.ireturn, 1) := by decide +kernel
theorem dX10_rowOfCounts_0 : decode cX10_rowOfCounts 0 = .ok (.iconst 0, 1) := by decide +kernel
theorem dX10_rowOfCounts_1 : decode cX10_rowOfCounts 1 = .ok (.istore_n 1, 1) := by decide +kernel
theorem dX10_rowOfCounts_2 : decode cX10_rowOfCounts 2 = .ok (.iconst 0, 1) := by decide +kernel
theorem dX10_rowOfCounts_3 : decode cX10_rowOfCounts 3 = .ok (.istore_n 2, 1) := by decide +kernel
theorem dX10_rowOfCounts_4 : decode cX10_rowOfCounts 4 = .ok (.iconst 0, 1) := by decide +kernel
theorem dX10_rowOfCounts_5 : decode cX10_rowOfCounts 5 = .ok (.istore_n 3, 1) := by decide +kernel
theorem dX10_rowOfCounts_6 : decode cX10_rowOfCounts 6 = .ok (.iconst 1, 1) := by decide +kernel
theorem dX10_rowOfCounts_7 : decode cX10_rowOfCounts 7 = .ok (.istore 4, 2) := by decide +kernel
theorem dX10_rowOfCounts_9 : decode cX10_rowOfCounts 9 = .ok (.iload 4, 2) := by decide +kernel
theorem dX10_rowOfCounts_11 : decode cX10_rowOfCounts 11 = .ok (.iconst 5, 1) := by decide +kernel
theorem dX10_rowOfCounts_12 : decode cX10_rowOfCounts 12 = .ok (.if_icmp .gt 51, 3) := by decide +kernel
theorem dX10_rowOfCounts_15 : decode cX10_rowOfCounts 15 = .ok (.iload_n 0, 1) := by decide +kernel
theorem dX10_rowOfCounts_16 : decode cX10_rowOfCounts 16 = .ok (.iconst 4, 1) := by decide +kernel
theorem dX10_rowOfCounts_17 : decode cX10_rowOfCounts 17 = .ok (.iload 4, 2) := by decide +kernel
theorem dX10_rowOfCounts_19 : decode cX10_rowOfCounts 19 = .ok (.iconst 1, 1) := by decide +kernel
theorem dX10_rowOfCounts_20 : decode cX10_rowOfCounts 20 = .ok (.isub, 1) := by decide +kernel
theorem dX10_rowOfCounts_21 : decode cX10_rowOfCounts 21 = .ok (.imul, 1) := by decide +kernel
theorem dX10_rowOfCounts_22 : decode cX10_rowOfCounts 22 = .ok (.ishr, 1) := by decide +kernel
theorem dX10_rowOfCounts_23 : decode cX10_rowOfCounts 23 = .ok (.bipush 15, 2) := by decide +kernel
theorem dX10_rowOfCounts_25 : decode cX10_rowOfCounts 25 = .ok (.iand, 1) := by decide +kernel
theorem dX10_rowOfCounts_26 : decode cX10_rowOfCounts 26 = .ok (.istore 5, 2) := by decide +kernel
theorem dX10_rowOfCounts_28 : decode cX10_rowOfCounts 28 = .ok (.iconst 0, 1) := by decide +kernel
theorem dX10_rowOfCounts_29 : decode cX10_rowOfCounts 29 = .ok (.istore 6, 2) := by decide +kernel
theorem dX10_rowOfCounts_31 : decode cX10_rowOfCounts 31 = .ok (.iload 6, 2) := by decide +kernel
theorem dX10_rowOfCounts_33 : decode cX10_rowOfCounts 33 = .ok (.iload 5, 2) := by decide +kernel
theorem dX10_rowOfCounts_35 : decode cX10_rowOfCounts 35 = .ok (.if_icmp .ge 22, 3) := by decide +kernel
theorem dX10_rowOfCounts_38 : decode cX10_rowOfCounts 38 = .ok (.iload_n 1, 1) := by decide +kernel
theorem dX10_rowOfCounts_39 : decode cX10_rowOfCounts 39 = .ok (.ifCond .eq 5, 3) := by decide +kernel
theorem dX10_rowOfCounts_42 : decode cX10_rowOfCounts 42 = .ok (.iconst (-1), 1) := by decide +kernel
theorem dX10_rowOfCounts_43 : decode cX10_rowOfCounts 43 = .ok (.ireturn, 1) := by decide +kernel
theorem dX10_rowOfCounts_44 : decode cX10_rowOfCounts 44 = .ok (.iload_n 2, 1) := by decide +kernel
theorem dX10_rowOfCounts_45 : decode cX10_rowOfCounts 45 = .ok (.istore_n 1, 1) := by decide +kernel
theorem dX10_rowOfCounts_46 : decode cX10_rowOfCounts 46 = .ok (.iload_n 3, 1) := by decide +kernel
theorem dX10_rowOfCounts_47 : decode cX10_rowOfCounts 47 = .ok (.istore_n 2, 1) := by decide +kernel
theorem dX10_rowOfCounts_48 : decode cX10_rowOfCounts 48 = .ok (.iload 4, 2) := by decide +kernel
theorem dX10_rowOfCounts_50 : decode cX10_rowOfCounts 50 = .ok (.istore_n 3, 1) := by decide +kernel
theorem dX10_rowOfCounts_51 : decode cX10_rowOfCounts 51 = .ok (.iinc 6 1, 3) := by decide +kernel
theorem dX10_rowOfCounts_54 : decode cX10_rowOfCounts 54 = .ok (.goto (-23), 3) := by decide +kernel
theorem dX10_rowOfCounts_57 : decode cX10_rowOfCounts 57 = .ok (.iinc 4 1, 3) := by decide +kernel
theorem dX10_rowOfCounts_60 : decode cX10_rowOfCounts 60 = .ok (.goto (-51), 3) := by decide +kernel
theorem dX10_rowOfCounts_63 : decode cX10_rowOfCounts 63 = .ok (.iload_n 1, 1) := by decide +kernel
theorem dX10_rowOfCounts_64 : decode cX10_rowOfCounts 64 = .ok (.iload_n 2, 1) := by decide +kernel
theorem dX10_rowOfCounts_65 : decode cX10_rowOfCounts 65 = .ok (.iload_n 3, 1) := by decide +kernel
theorem dX10_rowOfCounts_66 : decode cX10_rowOfCounts 66 = .ok (.invokestatic 155, 3) := by decide +kernel
theorem dX10_rowOfCounts_69 : decode cX10_rowOfCounts 69 = .ok (.invokestatic 267, 3) := by decide +kernel
theorem dX10_rowOfCounts_72 : decode cX10_rowOfCounts 72 = .ok (.ireturn, 1) := by decide +kernel
theorem dX10_forgetChances_0 : decode cX10_forgetChances 0 = .ok (.iconst 0, 1) := by decide +kernel
theorem dX10_forgetChances_1 : decode cX10_forgetChances 1 = .ok (.istore_n 1, 1) := by decide +kernel
theorem dX10_forgetChances_2 : decode cX10_forgetChances 2 = .ok (.iload_n 1, 1) := by decide +kernel
theorem dX10_forgetChances_3 : decode cX10_forgetChances 3 = .ok (.iconst 4, 1) := by decide +kernel
theorem dX10_forgetChances_4 : decode cX10_forgetChances 4 = .ok (.if_icmp .ge 19, 3) := by decide +kernel
theorem dX10_forgetChances_7 : decode cX10_forgetChances 7 = .ok (.aload_n 0, 1) := by decide +kernel
theorem dX10_forgetChances_8 : decode cX10_forgetChances 8 = .ok (.getfield 33, 3) := by decide +kernel
theorem dX10_forgetChances_11 : decode cX10_forgetChances 11 = .ok (.iload_n 1, 1) := by decide +kernel
theorem dX10_forgetChances_12 : decode cX10_forgetChances 12 = .ok (.aaload, 1) := by decide +kernel
theorem dX10_forgetChances_13 : decode cX10_forgetChances 13 = .ok (.iconst 0, 1) := by decide +kernel
theorem dX10_forgetChances_14 : decode cX10_forgetChances 14 = .ok (.putfield 132, 3) := by decide +kernel
theorem dX10_forgetChances_17 : decode cX10_forgetChances 17 = .ok (.iinc 1 1, 3) := by decide +kernel
theorem dX10_forgetChances_20 : decode cX10_forgetChances 20 = .ok (.goto (-18), 3) := by decide +kernel
theorem dX10_forgetChances_23 : decode cX10_forgetChances 23 = .ok (.return_, 1) := by decide +kernel
theorem dX10_startKey_0 : decode cX10_startKey 0 = .ok (.aload_n 0, 1) := by decide +kernel
theorem dX10_startKey_1 : decode cX10_startKey 1 = .ok (.getfield 85, 3) := by decide +kernel
theorem dX10_startKey_4 : decode cX10_startKey 4 = .ok (.iconst 0, 1) := by decide +kernel
theorem dX10_startKey_5 : decode cX10_startKey 5 = .ok (.iaload, 1) := by decide +kernel
theorem dX10_startKey_6 : decode cX10_startKey 6 = .ok (.aload_n 0, 1) := by decide +kernel
theorem dX10_startKey_7 : decode cX10_startKey 7 = .ok (.getfield 85, 3) := by decide +kernel
theorem dX10_startKey_10 : decode cX10_startKey 10 = .ok (.iconst 1, 1) := by decide +kernel
theorem dX10_startKey_11 : decode cX10_startKey 11 = .ok (.iaload, 1) := by decide +kernel
theorem dX10_startKey_12 : decode cX10_startKey 12 = .ok (.aload_n 0, 1) := by decide +kernel
theorem dX10_startKey_13 : decode cX10_startKey 13 = .ok (.getfield 85, 3) := by decide +kernel
theorem dX10_startKey_16 : decode cX10_startKey 16 = .ok (.iconst 2, 1) := by decide +kernel
theorem dX10_startKey_17 : decode cX10_startKey 17 = .ok (.iaload, 1) := by decide +kernel
theorem dX10_startKey_18 : decode cX10_startKey 18 = .ok (.invokestatic 155, 3) := by decide +kernel
theorem dX10_startKey_21 : decode cX10_startKey 21 = .ok (.ireturn, 1) := by decide +kernel
theorem dX10_isTold_0 : decode cX10_isTold 0 = .ok (.iload_n 1, 1) := by decide +kernel
theorem dX10_isTold_1 : decode cX10_isTold 1 = .ok (.invokestatic 119, 3) := by decide +kernel
theorem dX10_isTold_4 : decode cX10_isTold 4 = .ok (.ifCond .ne 5, 3) := by decide +kernel
theorem dX10_isTold_7 : decode cX10_isTold 7 = .ok (.iconst 0, 1) := by decide +kernel
theorem dX10_isTold_8 : decode cX10_isTold 8 = .ok (.ireturn, 1) := by decide +kernel
theorem dX10_isTold_9 : decode cX10_isTold 9 = .ok (.aload_n 0, 1) := by decide +kernel
theorem dX10_isTold_10 : decode cX10_isTold 10 = .ok (.getfield 33, 3) := by decide +kernel
theorem dX10_isTold_13 : decode cX10_isTold 13 = .ok (.iload_n 1, 1) := by decide +kernel
theorem dX10_isTold_14 : decode cX10_isTold 14 = .ok (.aaload, 1) := by decide +kernel
theorem dX10_isTold_15 : decode cX10_isTold 15 = .ok (.astore_n 2, 1) := by decide +kernel
theorem dX10_isTold_16 : decode cX10_isTold 16 = .ok (.aload_n 2, 1) := by decide +kernel
theorem dX10_isTold_17 : decode cX10_isTold 17 = .ok (.getfield 132, 3) := by decide +kernel
theorem dX10_isTold_20 : decode cX10_isTold 20 = .ok (.ifCond .eq 18, 3) := by decide +kernel
theorem dX10_isTold_23 : decode cX10_isTold 23 = .ok (.aload_n 2, 1) := by decide +kernel
theorem dX10_isTold_24 : decode cX10_isTold 24 = .ok (.getfield 270, 3) := by decide +kernel
theorem dX10_isTold_27 : decode cX10_isTold 27 = .ok (.ldc 154, 2) := by decide +kernel
theorem dX10_isTold_29 : decode cX10_isTold 29 = .ok (.if_icmp .gt 7, 3) := by decide +kernel
theorem dX10_isTold_32 : decode cX10_isTold 32 = .ok (.iconst 1, 1) := by decide +kernel
theorem dX10_isTold_33 : decode cX10_isTold 33 = .ok (.goto 4, 3) := by decide +kernel
theorem dX10_isTold_36 : decode cX10_isTold 36 = .ok (.iconst 0, 1) := by decide +kernel
theorem dX10_isTold_37 : decode cX10_isTold 37 = .ok (.ireturn, 1) := by decide +kernel
theorem dX10_isTold_38 : decode cX10_isTold 38 = .ok (.aload_n 2, 1) := by decide +kernel
theorem dX10_isTold_39 : decode cX10_isTold 39 = .ok (.iconst 1, 1) := by decide +kernel
theorem dX10_isTold_40 : decode cX10_isTold 40 = .ok (.putfield 132, 3) := by decide +kernel
theorem dX10_isTold_43 : decode cX10_isTold 43 = .ok (.aload_n 2, 1) := by decide +kernel
theorem dX10_isTold_44 : decode cX10_isTold 44 = .ok (.aload_n 0, 1) := by decide +kernel
theorem dX10_isTold_45 : decode cX10_isTold 45 = .ok (.getfield 27, 3) := by decide +kernel
theorem dX10_isTold_48 : decode cX10_isTold 48 = .ok (.iload_n 1, 1) := by decide +kernel
theorem dX10_isTold_49 : decode cX10_isTold 49 = .ok (.aaload, 1) := by decide +kernel
theorem dX10_isTold_50 : decode cX10_isTold 50 = .ok (.aload_n 0, 1) := by decide +kernel
theorem dX10_isTold_51 : decode cX10_isTold 51 = .ok (.getfield 100, 3) := by decide +kernel
theorem dX10_isTold_54 : decode cX10_isTold 54 = .ok (.invokevirtual 150, 3) := by decide +kernel
theorem dX10_isTold_57 : decode cX10_isTold 57 = .ok (.putfield 270, 3) := by decide +kernel
theorem dX10_isTold_60 : decode cX10_isTold 60 = .ok (.aload_n 2, 1) := by decide +kernel
theorem dX10_isTold_61 : decode cX10_isTold 61 = .ok (.getfield 270, 3) := by decide +kernel
theorem dX10_isTold_64 : decode cX10_isTold 64 = .ok (.ldc 154, 2) := by decide +kernel
theorem dX10_isTold_66 : decode cX10_isTold 66 = .ok (.if_icmp .le 5, 3) := by decide +kernel
theorem dX10_isTold_69 : decode cX10_isTold 69 = .ok (.iconst 0, 1) := by decide +kernel
theorem dX10_isTold_70 : decode cX10_isTold 70 = .ok (.ireturn, 1) := by decide +kernel
theorem dX10_isTold_71 : decode cX10_isTold 71 = .ok (.aload_n 0, 1) := by decide +kernel
theorem dX10_isTold_72 : decode cX10_isTold 72 = .ok (.invokevirtual 240, 3) := by decide +kernel
theorem dX10_isTold_75 : decode cX10_isTold 75 = .ok (.istore_n 3, 1) := by decide +kernel
theorem dX10_isTold_76 : decode cX10_isTold 76 = .ok (.aload_n 2, 1) := by decide +kernel
theorem dX10_isTold_77 : decode cX10_isTold 77 = .ok (.getfield 270, 3) := by decide +kernel
theorem dX10_isTold_80 : decode cX10_isTold 80 = .ok (.i2l, 1) := by decide +kernel
theorem dX10_isTold_81 : decode cX10_isTold 81 = .ok (.aload_n 2, 1) := by decide +kernel
theorem dX10_isTold_82 : decode cX10_isTold 82 = .ok (.getfield 270, 3) := by decide +kernel
theorem dX10_isTold_85 : decode cX10_isTold 85 = .ok (.i2l, 1) := by decide +kernel
theorem dX10_isTold_86 : decode cX10_isTold 86 = .ok (.lmul, 1) := by decide +kernel
theorem dX10_isTold_87 : decode cX10_isTold 87 = .ok (.iload_n 3, 1) := by decide +kernel
theorem dX10_isTold_88 : decode cX10_isTold 88 = .ok (.invokestatic 273, 3) := by decide +kernel
theorem dX10_isTold_91 : decode cX10_isTold 91 = .ok (.i2l, 1) := by decide +kernel
theorem dX10_isTold_92 : decode cX10_isTold 92 = .ok (.lmul, 1) := by decide +kernel
theorem dX10_isTold_93 : decode cX10_isTold 93 = .ok (.lstore 4, 2) := by decide +kernel
theorem dX10_isTold_95 : decode cX10_isTold 95 = .ok (.aload_n 2, 1) := by decide +kernel
theorem dX10_isTold_96 : decode cX10_isTold 96 = .ok (.aload_n 0, 1) := by decide +kernel
theorem dX10_isTold_97 : decode cX10_isTold 97 = .ok (.aload_n 0, 1) := by decide +kernel
theorem dX10_isTold_98 : decode cX10_isTold 98 = .ok (.getfield 27, 3) := by decide +kernel
theorem dX10_isTold_101 : decode cX10_isTold 101 = .ok (.iload_n 1, 1) := by decide +kernel
theorem dX10_isTold_102 : decode cX10_isTold 102 = .ok (.aaload, 1) := by decide +kernel
theorem dX10_isTold_103 : decode cX10_isTold 103 = .ok (.iload_n 3, 1) := by decide +kernel
theorem dX10_isTold_104 : decode cX10_isTold 104 = .ok (.invokevirtual 159, 3) := by decide +kernel
theorem dX10_isTold_107 : decode cX10_isTold 107 = .ok (.lload 4, 2) := by decide +kernel
theorem dX10_isTold_109 : decode cX10_isTold 109 = .ok (.invokevirtual 276, 3) := by decide +kernel
theorem dX10_isTold_112 : decode cX10_isTold 112 = .ok (.iconst 1, 1) := by decide +kernel
theorem dX10_isTold_113 : decode cX10_isTold 113 = .ok (.ireturn, 1) := by decide +kernel
theorem dX10_sumApart_0 : decode cX10_sumApart 0 = .ok (.aload_n 0, 1) := by decide +kernel
theorem dX10_sumApart_1 : decode cX10_sumApart 1 = .ok (.getfield 48, 3) := by decide +kernel
theorem dX10_sumApart_4 : decode cX10_sumApart 4 = .ok (.iload_n 1, 1) := by decide +kernel
theorem dX10_sumApart_5 : decode cX10_sumApart 5 = .ok (.iload_n 2, 1) := by decide +kernel
theorem dX10_sumApart_6 : decode cX10_sumApart 6 = .ok (.invokevirtual 201, 3) := by decide +kernel
theorem dX10_sumApart_9 : decode cX10_sumApart 9 = .ok (.aload_n 0, 1) := by decide +kernel
theorem dX10_sumApart_10 : decode cX10_sumApart 10 = .ok (.getfield 48, 3) := by decide +kernel
theorem dX10_sumApart_13 : decode cX10_sumApart 13 = .ok (.getfield 205, 3) := by decide +kernel
theorem dX10_sumApart_16 : decode cX10_sumApart 16 = .ok (.ifCond .gt 5, 3) := by decide +kernel
theorem dX10_sumApart_19 : decode cX10_sumApart 19 = .ok (.iconst (-1), 1) := by decide +kernel
theorem dX10_sumApart_20 : decode cX10_sumApart 20 = .ok (.ireturn, 1) := by decide +kernel
theorem dX10_sumApart_21 : decode cX10_sumApart 21 = .ok (.iconst 0, 1) := by decide +kernel
theorem dX10_sumApart_22 : decode cX10_sumApart 22 = .ok (.istore_n 3, 1) := by decide +kernel
theorem dX10_sumApart_23 : decode cX10_sumApart 23 = .ok (.iconst 0, 1) := by decide +kernel
theorem dX10_sumApart_24 : decode cX10_sumApart 24 = .ok (.istore 4, 2) := by decide +kernel
theorem dX10_sumApart_26 : decode cX10_sumApart 26 = .ok (.iload 4, 2) := by decide +kernel
theorem dX10_sumApart_28 : decode cX10_sumApart 28 = .ok (.bipush 32, 2) := by decide +kernel
theorem dX10_sumApart_30 : decode cX10_sumApart 30 = .ok (.if_icmp .ge 64, 3) := by decide +kernel
theorem dX10_sumApart_33 : decode cX10_sumApart 33 = .ok (.aload_n 0, 1) := by decide +kernel
theorem dX10_sumApart_34 : decode cX10_sumApart 34 = .ok (.getfield 33, 3) := by decide +kernel
theorem dX10_sumApart_37 : decode cX10_sumApart 37 = .ok (.iload_n 1, 1) := by decide +kernel
theorem dX10_sumApart_38 : decode cX10_sumApart 38 = .ok (.aaload, 1) := by decide +kernel
theorem dX10_sumApart_39 : decode cX10_sumApart 39 = .ok (.iload 4, 2) := by decide +kernel
theorem dX10_sumApart_41 : decode cX10_sumApart 41 = .ok (.aload_n 0, 1) := by decide +kernel
theorem dX10_sumApart_42 : decode cX10_sumApart 42 = .ok (.getfield 89, 3) := by decide +kernel
theorem dX10_sumApart_45 : decode cX10_sumApart 45 = .ok (.aload_n 0, 1) := by decide +kernel
theorem dX10_sumApart_46 : decode cX10_sumApart 46 = .ok (.getfield 81, 3) := by decide +kernel
theorem dX10_sumApart_49 : decode cX10_sumApart 49 = .ok (.invokevirtual 190, 3) := by decide +kernel
theorem dX10_sumApart_52 : decode cX10_sumApart 52 = .ok (.iload_n 3, 1) := by decide +kernel
theorem dX10_sumApart_53 : decode cX10_sumApart 53 = .ok (.sipush 1000, 3) := by decide +kernel
theorem dX10_sumApart_56 : decode cX10_sumApart 56 = .ok (.aload_n 0, 1) := by decide +kernel
theorem dX10_sumApart_57 : decode cX10_sumApart 57 = .ok (.getfield 48, 3) := by decide +kernel
theorem dX10_sumApart_60 : decode cX10_sumApart 60 = .ok (.getfield 208, 3) := by decide +kernel
theorem dX10_sumApart_63 : decode cX10_sumApart 63 = .ok (.iload 4, 2) := by decide +kernel
theorem dX10_sumApart_65 : decode cX10_sumApart 65 = .ok (.iaload, 1) := by decide +kernel
theorem dX10_sumApart_66 : decode cX10_sumApart 66 = .ok (.imul, 1) := by decide +kernel
theorem dX10_sumApart_67 : decode cX10_sumApart 67 = .ok (.aload_n 0, 1) := by decide +kernel
theorem dX10_sumApart_68 : decode cX10_sumApart 68 = .ok (.getfield 48, 3) := by decide +kernel
theorem dX10_sumApart_71 : decode cX10_sumApart 71 = .ok (.getfield 205, 3) := by decide +kernel
theorem dX10_sumApart_74 : decode cX10_sumApart 74 = .ok (.idiv, 1) := by decide +kernel
theorem dX10_sumApart_75 : decode cX10_sumApart 75 = .ok (.aload_n 0, 1) := by decide +kernel
theorem dX10_sumApart_76 : decode cX10_sumApart 76 = .ok (.getfield 81, 3) := by decide +kernel
theorem dX10_sumApart_79 : decode cX10_sumApart 79 = .ok (.invokevirtual 280, 3) := by decide +kernel
theorem dX10_sumApart_82 : decode cX10_sumApart 82 = .ok (.isub, 1) := by decide +kernel
theorem dX10_sumApart_83 : decode cX10_sumApart 83 = .ok (.invokestatic 283, 3) := by decide +kernel
theorem dX10_sumApart_86 : decode cX10_sumApart 86 = .ok (.iadd, 1) := by decide +kernel
theorem dX10_sumApart_87 : decode cX10_sumApart 87 = .ok (.istore_n 3, 1) := by decide +kernel
theorem dX10_sumApart_88 : decode cX10_sumApart 88 = .ok (.iinc 4 1, 3) := by decide +kernel
theorem dX10_sumApart_91 : decode cX10_sumApart 91 = .ok (.goto (-65), 3) := by decide +kernel
theorem dX10_sumApart_94 : decode cX10_sumApart 94 = .ok (.iload_n 3, 1) := by decide +kernel
theorem dX10_sumApart_95 : decode cX10_sumApart 95 = .ok (.ireturn, 1) := by decide +kernel
theorem dX10_lightThrough_0 : decode cX10_lightThrough 0 = .ok (.aload_n 0, 1) := by decide +kernel
theorem dX10_lightThrough_1 : decode cX10_lightThrough 1 = .ok (.getfield 71, 3) := by decide +kernel
theorem dX10_lightThrough_4 : decode cX10_lightThrough 4 = .ok (.astore_n 3, 1) := by decide +kernel
theorem dX10_lightThrough_5 : decode cX10_lightThrough 5 = .ok (.aload_n 0, 1) := by decide +kernel
theorem dX10_lightThrough_6 : decode cX10_lightThrough 6 = .ok (.getfield 75, 3) := by decide +kernel
theorem dX10_lightThrough_9 : decode cX10_lightThrough 9 = .ok (.astore 4, 2) := by decide +kernel
theorem dX10_lightThrough_11 : decode cX10_lightThrough 11 = .ok (.aload_n 3, 1) := by decide +kernel
theorem dX10_lightThrough_12 : decode cX10_lightThrough 12 = .ok (.iload_n 2, 1) := by decide +kernel
theorem dX10_lightThrough_13 : decode cX10_lightThrough 13 = .ok (.invokevirtual 286, 3) := by decide +kernel
theorem dX10_lightThrough_16 : decode cX10_lightThrough 16 = .ok (.iconst 0, 1) := by decide +kernel
theorem dX10_lightThrough_17 : decode cX10_lightThrough 17 = .ok (.istore 5, 2) := by decide +kernel
theorem dX10_lightThrough_19 : decode cX10_lightThrough 19 = .ok (.iload 5, 2) := by decide +kernel
theorem dX10_lightThrough_21 : decode cX10_lightThrough 21 = .ok (.aload_n 1, 1) := by decide +kernel
theorem dX10_lightThrough_22 : decode cX10_lightThrough 22 = .ok (.getfield 136, 3) := by decide +kernel
theorem dX10_lightThrough_25 : decode cX10_lightThrough 25 = .ok (.if_icmp .ge 58, 3) := by decide +kernel
theorem dX10_lightThrough_28 : decode cX10_lightThrough 28 = .ok (.aload_n 1, 1) := by decide +kernel
theorem dX10_lightThrough_29 : decode cX10_lightThrough 29 = .ok (.getfield 142, 3) := by decide +kernel
theorem dX10_lightThrough_32 : decode cX10_lightThrough 32 = .ok (.iload 5, 2) := by decide +kernel
theorem dX10_lightThrough_34 : decode cX10_lightThrough 34 = .ok (.aaload, 1) := by decide +kernel
theorem dX10_lightThrough_35 : decode cX10_lightThrough 35 = .ok (.astore 6, 2) := by decide +kernel
theorem dX10_lightThrough_37 : decode cX10_lightThrough 37 = .ok (.aload 6, 2) := by decide +kernel
theorem dX10_lightThrough_39 : decode cX10_lightThrough 39 = .ok (.getfield 289, 3) := by decide +kernel
theorem dX10_lightThrough_42 : decode cX10_lightThrough 42 = .ok (.iconst 5, 1) := by decide +kernel
theorem dX10_lightThrough_43 : decode cX10_lightThrough 43 = .ok (.if_icmp .eq 34, 3) := by decide +kernel
theorem dX10_lightThrough_46 : decode cX10_lightThrough 46 = .ok (.aload_n 0, 1) := by decide +kernel
theorem dX10_lightThrough_47 : decode cX10_lightThrough 47 = .ok (.getfield 55, 3) := by decide +kernel
theorem dX10_lightThrough_50 : decode cX10_lightThrough 50 = .ok (.aload 6, 2) := by decide +kernel
theorem dX10_lightThrough_52 : decode cX10_lightThrough 52 = .ok (.invokevirtual 294, 3) := by decide +kernel
theorem dX10_lightThrough_55 : decode cX10_lightThrough 55 = .ok (.aload_n 3, 1) := by decide +kernel
theorem dX10_lightThrough_56 : decode cX10_lightThrough 56 = .ok (.aload 6, 2) := by decide +kernel
theorem dX10_lightThrough_58 : decode cX10_lightThrough 58 = .ok (.aload_n 0, 1) := by decide +kernel
theorem dX10_lightThrough_59 : decode cX10_lightThrough 59 = .ok (.getfield 55, 3) := by decide +kernel
theorem dX10_lightThrough_62 : decode cX10_lightThrough 62 = .ok (.aload 4, 2) := by decide +kernel
theorem dX10_lightThrough_64 : decode cX10_lightThrough 64 = .ok (.invokevirtual 297, 3) := by decide +kernel
theorem dX10_lightThrough_67 : decode cX10_lightThrough 67 = .ok (.aload_n 3, 1) := by decide +kernel
theorem dX10_lightThrough_68 : decode cX10_lightThrough 68 = .ok (.astore 7, 2) := by decide +kernel
theorem dX10_lightThrough_70 : decode cX10_lightThrough 70 = .ok (.aload 4, 2) := by decide +kernel
theorem dX10_lightThrough_72 : decode cX10_lightThrough 72 = .ok (.astore_n 3, 1) := by decide +kernel
theorem dX10_lightThrough_73 : decode cX10_lightThrough 73 = .ok (.aload 7, 2) := by decide +kernel
theorem dX10_lightThrough_75 : decode cX10_lightThrough 75 = .ok (.astore 4, 2) := by decide +kernel
theorem dX10_lightThrough_77 : decode cX10_lightThrough 77 = .ok (.iinc 5 1, 3) := by decide +kernel
theorem dX10_lightThrough_80 : decode cX10_lightThrough 80 = .ok (.goto (-61), 3) := by decide +kernel
theorem dX10_lightThrough_83 : decode cX10_lightThrough 83 = .ok (.aload_n 3, 1) := by decide +kernel
theorem dX10_lightThrough_84 : decode cX10_lightThrough 84 = .ok (.areturn, 1) := by decide +kernel
theorem dX11_init_0 : decode cX11_init 0 = .ok (.aload_n 0, 1) := by decide +kernel
theorem dX11_init_1 : decode cX11_init 1 = .ok (.invokespecial 1, 3) := by decide +kernel
theorem dX11_init_4 : decode cX11_init 4 = .ok (.aload_n 0, 1) := by decide +kernel
theorem dX11_init_5 : decode cX11_init 5 = .ok (.iconst 3, 1) := by decide +kernel
theorem dX11_init_6 : decode cX11_init 6 = .ok (.newarray .int, 2) := by decide +kernel
theorem dX11_init_8 : decode cX11_init 8 = .ok (.putfield 7, 3) := by decide +kernel
theorem dX11_init_11 : decode cX11_init 11 = .ok (.aload_n 0, 1) := by decide +kernel
theorem dX11_init_12 : decode cX11_init 12 = .ok (.sipush 512, 3) := by decide +kernel
theorem dX11_init_15 : decode cX11_init 15 = .ok (.newarray .int, 2) := by decide +kernel
theorem dX11_init_17 : decode cX11_init 17 = .ok (.putfield 13, 3) := by decide +kernel
theorem dX11_init_20 : decode cX11_init 20 = .ok (.aload_n 0, 1) := by decide +kernel
theorem dX11_init_21 : decode cX11_init 21 = .ok (.iconst 4, 1) := by decide +kernel
theorem dX11_init_22 : decode cX11_init 22 = .ok (.newarray .int, 2) := by decide +kernel
theorem dX11_init_24 : decode cX11_init 24 = .ok (.putfield 16, 3) := by decide +kernel
theorem dX11_init_27 : decode cX11_init 27 = .ok (.aload_n 0, 1) := by decide +kernel
theorem dX11_init_28 : decode cX11_init 28 = .ok (.bipush 64, 2) := by decide +kernel
theorem dX11_init_30 : decode cX11_init 30 = .ok (.newarray .int, 2) := by decide +kernel
theorem dX11_init_32 : decode cX11_init 32 = .ok (.putfield 19, 3) := by decide +kernel
theorem dX11_init_35 : decode cX11_init 35 = .ok (.aload_n 0, 1) := by decide +kernel
theorem dX11_init_36 : decode cX11_init 36 = .ok (.sipush 128, 3) := by decide +kernel
theorem dX11_init_39 : decode cX11_init 39 = .ok (.newarray .int, 2) := by decide +kernel
theorem dX11_init_41 : decode cX11_init 41 = .ok (.putfield 22, 3) := by decide +kernel
theorem dX11_init_44 : decode cX11_init 44 = .ok (.aload_n 0, 1) := by decide +kernel
theorem dX11_init_45 : decode cX11_init 45 = .ok (.iconst 5, 1) := by decide +kernel
theorem dX11_init_46 : decode cX11_init 46 = .ok (.newarray .boolean, 2) := by decide +kernel
theorem dX11_init_48 : decode cX11_init 48 = .ok (.putfield 25, 3) := by decide +kernel
theorem dX11_init_51 : decode cX11_init 51 = .ok (.aload_n 0, 1) := by decide +kernel
theorem dX11_init_52 : decode cX11_init 52 = .ok (.sipush 400, 3) := by decide +kernel
theorem dX11_init_55 : decode cX11_init 55 = .ok (.newarray .byte, 2) := by decide +kernel
theorem dX11_init_57 : decode cX11_init 57 = .ok (.putfield 29, 3) := by decide +kernel
theorem dX11_init_60 : decode cX11_init 60 = .ok (.aload_n 0, 1) := by decide +kernel
theorem dX11_init_61 : decode cX11_init 61 = .ok (.sipush 400, 3) := by decide +kernel
theorem dX11_init_64 : decode cX11_init 64 = .ok (.newarray .byte, 2) := by decide +kernel
theorem dX11_init_66 : decode cX11_init 66 = .ok (.putfield 33, 3) := by decide +kernel
theorem dX11_init_69 : decode cX11_init 69 = .ok (.aload_n 0, 1) := by decide +kernel
theorem dX11_init_70 : decode cX11_init 70 = .ok (.iconst 5, 1) := by decide +kernel
theorem dX11_init_71 : decode cX11_init 71 = .ok (.newarray .int, 2) := by decide +kernel
theorem dX11_init_73 : decode cX11_init 73 = .ok (.putfield 36, 3) := by decide +kernel
theorem dX11_init_76 : decode cX11_init 76 = .ok (.aload_n 0, 1) := by decide +kernel
theorem dX11_init_77 : decode cX11_init 77 = .ok (.iconst (-1), 1) := by decide +kernel
theorem dX11_init_78 : decode cX11_init 78 = .ok (.putfield 39, 3) := by decide +kernel
theorem dX11_init_81 : decode cX11_init 81 = .ok (.aload_n 0, 1) := by decide +kernel
theorem dX11_init_82 : decode cX11_init 82 = .ok (.sipush 16384, 3) := by decide +kernel
theorem dX11_init_85 : decode cX11_init 85 = .ok (.newarray .long, 2) := by decide +kernel
theorem dX11_init_87 : decode cX11_init 87 = .ok (.putfield 43, 3) := by decide +kernel
theorem dX11_init_90 : decode cX11_init 90 = .ok (.aload_n 0, 1) := by decide +kernel
theorem dX11_init_91 : decode cX11_init 91 = .ok (.sipush 16384, 3) := by decide +kernel
theorem dX11_init_94 : decode cX11_init 94 = .ok (.newarray .long, 2) := by decide +kernel
theorem dX11_init_96 : decode cX11_init 96 = .ok (.putfield 47, 3) := by decide +kernel
theorem dX11_init_99 : decode cX11_init 99 = .ok (.aload_n 0, 1) := by decide +kernel
theorem dX11_init_100 : decode cX11_init 100 = .ok (.sipush 16384, 3) := by decide +kernel
theorem dX11_init_103 : decode cX11_init 103 = .ok (.newarray .long, 2) := by decide +kernel
theorem dX11_init_105 : decode cX11_init 105 = .ok (.putfield 50, 3) := by decide +kernel
theorem dX11_init_108 : decode cX11_init 108 = .ok (.aload_n 0, 1) := by decide +kernel
theorem dX11_init_109 : decode cX11_init 109 = .ok (.iconst 4, 1) := by decide +kernel
theorem dX11_init_110 : decode cX11_init 110 = .ok (.newarray .long, 2) := by decide +kernel
theorem dX11_init_112 : decode cX11_init 112 = .ok (.putfield 53, 3) := by decide +kernel
theorem dX11_init_115 : decode cX11_init 115 = .ok (.aload_n 0, 1) := by decide +kernel
theorem dX11_init_116 : decode cX11_init 116 = .ok (.iconst 4, 1) := by decide +kernel
theorem dX11_init_117 : decode cX11_init 117 = .ok (.newarray .long, 2) := by decide +kernel
theorem dX11_init_119 : decode cX11_init 119 = .ok (.putfield 56, 3) := by decide +kernel
theorem dX11_init_122 : decode cX11_init 122 = .ok (.aload_n 0, 1) := by decide +kernel
theorem dX11_init_123 : decode cX11_init 123 = .ok (.sipush 1024, 3) := by decide +kernel
theorem dX11_init_126 : decode cX11_init 126 = .ok (.newarray .long, 2) := by decide +kernel
theorem dX11_init_128 : decode cX11_init 128 = .ok (.putfield 59, 3) := by decide +kernel
theorem dX11_init_131 : decode cX11_init 131 = .ok (.aload_n 0, 1) := by decide +kernel
theorem dX11_init_132 : decode cX11_init 132 = .ok (.sipush 1024, 3) := by decide +kernel
theorem dX11_init_135 : decode cX11_init 135 = .ok (.newarray .long, 2) := by decide +kernel
theorem dX11_init_137 : decode cX11_init 137 = .ok (.putfield 62, 3) := by decide +kernel
theorem dX11_init_140 : decode cX11_init 140 = .ok (.aload_n 0, 1) := by decide +kernel
theorem dX11_init_141 : decode cX11_init 141 = .ok (.iconst 4, 1) := by decide +kernel
theorem dX11_init_142 : decode cX11_init 142 = .ok (.newarray .long, 2) := by decide +kernel
theorem dX11_init_144 : decode cX11_init 144 = .ok (.putfield 65, 3) := by decide +kernel
theorem dX11_init_147 : decode cX11_init 147 = .ok (.aload_n 0, 1) := by decide +kernel
theorem dX11_init_148 : decode cX11_init 148 = .ok (.bipush 6, 2) := by decide +kernel
theorem dX11_init_150 : decode cX11_init 150 = .ok (.newarray .int, 2) := by decide +kernel
theorem dX11_init_152 : decode cX11_init 152 = .ok (.putfield 68, 3) := by decide +kernel
theorem dX11_init_155 : decode cX11_init 155 = .ok (.aload_n 0, 1) := by decide +kernel
theorem dX11_init_156 : decode cX11_init 156 = .ok (.iconst 5, 1) := by decide +kernel
theorem dX11_init_157 : decode cX11_init 157 = .ok (.newarray .int, 2) := by decide +kernel
theorem dX11_init_159 : decode cX11_init 159 = .ok (.putfield 71, 3) := by decide +kernel
theorem dX11_init_162 : decode cX11_init 162 = .ok (.aload_n 0, 1) := by decide +kernel
theorem dX11_init_163 : decode cX11_init 163 = .ok (.sipush 200, 3) := by decide +kernel
theorem dX11_init_166 : decode cX11_init 166 = .ok (.newarray .int, 2) := by decide +kernel
theorem dX11_init_168 : decode cX11_init 168 = .ok (.putfield 74, 3) := by decide +kernel
theorem dX11_init_171 : decode cX11_init 171 = .ok (.aload_n 0, 1) := by decide +kernel
theorem dX11_init_172 : decode cX11_init 172 = .ok (.sipush 200, 3) := by decide +kernel
theorem dX11_init_175 : decode cX11_init 175 = .ok (.newarray .int, 2) := by decide +kernel
theorem dX11_init_177 : decode cX11_init 177 = .ok (.putfield 77, 3) := by decide +kernel
theorem dX11_init_180 : decode cX11_init 180 = .ok (.aload_n 0, 1) := by decide +kernel
theorem dX11_init_181 : decode cX11_init 181 = .ok (.sipush 200, 3) := by decide +kernel
theorem dX11_init_184 : decode cX11_init 184 = .ok (.newarray .int, 2) := by decide +kernel
theorem dX11_init_186 : decode cX11_init 186 = .ok (.putfield 80, 3) := by decide +kernel
theorem dX11_init_189 : decode cX11_init 189 = .ok (.aload_n 0, 1) := by decide +kernel
theorem dX11_init_190 : decode cX11_init 190 = .ok (.bipush 24, 2) := by decide +kernel
theorem dX11_init_192 : decode cX11_init 192 = .ok (.newarray .int, 2) := by decide +kernel
theorem dX11_init_194 : decode cX11_init 194 = .ok (.putfield 83, 3) := by decide +kernel
theorem dX11_init_197 : decode cX11_init 197 = .ok (.aload_n 0, 1) := by decide +kernel
theorem dX11_init_198 : decode cX11_init 198 = .ok (.iconst 3, 1) := by decide +kernel
theorem dX11_init_199 : decode cX11_init 199 = .ok (.newarray .int, 2) := by decide +kernel
theorem dX11_init_201 : decode cX11_init 201 = .ok (.putfield 86, 3) := by decide +kernel
theorem dX11_init_204 : decode cX11_init 204 = .ok (.aload_n 0, 1) := by decide +kernel
theorem dX11_init_205 : decode cX11_init 205 = .ok (.iconst 3, 1) := by decide +kernel
theorem dX11_init_206 : decode cX11_init 206 = .ok (.newarray .int, 2) := by decide +kernel
theorem dX11_init_208 : decode cX11_init 208 = .ok (.putfield 89, 3) := by decide +kernel
theorem dX11_init_211 : decode cX11_init 211 = .ok (.aload_n 0, 1) := by decide +kernel
theorem dX11_init_212 : decode cX11_init 212 = .ok (.bipush 24, 2) := by decide +kernel
theorem dX11_init_214 : decode cX11_init 214 = .ok (.newarray .int, 2) := by decide +kernel
theorem dX11_init_216 : decode cX11_init 216 = .ok (.putfield 92, 3) := by decide +kernel
theorem dX11_init_219 : decode cX11_init 219 = .ok (.aload_n 0, 1) := by decide +kernel
theorem dX11_init_220 : decode cX11_init 220 = .ok (.iconst 3, 1) := by decide +kernel
theorem dX11_init_221 : decode cX11_init 221 = .ok (.newarray .int, 2) := by decide +kernel
theorem dX11_init_223 : decode cX11_init 223 = .ok (.putfield 95, 3) := by decide +kernel
theorem dX11_init_226 : decode cX11_init 226 = .ok (.aload_n 0, 1) := by decide +kernel
theorem dX11_init_227 : decode cX11_init 227 = .ok (.iconst (-1), 1) := by decide +kernel
theorem dX11_init_228 : decode cX11_init 228 = .ok (.putfield 98, 3) := by decide +kernel
theorem dX11_init_231 : decode cX11_init 231 = .ok (.return_, 1) := by decide +kernel
theorem dX11_in_0 : decode cX11_in 0 = .ok (.iload_n 0, 1) := by decide +kernel
theorem dX11_in_1 : decode cX11_in 1 = .ok (.iload_n 1, 1) := by decide +kernel
theorem dX11_in_2 : decode cX11_in 2 = .ok (.if_icmp .lt 12, 3) := by decide +kernel
theorem dX11_in_5 : decode cX11_in 5 = .ok (.iload_n 0, 1) := by decide +kernel
theorem dX11_in_6 : decode cX11_in 6 = .ok (.iload_n 2, 1) := by decide +kernel
theorem dX11_in_7 : decode cX11_in 7 = .ok (.if_icmp .gt 7, 3) := by decide +kernel
theorem dX11_in_10 : decode cX11_in 10 = .ok (.iconst 1, 1) := by decide +kernel
theorem dX11_in_11 : decode cX11_in 11 = .ok (.goto 4, 3) := by decide +kernel
theorem dX11_in_14 : decode cX11_in 14 = .ok (.iconst 0, 1) := by decide +kernel
theorem dX11_in_15 : decode cX11_in 15 = .ok (.ireturn, 1) := by decide +kernel
theorem dX11_ends_0 : decode cX11_ends 0 = .ok (.aload_n 0, 1) := by decide +kernel
theorem dX11_ends_1 : decode cX11_ends 1 = .ok (.iload_n 1, 1) := by decide +kernel
theorem dX11_ends_2 : decode cX11_ends 2 = .ok (.ifCond .ge 7, 3) := by decide +kernel
theorem dX11_ends_5 : decode cX11_ends 5 = .ok (.iload_n 1, 1) := by decide +kernel
theorem dX11_ends_6 : decode cX11_ends 6 = .ok (.goto 4, 3) := by decide +kernel
theorem dX11_ends_9 : decode cX11_ends 9 = .ok (.iconst 0, 1) := by decide +kernel
theorem dX11_ends_10 : decode cX11_ends 10 = .ok (.putfield 101, 3) := by decide +kernel
theorem dX11_ends_13 : decode cX11_ends 13 = .ok (.iload_n 1, 1) := by decide +kernel
theorem dX11_ends_14 : decode cX11_ends 14 = .ok (.ireturn, 1) := by decide +kernel
theorem dX11_grain_0 : decode cX11_grain 0 = .ok (.iload_n 1, 1) := by decide +kernel
theorem dX11_grain_1 : decode cX11_grain 1 = .ok (.iconst 0, 1) := by decide +kernel
theorem dX11_grain_2 : decode cX11_grain 2 = .ok (.bipush 9, 2) := by decide +kernel
theorem dX11_grain_4 : decode cX11_grain 4 = .ok (.invokestatic 104, 3) := by decide +kernel
theorem dX11_grain_7 : decode cX11_grain 7 = .ok (.ifCond .ne 9, 3) := by decide +kernel
theorem dX11_grain_10 : decode cX11_grain 10 = .ok (.aload_n 0, 1) := by decide +kernel
theorem dX11_grain_11 : decode cX11_grain 11 = .ok (.iconst (-1), 1) := by decide +kernel
theorem dX11_grain_12 : decode cX11_grain 12 = .ok (.invokevirtual 108, 3) := by decide +kernel
theorem dX11_grain_15 : decode cX11_grain 15 = .ok (.ireturn, 1) := by decide +kernel
theorem dX11_grain_16 : decode cX11_grain 16 = .ok (.aload_n 0, 1) := by decide +kernel
theorem dX11_grain_17 : decode cX11_grain 17 = .ok (.getfield 112, 3) := by decide +kernel
theorem dX11_grain_20 : decode cX11_grain 20 = .ok (.iconst 3, 1) := by decide +kernel
theorem dX11_grain_21 : decode cX11_grain 21 = .ok (.if_icmp .ne 10, 3) := by decide +kernel
theorem dX11_grain_24 : decode cX11_grain 24 = .ok (.aload_n 0, 1) := by decide +kernel
theorem dX11_grain_25 : decode cX11_grain 25 = .ok (.bipush (-5), 2) := by decide +kernel
theorem dX11_grain_27 : decode cX11_grain 27 = .ok (.invokevirtual 108, 3) := by decide +kernel
theorem dX11_grain_30 : decode cX11_grain 30 = .ok (.ireturn, 1) := by decide +kernel
theorem dX11_grain_31 : decode cX11_grain 31 = .ok (.aload_n 0, 1) := by decide +kernel
theorem dX11_grain_32 : decode cX11_grain 32 = .ok (.getfield 7, 3) := by decide +kernel
theorem dX11_grain_35 : decode cX11_grain 35 = .ok (.aload_n 0, 1) := by decide +kernel
theorem dX11_grain_36 : decode cX11_grain 36 = .ok (.getfield 112, 3) := by decide +kernel
theorem dX11_grain_39 : decode cX11_grain 39 = .ok (.iload_n 1, 1) := by decide +kernel
theorem dX11_grain_40 : decode cX11_grain 40 = .ok (.iastore, 1) := by decide +kernel
theorem dX11_grain_41 : decode cX11_grain 41 = .ok (.aload_n 0, 1) := by decide +kernel
theorem dX11_grain_42 : decode cX11_grain 42 = .ok (.dup, 1) := by decide +kernel
theorem dX11_grain_43 : decode cX11_grain 43 = .ok (.getfield 112, 3) := by decide +kernel
theorem dX11_grain_46 : decode cX11_grain 46 = .ok (.iconst 1, 1) := by decide +kernel
theorem dX11_grain_47 : decode cX11_grain 47 = .ok (.iadd, 1) := by decide +kernel
theorem dX11_grain_48 : decode cX11_grain 48 = .ok (.putfield 112, 3) := by decide +kernel
theorem dX11_grain_51 : decode cX11_grain 51 = .ok (.aload_n 0, 1) := by decide +kernel
theorem dX11_grain_52 : decode cX11_grain 52 = .ok (.aload_n 0, 1) := by decide +kernel
theorem dX11_grain_53 : decode cX11_grain 53 = .ok (.getfield 112, 3) := by decide +kernel
theorem dX11_grain_56 : decode cX11_grain 56 = .ok (.invokevirtual 108, 3) := by decide +kernel
theorem dX11_grain_59 : decode cX11_grain 59 = .ok (.ireturn, 1) := by decide +kernel
theorem dX11_clear_0 : decode cX11_clear 0 = .ok (.aload_n 0, 1) := by decide +kernel
theorem dX11_clear_1 : decode cX11_clear 1 = .ok (.getfield 112, 3) := by decide +kernel
theorem dX11_clear_4 : decode cX11_clear 4 = .ok (.istore_n 1, 1) := by decide +kernel
theorem dX11_clear_5 : decode cX11_clear 5 = .ok (.aload_n 0, 1) := by decide +kernel
theorem dX11_clear_6 : decode cX11_clear 6 = .ok (.iconst 0, 1) := by decide +kernel
theorem dX11_clear_7 : decode cX11_clear 7 = .ok (.putfield 112, 3) := by decide +kernel
theorem dX11_clear_10 : decode cX11_clear 10 = .ok (.iload_n 1, 1) := by decide +kernel
theorem dX11_clear_11 : decode cX11_clear 11 = .ok (.ireturn, 1) := by decide +kernel
theorem dX11_feed_0 : decode cX11_feed 0 = .ok (.aload_n 0, 1) := by decide +kernel
theorem dX11_feed_1 : decode cX11_feed 1 = .ok (.getfield 115, 3) := by decide +kernel
theorem dX11_feed_4 : decode cX11_feed 4 = .ok (.bipush 20, 2) := by decide +kernel
theorem dX11_feed_6 : decode cX11_feed 6 = .ok (.iadd, 1) := by decide +kernel
theorem dX11_feed_7 : decode cX11_feed 7 = .ok (.sipush 400, 3) := by decide +kernel
theorem dX11_feed_10 : decode cX11_feed 10 = .ok (.if_icmp .le 5, 3) := by decide +kernel
theorem dX11_feed_13 : decode cX11_feed 13 = .ok (.iconst (-1), 1) := by decide +kernel
theorem dX11_feed_14 : decode cX11_feed 14 = .ok (.ireturn, 1) := by decide +kernel
theorem dX11_feed_15 : decode cX11_feed 15 = .ok (.aload_n 0, 1) := by decide +kernel
theorem dX11_feed_16 : decode cX11_feed 16 = .ok (.getfield 36, 3) := by decide +kernel
theorem dX11_feed_19 : decode cX11_feed 19 = .ok (.iconst 0, 1) := by decide +kernel
theorem dX11_feed_20 : decode cX11_feed 20 = .ok (.iload_n 1, 1) := by decide +kernel
theorem dX11_feed_21 : decode cX11_feed 21 = .ok (.iastore, 1) := by decide +kernel
theorem dX11_feed_22 : decode cX11_feed 22 = .ok (.aload_n 0, 1) := by decide +kernel
theorem dX11_feed_23 : decode cX11_feed 23 = .ok (.getfield 36, 3) := by decide +kernel
theorem dX11_feed_26 : decode cX11_feed 26 = .ok (.iconst 1, 1) := by decide +kernel
theorem dX11_feed_27 : decode cX11_feed 27 = .ok (.iload_n 2, 1) := by decide +kernel
theorem dX11_feed_28 : decode cX11_feed 28 = .ok (.iastore, 1) := by decide +kernel
theorem dX11_feed_29 : decode cX11_feed 29 = .ok (.aload_n 0, 1) := by decide +kernel
theorem dX11_feed_30 : decode cX11_feed 30 = .ok (.getfield 36, 3) := by decide +kernel
theorem dX11_feed_33 : decode cX11_feed 33 = .ok (.iconst 2, 1) := by decide +kernel
theorem dX11_feed_34 : decode cX11_feed 34 = .ok (.iload_n 3, 1) := by decide +kernel
theorem dX11_feed_35 : decode cX11_feed 35 = .ok (.iastore, 1) := by decide +kernel
theorem dX11_feed_36 : decode cX11_feed 36 = .ok (.aload_n 0, 1) := by decide +kernel
theorem dX11_feed_37 : decode cX11_feed 37 = .ok (.getfield 36, 3) := by decide +kernel
theorem dX11_feed_40 : decode cX11_feed 40 = .ok (.iconst 3, 1) := by decide +kernel
theorem dX11_feed_41 : decode cX11_feed 41 = .ok (.iload 4, 2) := by decide +kernel
theorem dX11_feed_43 : decode cX11_feed 43 = .ok (.iastore, 1) := by decide +kernel
theorem dX11_feed_44 : decode cX11_feed 44 = .ok (.aload_n 0, 1) := by decide +kernel
theorem dX11_feed_45 : decode cX11_feed 45 = .ok (.getfield 36, 3) := by decide +kernel
theorem dX11_feed_48 : decode cX11_feed 48 = .ok (.iconst 4, 1) := by decide +kernel
theorem dX11_feed_49 : decode cX11_feed 49 = .ok (.iload 5, 2) := by decide +kernel
theorem dX11_feed_51 : decode cX11_feed 51 = .ok (.iastore, 1) := by decide +kernel
theorem dX11_feed_52 : decode cX11_feed 52 = .ok (.iconst 0, 1) := by decide +kernel
theorem dX11_feed_53 : decode cX11_feed 53 = .ok (.istore 6, 2) := by decide +kernel
theorem dX11_feed_55 : decode cX11_feed 55 = .ok (.iload 6, 2) := by decide +kernel
theorem dX11_feed_57 : decode cX11_feed 57 = .ok (.bipush 20, 2) := by decide +kernel
theorem dX11_feed_59 : decode cX11_feed 59 = .ok (.if_icmp .ge 42, 3) := by decide +kernel
theorem dX11_feed_62 : decode cX11_feed 62 = .ok (.aload_n 0, 1) := by decide +kernel
theorem dX11_feed_63 : decode cX11_feed 63 = .ok (.getfield 29, 3) := by decide +kernel
theorem dX11_feed_66 : decode cX11_feed 66 = .ok (.aload_n 0, 1) := by decide +kernel
theorem dX11_feed_67 : decode cX11_feed 67 = .ok (.getfield 115, 3) := by decide +kernel
theorem dX11_feed_70 : decode cX11_feed 70 = .ok (.iload 6, 2) := by decide +kernel
theorem dX11_feed_72 : decode cX11_feed 72 = .ok (.iadd, 1) := by decide +kernel
theorem dX11_feed_73 : decode cX11_feed 73 = .ok (.aload_n 0, 1) := by decide +kernel
theorem dX11_feed_74 : decode cX11_feed 74 = .ok (.getfield 36, 3) := by decide +kernel
theorem dX11_feed_77 : decode cX11_feed 77 = .ok (.iload 6, 2) := by decide +kernel
theorem dX11_feed_79 : decode cX11_feed 79 = .ok (.iconst 4, 1) := by decide +kernel
theorem dX11_feed_80 : decode cX11_feed 80 = .ok (.idiv, 1) := by decide +kernel
theorem dX11_feed_81 : decode cX11_feed 81 = .ok (.iaload, 1) := by decide +kernel
theorem dX11_feed_82 : decode cX11_feed 82 = .ok (.bipush 24, 2) := by decide +kernel
theorem dX11_feed_84 : decode cX11_feed 84 = .ok (.bipush 8, 2) := by decide +kernel
theorem dX11_feed_86 : decode cX11_feed 86 = .ok (.iload 6, 2) := by decide +kernel
theorem dX11_feed_88 : decode cX11_feed 88 = .ok (.iconst 4, 1) := by decide +kernel
theorem dX11_feed_89 : decode cX11_feed 89 = .ok (.irem, 1) := by decide +kernel
theorem dX11_feed_90 : decode cX11_feed 90 = .ok (.imul, 1) := by decide +kernel
theorem dX11_feed_91 : decode cX11_feed 91 = .ok (.isub, 1) := by decide +kernel
theorem dX11_feed_92 : decode cX11_feed 92 = .ok (.ishr, 1) := by decide +kernel
theorem dX11_feed_93 : decode cX11_feed 93 = .ok (.i2b, 1) := by decide +kernel
theorem dX11_feed_94 : decode cX11_feed 94 = .ok (.bastore, 1) := by decide +kernel
theorem dX11_feed_95 : decode cX11_feed 95 = .ok (.iinc 6 1, 3) := by decide +kernel
theorem dX11_feed_98 : decode cX11_feed 98 = .ok (.goto (-43), 3) := by decide +kernel
theorem dX11_feed_101 : decode cX11_feed 101 = .ok (.aload_n 0, 1) := by decide +kernel
theorem dX11_feed_102 : decode cX11_feed 102 = .ok (.dup, 1) := by decide +kernel
theorem dX11_feed_103 : decode cX11_feed 103 = .ok (.getfield 115, 3) := by decide +kernel
theorem dX11_feed_106 : decode cX11_feed 106 = .ok (.bipush 20, 2) := by decide +kernel
theorem dX11_feed_108 : decode cX11_feed 108 = .ok (.iadd, 1) := by decide +kernel
theorem dX11_feed_109 : decode cX11_feed 109 = .ok (.putfield 115, 3) := by decide +kernel
theorem dX11_feed_112 : decode cX11_feed 112 = .ok (.aload_n 0, 1) := by decide +kernel
theorem dX11_feed_113 : decode cX11_feed 113 = .ok (.getfield 115, 3) := by decide +kernel
theorem dX11_feed_116 : decode cX11_feed 116 = .ok (.ireturn, 1) := by decide +kernel
theorem dX11_end_0 : decode cX11_end 0 = .ok (.iload_n 1, 1) := by decide +kernel
theorem dX11_end_1 : decode cX11_end 1 = .ok (.iconst 0, 1) := by decide +kernel
theorem dX11_end_2 : decode cX11_end 2 = .ok (.aload_n 0, 1) := by decide +kernel
theorem dX11_end_3 : decode cX11_end 3 = .ok (.getfield 115, 3) := by decide +kernel
theorem dX11_end_6 : decode cX11_end 6 = .ok (.invokestatic 104, 3) := by decide +kernel
theorem dX11_end_9 : decode cX11_end 9 = .ok (.ifCond .ne 5, 3) := by decide +kernel
theorem dX11_end_12 : decode cX11_end 12 = .ok (.iconst (-1), 1) := by decide +kernel
theorem dX11_end_13 : decode cX11_end 13 = .ok (.ireturn, 1) := by decide +kernel
theorem dX11_end_14 : decode cX11_end 14 = .ok (.aload_n 0, 1) := by decide +kernel
theorem dX11_end_15 : decode cX11_end 15 = .ok (.iload_n 1, 1) := by decide +kernel
theorem dX11_end_16 : decode cX11_end 16 = .ok (.putfield 115, 3) := by decide +kernel
theorem dX11_end_19 : decode cX11_end 19 = .ok (.iload_n 1, 1) := by decide +kernel
theorem dX11_end_20 : decode cX11_end 20 = .ok (.ireturn, 1) := by decide +kernel
theorem dX11_isIn_0 : decode cX11_isIn 0 = .ok (.iload_n 1, 1) := by decide +kernel
theorem dX11_isIn_1 : decode cX11_isIn 1 = .ok (.aload_n 0, 1) := by decide +kernel
theorem dX11_isIn_2 : decode cX11_isIn 2 = .ok (.getfield 118, 3) := by decide +kernel
theorem dX11_isIn_5 : decode cX11_isIn 5 = .ok (.if_icmp .ge 27, 3) := by decide +kernel
theorem dX11_isIn_8 : decode cX11_isIn 8 = .ok (.aload_n 0, 1) := by decide +kernel
theorem dX11_isIn_9 : decode cX11_isIn 9 = .ok (.getfield 33, 3) := by decide +kernel
theorem dX11_isIn_12 : decode cX11_isIn 12 = .ok (.iload_n 1, 1) := by decide +kernel
theorem dX11_isIn_13 : decode cX11_isIn 13 = .ok (.baload, 1) := by decide +kernel
theorem dX11_isIn_14 : decode cX11_isIn 14 = .ok (.iload_n 2, 1) := by decide +kernel
theorem dX11_isIn_15 : decode cX11_isIn 15 = .ok (.if_icmp .lt 17, 3) := by decide +kernel
theorem dX11_isIn_18 : decode cX11_isIn 18 = .ok (.aload_n 0, 1) := by decide +kernel
theorem dX11_isIn_19 : decode cX11_isIn 19 = .ok (.getfield 33, 3) := by decide +kernel
theorem dX11_isIn_22 : decode cX11_isIn 22 = .ok (.iload_n 1, 1) := by decide +kernel
theorem dX11_isIn_23 : decode cX11_isIn 23 = .ok (.baload, 1) := by decide +kernel
theorem dX11_isIn_24 : decode cX11_isIn 24 = .ok (.iload_n 3, 1) := by decide +kernel
theorem dX11_isIn_25 : decode cX11_isIn 25 = .ok (.if_icmp .gt 7, 3) := by decide +kernel
theorem dX11_isIn_28 : decode cX11_isIn 28 = .ok (.iconst 1, 1) := by decide +kernel
theorem dX11_isIn_29 : decode cX11_isIn 29 = .ok (.goto 4, 3) := by decide +kernel
theorem dX11_isIn_32 : decode cX11_isIn 32 = .ok (.iconst 0, 1) := by decide +kernel
theorem dX11_isIn_33 : decode cX11_isIn 33 = .ok (.ireturn, 1) := by decide +kernel
theorem dX11_next_0 : decode cX11_next 0 = .ok (.aload_n 0, 1) := by decide +kernel
theorem dX11_next_1 : decode cX11_next 1 = .ok (.aload_n 0, 1) := by decide +kernel
theorem dX11_next_2 : decode cX11_next 2 = .ok (.getfield 121, 3) := by decide +kernel
theorem dX11_next_5 : decode cX11_next 5 = .ok (.putfield 124, 3) := by decide +kernel
theorem dX11_next_8 : decode cX11_next 8 = .ok (.aload_n 0, 1) := by decide +kernel
theorem dX11_next_9 : decode cX11_next 9 = .ok (.getfield 124, 3) := by decide +kernel
theorem dX11_next_12 : decode cX11_next 12 = .ok (.aload_n 0, 1) := by decide +kernel
theorem dX11_next_13 : decode cX11_next 13 = .ok (.getfield 118, 3) := by decide +kernel
theorem dX11_next_16 : decode cX11_next 16 = .ok (.if_icmp .ge 30, 3) := by decide +kernel
theorem dX11_next_19 : decode cX11_next 19 = .ok (.aload_n 0, 1) := by decide +kernel
theorem dX11_next_20 : decode cX11_next 20 = .ok (.getfield 33, 3) := by decide +kernel
theorem dX11_next_23 : decode cX11_next 23 = .ok (.aload_n 0, 1) := by decide +kernel
theorem dX11_next_24 : decode cX11_next 24 = .ok (.getfield 124, 3) := by decide +kernel
theorem dX11_next_27 : decode cX11_next 27 = .ok (.baload, 1) := by decide +kernel
theorem dX11_next_28 : decode cX11_next 28 = .ok (.bipush 32, 2) := by decide +kernel
theorem dX11_next_30 : decode cX11_next 30 = .ok (.if_icmp .ne 16, 3) := by decide +kernel
theorem dX11_next_33 : decode cX11_next 33 = .ok (.aload_n 0, 1) := by decide +kernel
theorem dX11_next_34 : decode cX11_next 34 = .ok (.dup, 1) := by decide +kernel
theorem dX11_next_35 : decode cX11_next 35 = .ok (.getfield 124, 3) := by decide +kernel
theorem dX11_next_38 : decode cX11_next 38 = .ok (.iconst 1, 1) := by decide +kernel
theorem dX11_next_39 : decode cX11_next 39 = .ok (.iadd, 1) := by decide +kernel
theorem dX11_next_40 : decode cX11_next 40 = .ok (.putfield 124, 3) := by decide +kernel
theorem dX11_next_43 : decode cX11_next 43 = .ok (.goto (-35), 3) := by decide +kernel
theorem dX11_next_46 : decode cX11_next 46 = .ok (.aload_n 0, 1) := by decide +kernel
theorem dX11_next_47 : decode cX11_next 47 = .ok (.aload_n 0, 1) := by decide +kernel
theorem dX11_next_48 : decode cX11_next 48 = .ok (.getfield 124, 3) := by decide +kernel
theorem dX11_next_51 : decode cX11_next 51 = .ok (.putfield 121, 3) := by decide +kernel
theorem dX11_next_54 : decode cX11_next 54 = .ok (.aload_n 0, 1) := by decide +kernel
theorem dX11_next_55 : decode cX11_next 55 = .ok (.getfield 124, 3) := by decide +kernel
theorem dX11_next_58 : decode cX11_next 58 = .ok (.aload_n 0, 1) := by decide +kernel
theorem dX11_next_59 : decode cX11_next 59 = .ok (.getfield 118, 3) := by decide +kernel
theorem dX11_next_62 : decode cX11_next 62 = .ok (.if_icmp .ne 4, 3) := by decide +kernel
theorem dX11_next_65 : decode cX11_next 65 = .ok (.return_, 1) := by decide +kernel
theorem dX11_next_66 : decode cX11_next 66 = .ok (.aload_n 0, 1) := by decide +kernel
theorem dX11_next_67 : decode cX11_next 67 = .ok (.aload_n 0, 1) := by decide +kernel
theorem dX11_next_68 : decode cX11_next 68 = .ok (.getfield 124, 3) := by decide +kernel
theorem dX11_next_71 : decode cX11_next 71 = .ok (.bipush 97, 2) := by decide +kernel
theorem dX11_next_73 : decode cX11_next 73 = .ok (.bipush 122, 2) := by decide +kernel
theorem dX11_next_75 : decode cX11_next 75 = .ok (.invokevirtual 127, 3) := by decide +kernel
theorem dX11_next_78 : decode cX11_next 78 = .ok (.ifCond .eq 31, 3) := by decide +kernel
theorem dX11_next_81 : decode cX11_next 81 = .ok (.aload_n 0, 1) := by decide +kernel
theorem dX11_next_82 : decode cX11_next 82 = .ok (.aload_n 0, 1) := by decide +kernel
theorem dX11_next_83 : decode cX11_next 83 = .ok (.getfield 121, 3) := by decide +kernel
theorem dX11_next_86 : decode cX11_next 86 = .ok (.bipush 97, 2) := by decide +kernel
theorem dX11_next_88 : decode cX11_next 88 = .ok (.bipush 122, 2) := by decide +kernel
theorem dX11_next_90 : decode cX11_next 90 = .ok (.invokevirtual 127, 3) := by decide +kernel
theorem dX11_next_93 : decode cX11_next 93 = .ok (.ifCond .eq 69, 3) := by decide +kernel
theorem dX11_next_96 : decode cX11_next 96 = .ok (.aload_n 0, 1) := by decide +kernel
theorem dX11_next_97 : decode cX11_next 97 = .ok (.dup, 1) := by decide +kernel
theorem dX11_next_98 : decode cX11_next 98 = .ok (.getfield 121, 3) := by decide +kernel
theorem dX11_next_101 : decode cX11_next 101 = .ok (.iconst 1, 1) := by decide +kernel
theorem dX11_next_102 : decode cX11_next 102 = .ok (.iadd, 1) := by decide +kernel
theorem dX11_next_103 : decode cX11_next 103 = .ok (.putfield 121, 3) := by decide +kernel
theorem dX11_next_106 : decode cX11_next 106 = .ok (.goto (-25), 3) := by decide +kernel
theorem dX11_next_109 : decode cX11_next 109 = .ok (.aload_n 0, 1) := by decide +kernel
theorem dX11_next_110 : decode cX11_next 110 = .ok (.aload_n 0, 1) := by decide +kernel
theorem dX11_next_111 : decode cX11_next 111 = .ok (.getfield 124, 3) := by decide +kernel
theorem dX11_next_114 : decode cX11_next 114 = .ok (.bipush 48, 2) := by decide +kernel
theorem dX11_next_116 : decode cX11_next 116 = .ok (.bipush 57, 2) := by decide +kernel
theorem dX11_next_118 : decode cX11_next 118 = .ok (.invokevirtual 127, 3) := by decide +kernel
theorem dX11_next_121 : decode cX11_next 121 = .ok (.ifCond .eq 31, 3) := by decide +kernel
theorem dX11_next_124 : decode cX11_next 124 = .ok (.aload_n 0, 1) := by decide +kernel
