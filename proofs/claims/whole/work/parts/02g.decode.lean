theorem dX5_endHold_31 : decode cX5_endHold 31 = .ok (.istore_n 3, 1) := by decide +kernel
theorem dX5_endHold_32 : decode cX5_endHold 32 = .ok (.aload_n 0, 1) := by decide +kernel
theorem dX5_endHold_33 : decode cX5_endHold 33 = .ok (.getfield 21, 3) := by decide +kernel
theorem dX5_endHold_36 : decode cX5_endHold 36 = .ok (.iload_n 2, 1) := by decide +kernel
theorem dX5_endHold_37 : decode cX5_endHold 37 = .ok (.invokevirtual 121, 3) := by decide +kernel
theorem dX5_endHold_40 : decode cX5_endHold 40 = .ok (.aload_n 0, 1) := by decide +kernel
theorem dX5_endHold_41 : decode cX5_endHold 41 = .ok (.iload_n 3, 1) := by decide +kernel
theorem dX5_endHold_42 : decode cX5_endHold 42 = .ok (.invokevirtual 108, 3) := by decide +kernel
theorem dX5_endHold_45 : decode cX5_endHold 45 = .ok (.ireturn, 1) := by decide +kernel
theorem dX5_writeBill_0 : decode cX5_writeBill 0 = .ok (.aload_n 0, 1) := by decide +kernel
theorem dX5_writeBill_1 : decode cX5_writeBill 1 = .ok (.getfield 12, 3) := by decide +kernel
theorem dX5_writeBill_4 : decode cX5_writeBill 4 = .ok (.iload_n 1, 1) := by decide +kernel
theorem dX5_writeBill_5 : decode cX5_writeBill 5 = .ok (.invokevirtual 76, 3) := by decide +kernel
theorem dX5_writeBill_8 : decode cX5_writeBill 8 = .ok (.ifCond .ge 5, 3) := by decide +kernel
theorem dX5_writeBill_11 : decode cX5_writeBill 11 = .ok (.iconst (-1), 1) := by decide +kernel
theorem dX5_writeBill_12 : decode cX5_writeBill 12 = .ok (.ireturn, 1) := by decide +kernel
theorem dX5_writeBill_13 : decode cX5_writeBill 13 = .ok (.iload_n 2, 1) := by decide +kernel
theorem dX5_writeBill_14 : decode cX5_writeBill 14 = .ok (.invokestatic 97, 3) := by decide +kernel
theorem dX5_writeBill_17 : decode cX5_writeBill 17 = .ok (.ifCond .ne 6, 3) := by decide +kernel
theorem dX5_writeBill_20 : decode cX5_writeBill 20 = .ok (.bipush (-2), 2) := by decide +kernel
theorem dX5_writeBill_22 : decode cX5_writeBill 22 = .ok (.ireturn, 1) := by decide +kernel
theorem dX5_writeBill_23 : decode cX5_writeBill 23 = .ok (.aload_n 0, 1) := by decide +kernel
theorem dX5_writeBill_24 : decode cX5_writeBill 24 = .ok (.getfield 25, 3) := by decide +kernel
theorem dX5_writeBill_27 : decode cX5_writeBill 27 = .ok (.getfield 111, 3) := by decide +kernel
theorem dX5_writeBill_30 : decode cX5_writeBill 30 = .ok (.bipush 15, 2) := by decide +kernel
theorem dX5_writeBill_32 : decode cX5_writeBill 32 = .ok (.if_icmp .lt 6, 3) := by decide +kernel
theorem dX5_writeBill_35 : decode cX5_writeBill 35 = .ok (.bipush (-4), 2) := by decide +kernel
theorem dX5_writeBill_37 : decode cX5_writeBill 37 = .ok (.ireturn, 1) := by decide +kernel
theorem dX5_writeBill_38 : decode cX5_writeBill 38 = .ok (.aload_n 0, 1) := by decide +kernel
theorem dX5_writeBill_39 : decode cX5_writeBill 39 = .ok (.getfield 25, 3) := by decide +kernel
theorem dX5_writeBill_42 : decode cX5_writeBill 42 = .ok (.iload_n 1, 1) := by decide +kernel
theorem dX5_writeBill_43 : decode cX5_writeBill 43 = .ok (.iload_n 2, 1) := by decide +kernel
theorem dX5_writeBill_44 : decode cX5_writeBill 44 = .ok (.iconst 0, 1) := by decide +kernel
theorem dX5_writeBill_45 : decode cX5_writeBill 45 = .ok (.invokevirtual 112, 3) := by decide +kernel
theorem dX5_writeBill_48 : decode cX5_writeBill 48 = .ok (.ireturn, 1) := by decide +kernel
theorem dX5_settleBill_0 : decode cX5_settleBill 0 = .ok (.aload_n 0, 1) := by decide +kernel
theorem dX5_settleBill_1 : decode cX5_settleBill 1 = .ok (.getfield 25, 3) := by decide +kernel
theorem dX5_settleBill_4 : decode cX5_settleBill 4 = .ok (.iload_n 1, 1) := by decide +kernel
theorem dX5_settleBill_5 : decode cX5_settleBill 5 = .ok (.invokevirtual 116, 3) := by decide +kernel
theorem dX5_settleBill_8 : decode cX5_settleBill 8 = .ok (.istore_n 2, 1) := by decide +kernel
theorem dX5_settleBill_9 : decode cX5_settleBill 9 = .ok (.iload_n 2, 1) := by decide +kernel
theorem dX5_settleBill_10 : decode cX5_settleBill 10 = .ok (.ifCond .ge 5, 3) := by decide +kernel
theorem dX5_settleBill_13 : decode cX5_settleBill 13 = .ok (.iconst (-1), 1) := by decide +kernel
theorem dX5_settleBill_14 : decode cX5_settleBill 14 = .ok (.ireturn, 1) := by decide +kernel
theorem dX5_settleBill_15 : decode cX5_settleBill 15 = .ok (.aload_n 0, 1) := by decide +kernel
theorem dX5_settleBill_16 : decode cX5_settleBill 16 = .ok (.getfield 25, 3) := by decide +kernel
theorem dX5_settleBill_19 : decode cX5_settleBill 19 = .ok (.iload_n 2, 1) := by decide +kernel
theorem dX5_settleBill_20 : decode cX5_settleBill 20 = .ok (.iconst 1, 1) := by decide +kernel
theorem dX5_settleBill_21 : decode cX5_settleBill 21 = .ok (.invokevirtual 117, 3) := by decide +kernel
theorem dX5_settleBill_24 : decode cX5_settleBill 24 = .ok (.istore_n 3, 1) := by decide +kernel
theorem dX5_settleBill_25 : decode cX5_settleBill 25 = .ok (.aload_n 0, 1) := by decide +kernel
theorem dX5_settleBill_26 : decode cX5_settleBill 26 = .ok (.getfield 12, 3) := by decide +kernel
theorem dX5_settleBill_29 : decode cX5_settleBill 29 = .ok (.iload_n 3, 1) := by decide +kernel
theorem dX5_settleBill_30 : decode cX5_settleBill 30 = .ok (.invokevirtual 76, 3) := by decide +kernel
theorem dX5_settleBill_33 : decode cX5_settleBill 33 = .ok (.istore 4, 2) := by decide +kernel
theorem dX5_settleBill_35 : decode cX5_settleBill 35 = .ok (.aload_n 0, 1) := by decide +kernel
theorem dX5_settleBill_36 : decode cX5_settleBill 36 = .ok (.getfield 25, 3) := by decide +kernel
theorem dX5_settleBill_39 : decode cX5_settleBill 39 = .ok (.iload_n 2, 1) := by decide +kernel
theorem dX5_settleBill_40 : decode cX5_settleBill 40 = .ok (.iconst 2, 1) := by decide +kernel
theorem dX5_settleBill_41 : decode cX5_settleBill 41 = .ok (.invokevirtual 117, 3) := by decide +kernel
theorem dX5_settleBill_44 : decode cX5_settleBill 44 = .ok (.istore 5, 2) := by decide +kernel
theorem dX5_settleBill_46 : decode cX5_settleBill 46 = .ok (.iload 5, 2) := by decide +kernel
theorem dX5_settleBill_48 : decode cX5_settleBill 48 = .ok (.aload_n 0, 1) := by decide +kernel
theorem dX5_settleBill_49 : decode cX5_settleBill 49 = .ok (.iload 4, 2) := by decide +kernel
theorem dX5_settleBill_51 : decode cX5_settleBill 51 = .ok (.invokevirtual 108, 3) := by decide +kernel
theorem dX5_settleBill_54 : decode cX5_settleBill 54 = .ok (.invokestatic 122, 3) := by decide +kernel
theorem dX5_settleBill_57 : decode cX5_settleBill 57 = .ok (.istore 6, 2) := by decide +kernel
theorem dX5_settleBill_59 : decode cX5_settleBill 59 = .ok (.iload 6, 2) := by decide +kernel
theorem dX5_settleBill_61 : decode cX5_settleBill 61 = .ok (.ifCond .ne 6, 3) := by decide +kernel
theorem dX5_settleBill_64 : decode cX5_settleBill 64 = .ok (.bipush (-3), 2) := by decide +kernel
theorem dX5_settleBill_66 : decode cX5_settleBill 66 = .ok (.ireturn, 1) := by decide +kernel
theorem dX5_settleBill_67 : decode cX5_settleBill 67 = .ok (.aload_n 0, 1) := by decide +kernel
theorem dX5_settleBill_68 : decode cX5_settleBill 68 = .ok (.getfield 12, 3) := by decide +kernel
theorem dX5_settleBill_71 : decode cX5_settleBill 71 = .ok (.iload 4, 2) := by decide +kernel
theorem dX5_settleBill_73 : decode cX5_settleBill 73 = .ok (.iload 6, 2) := by decide +kernel
theorem dX5_settleBill_75 : decode cX5_settleBill 75 = .ok (.ineg, 1) := by decide +kernel
theorem dX5_settleBill_76 : decode cX5_settleBill 76 = .ok (.invokevirtual 101, 3) := by decide +kernel
theorem dX5_settleBill_79 : decode cX5_settleBill 79 = .ok (.aload_n 0, 1) := by decide +kernel
theorem dX5_settleBill_80 : decode cX5_settleBill 80 = .ok (.dup, 1) := by decide +kernel
theorem dX5_settleBill_81 : decode cX5_settleBill 81 = .ok (.getfield 52, 3) := by decide +kernel
theorem dX5_settleBill_84 : decode cX5_settleBill 84 = .ok (.iload 6, 2) := by decide +kernel
theorem dX5_settleBill_86 : decode cX5_settleBill 86 = .ok (.i2l, 1) := by decide +kernel
theorem dX5_settleBill_87 : decode cX5_settleBill 87 = .ok (.ladd, 1) := by decide +kernel
theorem dX5_settleBill_88 : decode cX5_settleBill 88 = .ok (.putfield 52, 3) := by decide +kernel
theorem dX5_settleBill_91 : decode cX5_settleBill 91 = .ok (.iload 6, 2) := by decide +kernel
theorem dX5_settleBill_93 : decode cX5_settleBill 93 = .ok (.iload 5, 2) := by decide +kernel
theorem dX5_settleBill_95 : decode cX5_settleBill 95 = .ok (.if_icmp .ne 14, 3) := by decide +kernel
theorem dX5_settleBill_98 : decode cX5_settleBill 98 = .ok (.aload_n 0, 1) := by decide +kernel
theorem dX5_settleBill_99 : decode cX5_settleBill 99 = .ok (.getfield 25, 3) := by decide +kernel
theorem dX5_settleBill_102 : decode cX5_settleBill 102 = .ok (.iload_n 2, 1) := by decide +kernel
theorem dX5_settleBill_103 : decode cX5_settleBill 103 = .ok (.invokevirtual 121, 3) := by decide +kernel
theorem dX5_settleBill_106 : decode cX5_settleBill 106 = .ok (.goto 38, 3) := by decide +kernel
theorem dX5_settleBill_109 : decode cX5_settleBill 109 = .ok (.aload_n 0, 1) := by decide +kernel
theorem dX5_settleBill_110 : decode cX5_settleBill 110 = .ok (.getfield 25, 3) := by decide +kernel
theorem dX5_settleBill_113 : decode cX5_settleBill 113 = .ok (.iload_n 2, 1) := by decide +kernel
theorem dX5_settleBill_114 : decode cX5_settleBill 114 = .ok (.iconst 2, 1) := by decide +kernel
theorem dX5_settleBill_115 : decode cX5_settleBill 115 = .ok (.iload 5, 2) := by decide +kernel
theorem dX5_settleBill_117 : decode cX5_settleBill 117 = .ok (.iload 6, 2) := by decide +kernel
theorem dX5_settleBill_119 : decode cX5_settleBill 119 = .ok (.isub, 1) := by decide +kernel
theorem dX5_settleBill_120 : decode cX5_settleBill 120 = .ok (.invokevirtual 127, 3) := by decide +kernel
theorem dX5_settleBill_123 : decode cX5_settleBill 123 = .ok (.aload_n 0, 1) := by decide +kernel
theorem dX5_settleBill_124 : decode cX5_settleBill 124 = .ok (.getfield 25, 3) := by decide +kernel
theorem dX5_settleBill_127 : decode cX5_settleBill 127 = .ok (.iload_n 2, 1) := by decide +kernel
theorem dX5_settleBill_128 : decode cX5_settleBill 128 = .ok (.iconst 3, 1) := by decide +kernel
theorem dX5_settleBill_129 : decode cX5_settleBill 129 = .ok (.aload_n 0, 1) := by decide +kernel
theorem dX5_settleBill_130 : decode cX5_settleBill 130 = .ok (.getfield 25, 3) := by decide +kernel
theorem dX5_settleBill_133 : decode cX5_settleBill 133 = .ok (.iload_n 2, 1) := by decide +kernel
theorem dX5_settleBill_134 : decode cX5_settleBill 134 = .ok (.iconst 3, 1) := by decide +kernel
theorem dX5_settleBill_135 : decode cX5_settleBill 135 = .ok (.invokevirtual 117, 3) := by decide +kernel
theorem dX5_settleBill_138 : decode cX5_settleBill 138 = .ok (.iload 6, 2) := by decide +kernel
theorem dX5_settleBill_140 : decode cX5_settleBill 140 = .ok (.iadd, 1) := by decide +kernel
theorem dX5_settleBill_141 : decode cX5_settleBill 141 = .ok (.invokevirtual 127, 3) := by decide +kernel
theorem dX5_settleBill_144 : decode cX5_settleBill 144 = .ok (.aload_n 0, 1) := by decide +kernel
theorem dX5_settleBill_145 : decode cX5_settleBill 145 = .ok (.iconst 4, 1) := by decide +kernel
theorem dX5_settleBill_146 : decode cX5_settleBill 146 = .ok (.iload_n 3, 1) := by decide +kernel
theorem dX5_settleBill_147 : decode cX5_settleBill 147 = .ok (.iconst 0, 1) := by decide +kernel
theorem dX5_settleBill_148 : decode cX5_settleBill 148 = .ok (.iload 6, 2) := by decide +kernel
theorem dX5_settleBill_150 : decode cX5_settleBill 150 = .ok (.invokevirtual 104, 3) := by decide +kernel
theorem dX5_settleBill_153 : decode cX5_settleBill 153 = .ok (.iload 6, 2) := by decide +kernel
theorem dX5_settleBill_155 : decode cX5_settleBill 155 = .ok (.ireturn, 1) := by decide +kernel
theorem dX5_letPass_0 : decode cX5_letPass 0 = .ok (.iload_n 1, 1) := by decide +kernel
theorem dX5_letPass_1 : decode cX5_letPass 1 = .ok (.iconst 1, 1) := by decide +kernel
theorem dX5_letPass_2 : decode cX5_letPass 2 = .ok (.if_icmp .lt 10, 3) := by decide +kernel
theorem dX5_letPass_5 : decode cX5_letPass 5 = .ok (.iload_n 1, 1) := by decide +kernel
theorem dX5_letPass_6 : decode cX5_letPass 6 = .ok (.sipush 400, 3) := by decide +kernel
theorem dX5_letPass_9 : decode cX5_letPass 9 = .ok (.if_icmp .le 7, 3) := by decide +kernel
theorem dX5_letPass_12 : decode cX5_letPass 12 = .ok (.ldc2_w 131, 3) := by decide +kernel
theorem dX5_letPass_15 : decode cX5_letPass 15 = .ok (.lreturn, 1) := by decide +kernel
theorem dX5_letPass_16 : decode cX5_letPass 16 = .ok (.aload_n 0, 1) := by decide +kernel
theorem dX5_letPass_17 : decode cX5_letPass 17 = .ok (.getfield 35, 3) := by decide +kernel
theorem dX5_letPass_20 : decode cX5_letPass 20 = .ok (.iload_n 1, 1) := by decide +kernel
theorem dX5_letPass_21 : decode cX5_letPass 21 = .ok (.iadd, 1) := by decide +kernel
theorem dX5_letPass_22 : decode cX5_letPass 22 = .ok (.istore_n 2, 1) := by decide +kernel
theorem dX5_letPass_23 : decode cX5_letPass 23 = .ok (.iload_n 2, 1) := by decide +kernel
theorem dX5_letPass_24 : decode cX5_letPass 24 = .ok (.sipush 9999, 3) := by decide +kernel
theorem dX5_letPass_27 : decode cX5_letPass 27 = .ok (.if_icmp .le 7, 3) := by decide +kernel
theorem dX5_letPass_30 : decode cX5_letPass 30 = .ok (.ldc2_w 133, 3) := by decide +kernel
theorem dX5_letPass_33 : decode cX5_letPass 33 = .ok (.lreturn, 1) := by decide +kernel
theorem dX5_letPass_34 : decode cX5_letPass 34 = .ok (.aload_n 0, 1) := by decide +kernel
theorem dX5_letPass_35 : decode cX5_letPass 35 = .ok (.getfield 56, 3) := by decide +kernel
theorem dX5_letPass_38 : decode cX5_letPass 38 = .ok (.lstore_n 3, 1) := by decide +kernel
theorem dX5_letPass_39 : decode cX5_letPass 39 = .ok (.aload_n 0, 1) := by decide +kernel
theorem dX5_letPass_40 : decode cX5_letPass 40 = .ok (.getfield 35, 3) := by decide +kernel
theorem dX5_letPass_43 : decode cX5_letPass 43 = .ok (.invokestatic 135, 3) := by decide +kernel
theorem dX5_letPass_46 : decode cX5_letPass 46 = .ok (.istore 5, 2) := by decide +kernel
theorem dX5_letPass_48 : decode cX5_letPass 48 = .ok (.iload 5, 2) := by decide +kernel
theorem dX5_letPass_50 : decode cX5_letPass 50 = .ok (.iload_n 2, 1) := by decide +kernel
theorem dX5_letPass_51 : decode cX5_letPass 51 = .ok (.if_icmp .gt 19, 3) := by decide +kernel
theorem dX5_letPass_54 : decode cX5_letPass 54 = .ok (.aload_n 0, 1) := by decide +kernel
theorem dX5_letPass_55 : decode cX5_letPass 55 = .ok (.iload 5, 2) := by decide +kernel
theorem dX5_letPass_57 : decode cX5_letPass 57 = .ok (.invokevirtual 138, 3) := by decide +kernel
theorem dX5_letPass_60 : decode cX5_letPass 60 = .ok (.aload_n 0, 1) := by decide +kernel
theorem dX5_letPass_61 : decode cX5_letPass 61 = .ok (.invokevirtual 141, 3) := by decide +kernel
theorem dX5_letPass_64 : decode cX5_letPass 64 = .ok (.iinc 5 30, 3) := by decide +kernel
theorem dX5_letPass_67 : decode cX5_letPass 67 = .ok (.goto (-19), 3) := by decide +kernel
theorem dX5_letPass_70 : decode cX5_letPass 70 = .ok (.aload_n 0, 1) := by decide +kernel
theorem dX5_letPass_71 : decode cX5_letPass 71 = .ok (.iload_n 2, 1) := by decide +kernel
theorem dX5_letPass_72 : decode cX5_letPass 72 = .ok (.invokevirtual 138, 3) := by decide +kernel
theorem dX5_letPass_75 : decode cX5_letPass 75 = .ok (.aload_n 0, 1) := by decide +kernel
theorem dX5_letPass_76 : decode cX5_letPass 76 = .ok (.invokevirtual 144, 3) := by decide +kernel
theorem dX5_letPass_79 : decode cX5_letPass 79 = .ok (.aload_n 0, 1) := by decide +kernel
theorem dX5_letPass_80 : decode cX5_letPass 80 = .ok (.getfield 56, 3) := by decide +kernel
theorem dX5_letPass_83 : decode cX5_letPass 83 = .ok (.lload_n 3, 1) := by decide +kernel
theorem dX5_letPass_84 : decode cX5_letPass 84 = .ok (.lsub, 1) := by decide +kernel
theorem dX5_letPass_85 : decode cX5_letPass 85 = .ok (.lreturn, 1) := by decide +kernel
theorem dX5_reverseEntry_0 : decode cX5_reverseEntry 0 = .ok (.aload_n 0, 1) := by decide +kernel
theorem dX5_reverseEntry_1 : decode cX5_reverseEntry 1 = .ok (.getfield 31, 3) := by decide +kernel
theorem dX5_reverseEntry_4 : decode cX5_reverseEntry 4 = .ok (.iload_n 1, 1) := by decide +kernel
theorem dX5_reverseEntry_5 : decode cX5_reverseEntry 5 = .ok (.invokevirtual 147, 3) := by decide +kernel
theorem dX5_reverseEntry_8 : decode cX5_reverseEntry 8 = .ok (.ifCond .ne 5, 3) := by decide +kernel
theorem dX5_reverseEntry_11 : decode cX5_reverseEntry 11 = .ok (.iconst (-1), 1) := by decide +kernel
theorem dX5_reverseEntry_12 : decode cX5_reverseEntry 12 = .ok (.ireturn, 1) := by decide +kernel
theorem dX5_reverseEntry_13 : decode cX5_reverseEntry 13 = .ok (.aload_n 0, 1) := by decide +kernel
theorem dX5_reverseEntry_14 : decode cX5_reverseEntry 14 = .ok (.getfield 31, 3) := by decide +kernel
theorem dX5_reverseEntry_17 : decode cX5_reverseEntry 17 = .ok (.iload_n 1, 1) := by decide +kernel
theorem dX5_reverseEntry_18 : decode cX5_reverseEntry 18 = .ok (.iconst 1, 1) := by decide +kernel
theorem dX5_reverseEntry_19 : decode cX5_reverseEntry 19 = .ok (.invokevirtual 150, 3) := by decide +kernel
theorem dX5_reverseEntry_22 : decode cX5_reverseEntry 22 = .ok (.istore_n 2, 1) := by decide +kernel
theorem dX5_reverseEntry_23 : decode cX5_reverseEntry 23 = .ok (.iload_n 2, 1) := by decide +kernel
theorem dX5_reverseEntry_24 : decode cX5_reverseEntry 24 = .ok (.iconst 3, 1) := by decide +kernel
theorem dX5_reverseEntry_25 : decode cX5_reverseEntry 25 = .ok (.if_icmp .gt 16, 3) := by decide +kernel
theorem dX5_reverseEntry_28 : decode cX5_reverseEntry 28 = .ok (.aload_n 0, 1) := by decide +kernel
theorem dX5_reverseEntry_29 : decode cX5_reverseEntry 29 = .ok (.getfield 31, 3) := by decide +kernel
theorem dX5_reverseEntry_32 : decode cX5_reverseEntry 32 = .ok (.iload_n 1, 1) := by decide +kernel
theorem dX5_reverseEntry_33 : decode cX5_reverseEntry 33 = .ok (.bipush 6, 2) := by decide +kernel
theorem dX5_reverseEntry_35 : decode cX5_reverseEntry 35 = .ok (.invokevirtual 150, 3) := by decide +kernel
theorem dX5_reverseEntry_38 : decode cX5_reverseEntry 38 = .ok (.ifCond .eq 6, 3) := by decide +kernel
theorem dX5_reverseEntry_41 : decode cX5_reverseEntry 41 = .ok (.bipush (-3), 2) := by decide +kernel
theorem dX5_reverseEntry_43 : decode cX5_reverseEntry 43 = .ok (.ireturn, 1) := by decide +kernel
theorem dX5_reverseEntry_44 : decode cX5_reverseEntry 44 = .ok (.aload_n 0, 1) := by decide +kernel
theorem dX5_reverseEntry_45 : decode cX5_reverseEntry 45 = .ok (.getfield 31, 3) := by decide +kernel
theorem dX5_reverseEntry_48 : decode cX5_reverseEntry 48 = .ok (.iload_n 1, 1) := by decide +kernel
theorem dX5_reverseEntry_49 : decode cX5_reverseEntry 49 = .ok (.iconst 2, 1) := by decide +kernel
theorem dX5_reverseEntry_50 : decode cX5_reverseEntry 50 = .ok (.invokevirtual 150, 3) := by decide +kernel
theorem dX5_reverseEntry_53 : decode cX5_reverseEntry 53 = .ok (.istore_n 3, 1) := by decide +kernel
theorem dX5_reverseEntry_54 : decode cX5_reverseEntry 54 = .ok (.aload_n 0, 1) := by decide +kernel
theorem dX5_reverseEntry_55 : decode cX5_reverseEntry 55 = .ok (.getfield 31, 3) := by decide +kernel
theorem dX5_reverseEntry_58 : decode cX5_reverseEntry 58 = .ok (.iload_n 1, 1) := by decide +kernel
theorem dX5_reverseEntry_59 : decode cX5_reverseEntry 59 = .ok (.iconst 3, 1) := by decide +kernel
theorem dX5_reverseEntry_60 : decode cX5_reverseEntry 60 = .ok (.invokevirtual 150, 3) := by decide +kernel
theorem dX5_reverseEntry_63 : decode cX5_reverseEntry 63 = .ok (.istore 4, 2) := by decide +kernel
theorem dX5_reverseEntry_65 : decode cX5_reverseEntry 65 = .ok (.aload_n 0, 1) := by decide +kernel
theorem dX5_reverseEntry_66 : decode cX5_reverseEntry 66 = .ok (.getfield 12, 3) := by decide +kernel
theorem dX5_reverseEntry_69 : decode cX5_reverseEntry 69 = .ok (.iload_n 3, 1) := by decide +kernel
theorem dX5_reverseEntry_70 : decode cX5_reverseEntry 70 = .ok (.invokevirtual 76, 3) := by decide +kernel
theorem dX5_reverseEntry_73 : decode cX5_reverseEntry 73 = .ok (.istore 5, 2) := by decide +kernel
theorem dX5_reverseEntry_75 : decode cX5_reverseEntry 75 = .ok (.aload_n 0, 1) := by decide +kernel
theorem dX5_reverseEntry_76 : decode cX5_reverseEntry 76 = .ok (.getfield 12, 3) := by decide +kernel
theorem dX5_reverseEntry_79 : decode cX5_reverseEntry 79 = .ok (.iload 4, 2) := by decide +kernel
theorem dX5_reverseEntry_81 : decode cX5_reverseEntry 81 = .ok (.invokevirtual 76, 3) := by decide +kernel
theorem dX5_reverseEntry_84 : decode cX5_reverseEntry 84 = .ok (.istore 6, 2) := by decide +kernel
theorem dX5_reverseEntry_86 : decode cX5_reverseEntry 86 = .ok (.iload 5, 2) := by decide +kernel
theorem dX5_reverseEntry_88 : decode cX5_reverseEntry 88 = .ok (.ifCond .lt 13, 3) := by decide +kernel
theorem dX5_reverseEntry_91 : decode cX5_reverseEntry 91 = .ok (.iload_n 2, 1) := by decide +kernel
theorem dX5_reverseEntry_92 : decode cX5_reverseEntry 92 = .ok (.iconst 3, 1) := by decide +kernel
theorem dX5_reverseEntry_93 : decode cX5_reverseEntry 93 = .ok (.if_icmp .ne 11, 3) := by decide +kernel
theorem dX5_reverseEntry_96 : decode cX5_reverseEntry 96 = .ok (.iload 6, 2) := by decide +kernel
theorem dX5_reverseEntry_98 : decode cX5_reverseEntry 98 = .ok (.ifCond .ge 6, 3) := by decide +kernel
theorem dX5_reverseEntry_101 : decode cX5_reverseEntry 101 = .ok (.bipush (-3), 2) := by decide +kernel
theorem dX5_reverseEntry_103 : decode cX5_reverseEntry 103 = .ok (.ireturn, 1) := by decide +kernel
theorem dX5_reverseEntry_104 : decode cX5_reverseEntry 104 = .ok (.iload_n 2, 1) := by decide +kernel
theorem dX5_reverseEntry_105 : decode cX5_reverseEntry 105 = .ok (.iconst 1, 1) := by decide +kernel
theorem dX5_reverseEntry_106 : decode cX5_reverseEntry 106 = .ok (.if_icmp .ne 8, 3) := by decide +kernel
theorem dX5_reverseEntry_109 : decode cX5_reverseEntry 109 = .ok (.iload 5, 2) := by decide +kernel
theorem dX5_reverseEntry_111 : decode cX5_reverseEntry 111 = .ok (.goto 5, 3) := by decide +kernel
theorem dX5_reverseEntry_114 : decode cX5_reverseEntry 114 = .ok (.iload 6, 2) := by decide +kernel
theorem dX5_reverseEntry_116 : decode cX5_reverseEntry 116 = .ok (.istore 7, 2) := by decide +kernel
theorem dX5_reverseEntry_118 : decode cX5_reverseEntry 118 = .ok (.iload_n 2, 1) := by decide +kernel
theorem dX5_reverseEntry_119 : decode cX5_reverseEntry 119 = .ok (.iconst 1, 1) := by decide +kernel
theorem dX5_reverseEntry_120 : decode cX5_reverseEntry 120 = .ok (.if_icmp .ne 7, 3) := by decide +kernel
theorem dX5_reverseEntry_123 : decode cX5_reverseEntry 123 = .ok (.iconst (-1), 1) := by decide +kernel
theorem dX5_reverseEntry_124 : decode cX5_reverseEntry 124 = .ok (.goto 5, 3) := by decide +kernel
theorem dX5_reverseEntry_127 : decode cX5_reverseEntry 127 = .ok (.iload 5, 2) := by decide +kernel
theorem dX5_reverseEntry_129 : decode cX5_reverseEntry 129 = .ok (.istore 8, 2) := by decide +kernel
theorem dX5_reverseEntry_131 : decode cX5_reverseEntry 131 = .ok (.aload_n 0, 1) := by decide +kernel
theorem dX5_reverseEntry_132 : decode cX5_reverseEntry 132 = .ok (.getfield 31, 3) := by decide +kernel
theorem dX5_reverseEntry_135 : decode cX5_reverseEntry 135 = .ok (.iload_n 1, 1) := by decide +kernel
theorem dX5_reverseEntry_136 : decode cX5_reverseEntry 136 = .ok (.iconst 4, 1) := by decide +kernel
theorem dX5_reverseEntry_137 : decode cX5_reverseEntry 137 = .ok (.invokevirtual 150, 3) := by decide +kernel
theorem dX5_reverseEntry_140 : decode cX5_reverseEntry 140 = .ok (.istore 9, 2) := by decide +kernel
theorem dX5_reverseEntry_142 : decode cX5_reverseEntry 142 = .ok (.iload 7, 2) := by decide +kernel
theorem dX5_reverseEntry_144 : decode cX5_reverseEntry 144 = .ok (.ifCond .lt 17, 3) := by decide +kernel
theorem dX5_reverseEntry_147 : decode cX5_reverseEntry 147 = .ok (.aload_n 0, 1) := by decide +kernel
theorem dX5_reverseEntry_148 : decode cX5_reverseEntry 148 = .ok (.iload 7, 2) := by decide +kernel
theorem dX5_reverseEntry_150 : decode cX5_reverseEntry 150 = .ok (.invokevirtual 108, 3) := by decide +kernel
theorem dX5_reverseEntry_153 : decode cX5_reverseEntry 153 = .ok (.iload 9, 2) := by decide +kernel
theorem dX5_reverseEntry_155 : decode cX5_reverseEntry 155 = .ok (.if_icmp .ge 6, 3) := by decide +kernel
theorem dX5_reverseEntry_158 : decode cX5_reverseEntry 158 = .ok (.bipush (-3), 2) := by decide +kernel
theorem dX5_reverseEntry_160 : decode cX5_reverseEntry 160 = .ok (.ireturn, 1) := by decide +kernel
theorem dX5_reverseEntry_161 : decode cX5_reverseEntry 161 = .ok (.iload 8, 2) := by decide +kernel
theorem dX5_reverseEntry_163 : decode cX5_reverseEntry 163 = .ok (.ifCond .lt 23, 3) := by decide +kernel
theorem dX5_reverseEntry_166 : decode cX5_reverseEntry 166 = .ok (.aload_n 0, 1) := by decide +kernel
theorem dX5_reverseEntry_167 : decode cX5_reverseEntry 167 = .ok (.getfield 12, 3) := by decide +kernel
theorem dX5_reverseEntry_170 : decode cX5_reverseEntry 170 = .ok (.iload 8, 2) := by decide +kernel
theorem dX5_reverseEntry_172 : decode cX5_reverseEntry 172 = .ok (.invokevirtual 87, 3) := by decide +kernel
theorem dX5_reverseEntry_175 : decode cX5_reverseEntry 175 = .ok (.ldc 75, 2) := by decide +kernel
theorem dX5_reverseEntry_177 : decode cX5_reverseEntry 177 = .ok (.iload 9, 2) := by decide +kernel
theorem dX5_reverseEntry_179 : decode cX5_reverseEntry 179 = .ok (.isub, 1) := by decide +kernel
theorem dX5_reverseEntry_180 : decode cX5_reverseEntry 180 = .ok (.if_icmp .le 6, 3) := by decide +kernel
theorem dX5_reverseEntry_183 : decode cX5_reverseEntry 183 = .ok (.bipush (-4), 2) := by decide +kernel
theorem dX5_reverseEntry_185 : decode cX5_reverseEntry 185 = .ok (.ireturn, 1) := by decide +kernel
theorem dX5_reverseEntry_186 : decode cX5_reverseEntry 186 = .ok (.aload_n 0, 1) := by decide +kernel
theorem dX5_reverseEntry_187 : decode cX5_reverseEntry 187 = .ok (.getfield 12, 3) := by decide +kernel
theorem dX5_reverseEntry_190 : decode cX5_reverseEntry 190 = .ok (.iload 7, 2) := by decide +kernel
theorem dX5_reverseEntry_192 : decode cX5_reverseEntry 192 = .ok (.iload 9, 2) := by decide +kernel
theorem dX5_reverseEntry_194 : decode cX5_reverseEntry 194 = .ok (.ineg, 1) := by decide +kernel
theorem dX5_reverseEntry_195 : decode cX5_reverseEntry 195 = .ok (.invokevirtual 101, 3) := by decide +kernel
theorem dX5_reverseEntry_198 : decode cX5_reverseEntry 198 = .ok (.aload_n 0, 1) := by decide +kernel
theorem dX5_reverseEntry_199 : decode cX5_reverseEntry 199 = .ok (.getfield 12, 3) := by decide +kernel
theorem dX5_reverseEntry_202 : decode cX5_reverseEntry 202 = .ok (.iload 8, 2) := by decide +kernel
theorem dX5_reverseEntry_204 : decode cX5_reverseEntry 204 = .ok (.iload 9, 2) := by decide +kernel
theorem dX5_reverseEntry_206 : decode cX5_reverseEntry 206 = .ok (.invokevirtual 101, 3) := by decide +kernel
theorem dX5_reverseEntry_209 : decode cX5_reverseEntry 209 = .ok (.iload_n 2, 1) := by decide +kernel
theorem dX5_reverseEntry_210 : decode cX5_reverseEntry 210 = .ok (.iconst 1, 1) := by decide +kernel
theorem dX5_reverseEntry_211 : decode cX5_reverseEntry 211 = .ok (.if_icmp .ne 18, 3) := by decide +kernel
theorem dX5_reverseEntry_214 : decode cX5_reverseEntry 214 = .ok (.aload_n 0, 1) := by decide +kernel
theorem dX5_reverseEntry_215 : decode cX5_reverseEntry 215 = .ok (.dup, 1) := by decide +kernel
theorem dX5_reverseEntry_216 : decode cX5_reverseEntry 216 = .ok (.getfield 59, 3) := by decide +kernel
theorem dX5_reverseEntry_219 : decode cX5_reverseEntry 219 = .ok (.iload 9, 2) := by decide +kernel
theorem dX5_reverseEntry_221 : decode cX5_reverseEntry 221 = .ok (.i2l, 1) := by decide +kernel
theorem dX5_reverseEntry_222 : decode cX5_reverseEntry 222 = .ok (.lsub, 1) := by decide +kernel
theorem dX5_reverseEntry_223 : decode cX5_reverseEntry 223 = .ok (.putfield 59, 3) := by decide +kernel
theorem dX5_reverseEntry_226 : decode cX5_reverseEntry 226 = .ok (.goto 20, 3) := by decide +kernel
theorem dX5_reverseEntry_229 : decode cX5_reverseEntry 229 = .ok (.iload_n 2, 1) := by decide +kernel
theorem dX5_reverseEntry_230 : decode cX5_reverseEntry 230 = .ok (.iconst 2, 1) := by decide +kernel
theorem dX5_reverseEntry_231 : decode cX5_reverseEntry 231 = .ok (.if_icmp .ne 15, 3) := by decide +kernel
theorem dX5_reverseEntry_234 : decode cX5_reverseEntry 234 = .ok (.aload_n 0, 1) := by decide +kernel
theorem dX5_reverseEntry_235 : decode cX5_reverseEntry 235 = .ok (.dup, 1) := by decide +kernel
theorem dX5_reverseEntry_236 : decode cX5_reverseEntry 236 = .ok (.getfield 62, 3) := by decide +kernel
theorem dX5_reverseEntry_239 : decode cX5_reverseEntry 239 = .ok (.iload 9, 2) := by decide +kernel
theorem dX5_reverseEntry_241 : decode cX5_reverseEntry 241 = .ok (.i2l, 1) := by decide +kernel
theorem dX5_reverseEntry_242 : decode cX5_reverseEntry 242 = .ok (.lsub, 1) := by decide +kernel
theorem dX5_reverseEntry_243 : decode cX5_reverseEntry 243 = .ok (.putfield 62, 3) := by decide +kernel
theorem dX5_reverseEntry_246 : decode cX5_reverseEntry 246 = .ok (.aload_n 0, 1) := by decide +kernel
theorem dX5_reverseEntry_247 : decode cX5_reverseEntry 247 = .ok (.getfield 31, 3) := by decide +kernel
theorem dX5_reverseEntry_250 : decode cX5_reverseEntry 250 = .ok (.iload_n 1, 1) := by decide +kernel
theorem dX5_reverseEntry_251 : decode cX5_reverseEntry 251 = .ok (.invokevirtual 151, 3) := by decide +kernel
theorem dX5_reverseEntry_254 : decode cX5_reverseEntry 254 = .ok (.aload_n 0, 1) := by decide +kernel
theorem dX5_reverseEntry_255 : decode cX5_reverseEntry 255 = .ok (.bipush 6, 2) := by decide +kernel
theorem dX5_reverseEntry_257 : decode cX5_reverseEntry 257 = .ok (.iload_n 3, 1) := by decide +kernel
theorem dX5_reverseEntry_258 : decode cX5_reverseEntry 258 = .ok (.iload 4, 2) := by decide +kernel
theorem dX5_reverseEntry_260 : decode cX5_reverseEntry 260 = .ok (.iload 9, 2) := by decide +kernel
theorem dX5_reverseEntry_262 : decode cX5_reverseEntry 262 = .ok (.invokevirtual 104, 3) := by decide +kernel
theorem dX5_reverseEntry_265 : decode cX5_reverseEntry 265 = .ok (.aload_n 0, 1) := by decide +kernel
theorem dX5_reverseEntry_266 : decode cX5_reverseEntry 266 = .ok (.getfield 31, 3) := by decide +kernel
theorem dX5_reverseEntry_269 : decode cX5_reverseEntry 269 = .ok (.getfield 154, 3) := by decide +kernel
theorem dX5_reverseEntry_272 : decode cX5_reverseEntry 272 = .ok (.ireturn, 1) := by decide +kernel
theorem dX5_freeAt_0 : decode cX5_freeAt 0 = .ok (.aload_n 0, 1) := by decide +kernel
theorem dX5_freeAt_1 : decode cX5_freeAt 1 = .ok (.getfield 12, 3) := by decide +kernel
theorem dX5_freeAt_4 : decode cX5_freeAt 4 = .ok (.iload_n 1, 1) := by decide +kernel
theorem dX5_freeAt_5 : decode cX5_freeAt 5 = .ok (.invokevirtual 87, 3) := by decide +kernel
theorem dX5_freeAt_8 : decode cX5_freeAt 8 = .ok (.aload_n 0, 1) := by decide +kernel
theorem dX5_freeAt_9 : decode cX5_freeAt 9 = .ok (.getfield 21, 3) := by decide +kernel
theorem dX5_freeAt_12 : decode cX5_freeAt 12 = .ok (.aload_n 0, 1) := by decide +kernel
theorem dX5_freeAt_13 : decode cX5_freeAt 13 = .ok (.getfield 12, 3) := by decide +kernel
theorem dX5_freeAt_16 : decode cX5_freeAt 16 = .ok (.iload_n 1, 1) := by decide +kernel
theorem dX5_freeAt_17 : decode cX5_freeAt 17 = .ok (.invokevirtual 157, 3) := by decide +kernel
theorem dX5_freeAt_20 : decode cX5_freeAt 20 = .ok (.iconst 2, 1) := by decide +kernel
theorem dX5_freeAt_21 : decode cX5_freeAt 21 = .ok (.invokevirtual 160, 3) := by decide +kernel
theorem dX5_freeAt_24 : decode cX5_freeAt 24 = .ok (.isub, 1) := by decide +kernel
theorem dX5_freeAt_25 : decode cX5_freeAt 25 = .ok (.ireturn, 1) := by decide +kernel
theorem dX5_aboutClient_0 : decode cX5_aboutClient 0 = .ok (.aload_n 0, 1) := by decide +kernel
theorem dX5_aboutClient_1 : decode cX5_aboutClient 1 = .ok (.getfield 12, 3) := by decide +kernel
theorem dX5_aboutClient_4 : decode cX5_aboutClient 4 = .ok (.iload_n 1, 1) := by decide +kernel
theorem dX5_aboutClient_5 : decode cX5_aboutClient 5 = .ok (.invokevirtual 157, 3) := by decide +kernel
theorem dX5_aboutClient_8 : decode cX5_aboutClient 8 = .ok (.istore_n 3, 1) := by decide +kernel
theorem dX5_aboutClient_9 : decode cX5_aboutClient 9 = .ok (.iload_n 2, 1) := by decide +kernel
theorem dX5_aboutClient_10 : decode cX5_aboutClient 10 = .ok (.tableswitch 128 0 7 #[46, 55, 65, 71, 91, 101, 110, 119], 46) := by decide +kernel
theorem dX5_aboutClient_56 : decode cX5_aboutClient 56 = .ok (.aload_n 0, 1) := by decide +kernel
theorem dX5_aboutClient_57 : decode cX5_aboutClient 57 = .ok (.getfield 12, 3) := by decide +kernel
theorem dX5_aboutClient_60 : decode cX5_aboutClient 60 = .ok (.iload_n 1, 1) := by decide +kernel
theorem dX5_aboutClient_61 : decode cX5_aboutClient 61 = .ok (.invokevirtual 87, 3) := by decide +kernel
theorem dX5_aboutClient_64 : decode cX5_aboutClient 64 = .ok (.ireturn, 1) := by decide +kernel
theorem dX5_aboutClient_65 : decode cX5_aboutClient 65 = .ok (.aload_n 0, 1) := by decide +kernel
theorem dX5_aboutClient_66 : decode cX5_aboutClient 66 = .ok (.getfield 21, 3) := by decide +kernel
theorem dX5_aboutClient_69 : decode cX5_aboutClient 69 = .ok (.iload_n 3, 1) := by decide +kernel
theorem dX5_aboutClient_70 : decode cX5_aboutClient 70 = .ok (.iconst 2, 1) := by decide +kernel
theorem dX5_aboutClient_71 : decode cX5_aboutClient 71 = .ok (.invokevirtual 160, 3) := by decide +kernel
theorem dX5_aboutClient_74 : decode cX5_aboutClient 74 = .ok (.ireturn, 1) := by decide +kernel
theorem dX5_aboutClient_75 : decode cX5_aboutClient 75 = .ok (.aload_n 0, 1) := by decide +kernel
theorem dX5_aboutClient_76 : decode cX5_aboutClient 76 = .ok (.iload_n 1, 1) := by decide +kernel
theorem dX5_aboutClient_77 : decode cX5_aboutClient 77 = .ok (.invokevirtual 108, 3) := by decide +kernel
theorem dX5_aboutClient_80 : decode cX5_aboutClient 80 = .ok (.ireturn, 1) := by decide +kernel
theorem dX5_aboutClient_81 : decode cX5_aboutClient 81 = .ok (.aload_n 0, 1) := by decide +kernel
theorem dX5_aboutClient_82 : decode cX5_aboutClient 82 = .ok (.getfield 12, 3) := by decide +kernel
theorem dX5_aboutClient_85 : decode cX5_aboutClient 85 = .ok (.iload_n 1, 1) := by decide +kernel
theorem dX5_aboutClient_86 : decode cX5_aboutClient 86 = .ok (.invokevirtual 163, 3) := by decide +kernel
theorem dX5_aboutClient_89 : decode cX5_aboutClient 89 = .ok (.ldc2_w 167, 3) := by decide +kernel
theorem dX5_aboutClient_92 : decode cX5_aboutClient 92 = .ok (.ldiv, 1) := by decide +kernel
theorem dX5_aboutClient_93 : decode cX5_aboutClient 93 = .ok (.ldc2_w 169, 3) := by decide +kernel
theorem dX5_aboutClient_96 : decode cX5_aboutClient 96 = .ok (.invokestatic 171, 3) := by decide +kernel
theorem dX5_aboutClient_99 : decode cX5_aboutClient 99 = .ok (.l2i, 1) := by decide +kernel
theorem dX5_aboutClient_100 : decode cX5_aboutClient 100 = .ok (.ireturn, 1) := by decide +kernel
theorem dX5_aboutClient_101 : decode cX5_aboutClient 101 = .ok (.aload_n 0, 1) := by decide +kernel
theorem dX5_aboutClient_102 : decode cX5_aboutClient 102 = .ok (.getfield 25, 3) := by decide +kernel
theorem dX5_aboutClient_105 : decode cX5_aboutClient 105 = .ok (.iload_n 3, 1) := by decide +kernel
theorem dX5_aboutClient_106 : decode cX5_aboutClient 106 = .ok (.iconst 2, 1) := by decide +kernel
theorem dX5_aboutClient_107 : decode cX5_aboutClient 107 = .ok (.invokevirtual 160, 3) := by decide +kernel
theorem dX5_aboutClient_110 : decode cX5_aboutClient 110 = .ok (.ireturn, 1) := by decide +kernel
theorem dX5_aboutClient_111 : decode cX5_aboutClient 111 = .ok (.aload_n 0, 1) := by decide +kernel
theorem dX5_aboutClient_112 : decode cX5_aboutClient 112 = .ok (.getfield 12, 3) := by decide +kernel
theorem dX5_aboutClient_115 : decode cX5_aboutClient 115 = .ok (.iload_n 1, 1) := by decide +kernel
theorem dX5_aboutClient_116 : decode cX5_aboutClient 116 = .ok (.invokevirtual 174, 3) := by decide +kernel
theorem dX5_aboutClient_119 : decode cX5_aboutClient 119 = .ok (.ireturn, 1) := by decide +kernel
theorem dX5_aboutClient_120 : decode cX5_aboutClient 120 = .ok (.aload_n 0, 1) := by decide +kernel
theorem dX5_aboutClient_121 : decode cX5_aboutClient 121 = .ok (.getfield 21, 3) := by decide +kernel
theorem dX5_aboutClient_124 : decode cX5_aboutClient 124 = .ok (.iload_n 3, 1) := by decide +kernel
theorem dX5_aboutClient_125 : decode cX5_aboutClient 125 = .ok (.invokevirtual 90, 3) := by decide +kernel
theorem dX5_aboutClient_128 : decode cX5_aboutClient 128 = .ok (.ireturn, 1) := by decide +kernel
theorem dX5_aboutClient_129 : decode cX5_aboutClient 129 = .ok (.aload_n 0, 1) := by decide +kernel
theorem dX5_aboutClient_130 : decode cX5_aboutClient 130 = .ok (.getfield 25, 3) := by decide +kernel
theorem dX5_aboutClient_133 : decode cX5_aboutClient 133 = .ok (.iload_n 3, 1) := by decide +kernel
theorem dX5_aboutClient_134 : decode cX5_aboutClient 134 = .ok (.invokevirtual 90, 3) := by decide +kernel
theorem dX5_aboutClient_137 : decode cX5_aboutClient 137 = .ok (.ireturn, 1) := by decide +kernel
theorem dX5_aboutClient_138 : decode cX5_aboutClient 138 = .ok (.bipush (-2), 2) := by decide +kernel
theorem dX5_aboutClient_140 : decode cX5_aboutClient 140 = .ok (.ireturn, 1) := by decide +kernel
theorem dX5_firstDayWithFree_0 : decode cX5_firstDayWithFree 0 = .ok (.aload_n 0, 1) := by decide +kernel
theorem dX5_firstDayWithFree_1 : decode cX5_firstDayWithFree 1 = .ok (.getfield 12, 3) := by decide +kernel
theorem dX5_firstDayWithFree_4 : decode cX5_firstDayWithFree 4 = .ok (.iload_n 1, 1) := by decide +kernel
theorem dX5_firstDayWithFree_5 : decode cX5_firstDayWithFree 5 = .ok (.invokevirtual 157, 3) := by decide +kernel
theorem dX5_firstDayWithFree_8 : decode cX5_firstDayWithFree 8 = .ok (.istore_n 3, 1) := by decide +kernel
theorem dX5_firstDayWithFree_9 : decode cX5_firstDayWithFree 9 = .ok (.aload_n 0, 1) := by decide +kernel
theorem dX5_firstDayWithFree_10 : decode cX5_firstDayWithFree 10 = .ok (.getfield 12, 3) := by decide +kernel
theorem dX5_firstDayWithFree_13 : decode cX5_firstDayWithFree 13 = .ok (.iload_n 1, 1) := by decide +kernel
theorem dX5_firstDayWithFree_14 : decode cX5_firstDayWithFree 14 = .ok (.invokevirtual 87, 3) := by decide +kernel
theorem dX5_firstDayWithFree_17 : decode cX5_firstDayWithFree 17 = .ok (.istore 4, 2) := by decide +kernel
theorem dX5_firstDayWithFree_19 : decode cX5_firstDayWithFree 19 = .ok (.aload_n 0, 1) := by decide +kernel
theorem dX5_firstDayWithFree_20 : decode cX5_firstDayWithFree 20 = .ok (.getfield 12, 3) := by decide +kernel
theorem dX5_firstDayWithFree_23 : decode cX5_firstDayWithFree 23 = .ok (.iload_n 1, 1) := by decide +kernel
theorem dX5_firstDayWithFree_24 : decode cX5_firstDayWithFree 24 = .ok (.invokevirtual 163, 3) := by decide +kernel
theorem dX5_firstDayWithFree_27 : decode cX5_firstDayWithFree 27 = .ok (.lstore 5, 2) := by decide +kernel
theorem dX5_firstDayWithFree_29 : decode cX5_firstDayWithFree 29 = .ok (.iconst 0, 1) := by decide +kernel
theorem dX5_firstDayWithFree_30 : decode cX5_firstDayWithFree 30 = .ok (.istore 7, 2) := by decide +kernel
theorem dX5_firstDayWithFree_32 : decode cX5_firstDayWithFree 32 = .ok (.iload 7, 2) := by decide +kernel
theorem dX5_firstDayWithFree_34 : decode cX5_firstDayWithFree 34 = .ok (.sipush 400, 3) := by decide +kernel
theorem dX5_firstDayWithFree_37 : decode cX5_firstDayWithFree 37 = .ok (.if_icmp .gt 88, 3) := by decide +kernel
theorem dX5_firstDayWithFree_40 : decode cX5_firstDayWithFree 40 = .ok (.aload_n 0, 1) := by decide +kernel
theorem dX5_firstDayWithFree_41 : decode cX5_firstDayWithFree 41 = .ok (.getfield 35, 3) := by decide +kernel
theorem dX5_firstDayWithFree_44 : decode cX5_firstDayWithFree 44 = .ok (.iload 7, 2) := by decide +kernel
theorem dX5_firstDayWithFree_46 : decode cX5_firstDayWithFree 46 = .ok (.iadd, 1) := by decide +kernel
theorem dX5_firstDayWithFree_47 : decode cX5_firstDayWithFree 47 = .ok (.istore 8, 2) := by decide +kernel
theorem dX5_firstDayWithFree_49 : decode cX5_firstDayWithFree 49 = .ok (.iload 7, 2) := by decide +kernel
theorem dX5_firstDayWithFree_51 : decode cX5_firstDayWithFree 51 = .ok (.ifCond .le 51, 3) := by decide +kernel
theorem dX5_firstDayWithFree_54 : decode cX5_firstDayWithFree 54 = .ok (.lload 5, 2) := by decide +kernel
theorem dX5_firstDayWithFree_56 : decode cX5_firstDayWithFree 56 = .ok (.aload_n 0, 1) := by decide +kernel
theorem dX5_firstDayWithFree_57 : decode cX5_firstDayWithFree 57 = .ok (.iload 4, 2) := by decide +kernel
theorem dX5_firstDayWithFree_59 : decode cX5_firstDayWithFree 59 = .ok (.invokevirtual 177, 3) := by decide +kernel
theorem dX5_firstDayWithFree_62 : decode cX5_firstDayWithFree 62 = .ok (.ladd, 1) := by decide +kernel
theorem dX5_firstDayWithFree_63 : decode cX5_firstDayWithFree 63 = .ok (.lstore 5, 2) := by decide +kernel
theorem dX5_firstDayWithFree_65 : decode cX5_firstDayWithFree 65 = .ok (.iload 8, 2) := by decide +kernel
theorem dX5_firstDayWithFree_67 : decode cX5_firstDayWithFree 67 = .ok (.bipush 30, 2) := by decide +kernel
theorem dX5_firstDayWithFree_69 : decode cX5_firstDayWithFree 69 = .ok (.irem, 1) := by decide +kernel
theorem dX5_firstDayWithFree_70 : decode cX5_firstDayWithFree 70 = .ok (.ifCond .ne 32, 3) := by decide +kernel
theorem dX5_firstDayWithFree_73 : decode cX5_firstDayWithFree 73 = .ok (.aload_n 0, 1) := by decide +kernel
theorem dX5_firstDayWithFree_74 : decode cX5_firstDayWithFree 74 = .ok (.iload 4, 2) := by decide +kernel
theorem dX5_firstDayWithFree_76 : decode cX5_firstDayWithFree 76 = .ok (.lload 5, 2) := by decide +kernel
theorem dX5_firstDayWithFree_78 : decode cX5_firstDayWithFree 78 = .ok (.invokevirtual 180, 3) := by decide +kernel
theorem dX5_firstDayWithFree_81 : decode cX5_firstDayWithFree 81 = .ok (.istore 9, 2) := by decide +kernel
theorem dX5_firstDayWithFree_83 : decode cX5_firstDayWithFree 83 = .ok (.iload 4, 2) := by decide +kernel
theorem dX5_firstDayWithFree_85 : decode cX5_firstDayWithFree 85 = .ok (.iload 9, 2) := by decide +kernel
theorem dX5_firstDayWithFree_87 : decode cX5_firstDayWithFree 87 = .ok (.iadd, 1) := by decide +kernel
theorem dX5_firstDayWithFree_88 : decode cX5_firstDayWithFree 88 = .ok (.istore 4, 2) := by decide +kernel
theorem dX5_firstDayWithFree_90 : decode cX5_firstDayWithFree 90 = .ok (.lload 5, 2) := by decide +kernel
theorem dX5_firstDayWithFree_92 : decode cX5_firstDayWithFree 92 = .ok (.ldc2_w 167, 3) := by decide +kernel
theorem dX5_firstDayWithFree_95 : decode cX5_firstDayWithFree 95 = .ok (.iload 9, 2) := by decide +kernel
theorem dX5_firstDayWithFree_97 : decode cX5_firstDayWithFree 97 = .ok (.i2l, 1) := by decide +kernel
theorem dX5_firstDayWithFree_98 : decode cX5_firstDayWithFree 98 = .ok (.lmul, 1) := by decide +kernel
theorem dX5_firstDayWithFree_99 : decode cX5_firstDayWithFree 99 = .ok (.lsub, 1) := by decide +kernel
theorem dX5_firstDayWithFree_100 : decode cX5_firstDayWithFree 100 = .ok (.lstore 5, 2) := by decide +kernel
theorem dX5_firstDayWithFree_102 : decode cX5_firstDayWithFree 102 = .ok (.iload 4, 2) := by decide +kernel
theorem dX5_firstDayWithFree_104 : decode cX5_firstDayWithFree 104 = .ok (.aload_n 0, 1) := by decide +kernel
theorem dX5_firstDayWithFree_105 : decode cX5_firstDayWithFree 105 = .ok (.iload_n 3, 1) := by decide +kernel
theorem dX5_firstDayWithFree_106 : decode cX5_firstDayWithFree 106 = .ok (.iload 8, 2) := by decide +kernel
theorem dX5_firstDayWithFree_108 : decode cX5_firstDayWithFree 108 = .ok (.invokevirtual 184, 3) := by decide +kernel
theorem dX5_firstDayWithFree_111 : decode cX5_firstDayWithFree 111 = .ok (.isub, 1) := by decide +kernel
theorem dX5_firstDayWithFree_112 : decode cX5_firstDayWithFree 112 = .ok (.iload_n 2, 1) := by decide +kernel
theorem dX5_firstDayWithFree_113 : decode cX5_firstDayWithFree 113 = .ok (.if_icmp .lt 6, 3) := by decide +kernel
theorem dX5_firstDayWithFree_116 : decode cX5_firstDayWithFree 116 = .ok (.iload 8, 2) := by decide +kernel
theorem dX5_firstDayWithFree_118 : decode cX5_firstDayWithFree 118 = .ok (.ireturn, 1) := by decide +kernel
theorem dX5_firstDayWithFree_119 : decode cX5_firstDayWithFree 119 = .ok (.iinc 7 1, 3) := by decide +kernel
theorem dX5_firstDayWithFree_122 : decode cX5_firstDayWithFree 122 = .ok (.goto (-90), 3) := by decide +kernel
theorem dX5_firstDayWithFree_125 : decode cX5_firstDayWithFree 125 = .ok (.bipush (-6), 2) := by decide +kernel
theorem dX5_firstDayWithFree_127 : decode cX5_firstDayWithFree 127 = .ok (.ireturn, 1) := by decide +kernel
theorem dX5_interestAhead_0 : decode cX5_interestAhead 0 = .ok (.aload_n 0, 1) := by decide +kernel
theorem dX5_interestAhead_1 : decode cX5_interestAhead 1 = .ok (.getfield 12, 3) := by decide +kernel
theorem dX5_interestAhead_4 : decode cX5_interestAhead 4 = .ok (.iload_n 1, 1) := by decide +kernel
theorem dX5_interestAhead_5 : decode cX5_interestAhead 5 = .ok (.invokevirtual 87, 3) := by decide +kernel
theorem dX5_interestAhead_8 : decode cX5_interestAhead 8 = .ok (.istore_n 3, 1) := by decide +kernel
theorem dX5_interestAhead_9 : decode cX5_interestAhead 9 = .ok (.aload_n 0, 1) := by decide +kernel
theorem dX5_interestAhead_10 : decode cX5_interestAhead 10 = .ok (.getfield 12, 3) := by decide +kernel
theorem dX5_interestAhead_13 : decode cX5_interestAhead 13 = .ok (.iload_n 1, 1) := by decide +kernel
theorem dX5_interestAhead_14 : decode cX5_interestAhead 14 = .ok (.invokevirtual 163, 3) := by decide +kernel
theorem dX5_interestAhead_17 : decode cX5_interestAhead 17 = .ok (.lstore 4, 2) := by decide +kernel
theorem dX5_interestAhead_19 : decode cX5_interestAhead 19 = .ok (.iconst 0, 1) := by decide +kernel
theorem dX5_interestAhead_20 : decode cX5_interestAhead 20 = .ok (.istore 6, 2) := by decide +kernel
theorem dX5_interestAhead_22 : decode cX5_interestAhead 22 = .ok (.aload_n 0, 1) := by decide +kernel
theorem dX5_interestAhead_23 : decode cX5_interestAhead 23 = .ok (.getfield 35, 3) := by decide +kernel
theorem dX5_interestAhead_26 : decode cX5_interestAhead 26 = .ok (.istore 7, 2) := by decide +kernel
theorem dX5_interestAhead_28 : decode cX5_interestAhead 28 = .ok (.aload_n 0, 1) := by decide +kernel
theorem dX5_interestAhead_29 : decode cX5_interestAhead 29 = .ok (.getfield 35, 3) := by decide +kernel
theorem dX5_interestAhead_32 : decode cX5_interestAhead 32 = .ok (.invokestatic 135, 3) := by decide +kernel
theorem dX5_interestAhead_35 : decode cX5_interestAhead 35 = .ok (.istore 8, 2) := by decide +kernel
theorem dX5_interestAhead_37 : decode cX5_interestAhead 37 = .ok (.iload 8, 2) := by decide +kernel
theorem dX5_interestAhead_39 : decode cX5_interestAhead 39 = .ok (.aload_n 0, 1) := by decide +kernel
theorem dX5_interestAhead_40 : decode cX5_interestAhead 40 = .ok (.getfield 35, 3) := by decide +kernel
theorem dX5_interestAhead_43 : decode cX5_interestAhead 43 = .ok (.iload_n 2, 1) := by decide +kernel
theorem dX5_interestAhead_44 : decode cX5_interestAhead 44 = .ok (.iadd, 1) := by decide +kernel
theorem dX5_interestAhead_45 : decode cX5_interestAhead 45 = .ok (.if_icmp .gt 63, 3) := by decide +kernel
theorem dX5_interestAhead_48 : decode cX5_interestAhead 48 = .ok (.lload 4, 2) := by decide +kernel
theorem dX5_interestAhead_50 : decode cX5_interestAhead 50 = .ok (.aload_n 0, 1) := by decide +kernel
theorem dX5_interestAhead_51 : decode cX5_interestAhead 51 = .ok (.iload_n 3, 1) := by decide +kernel
theorem dX5_interestAhead_52 : decode cX5_interestAhead 52 = .ok (.invokevirtual 177, 3) := by decide +kernel
theorem dX5_interestAhead_55 : decode cX5_interestAhead 55 = .ok (.iload 8, 2) := by decide +kernel
theorem dX5_interestAhead_57 : decode cX5_interestAhead 57 = .ok (.iload 7, 2) := by decide +kernel
theorem dX5_interestAhead_59 : decode cX5_interestAhead 59 = .ok (.isub, 1) := by decide +kernel
theorem dX5_interestAhead_60 : decode cX5_interestAhead 60 = .ok (.i2l, 1) := by decide +kernel
theorem dX5_interestAhead_61 : decode cX5_interestAhead 61 = .ok (.lmul, 1) := by decide +kernel
theorem dX5_interestAhead_62 : decode cX5_interestAhead 62 = .ok (.ladd, 1) := by decide +kernel
theorem dX5_interestAhead_63 : decode cX5_interestAhead 63 = .ok (.lstore 4, 2) := by decide +kernel
theorem dX5_interestAhead_65 : decode cX5_interestAhead 65 = .ok (.aload_n 0, 1) := by decide +kernel
theorem dX5_interestAhead_66 : decode cX5_interestAhead 66 = .ok (.iload_n 3, 1) := by decide +kernel
theorem dX5_interestAhead_67 : decode cX5_interestAhead 67 = .ok (.lload 4, 2) := by decide +kernel
theorem dX5_interestAhead_69 : decode cX5_interestAhead 69 = .ok (.invokevirtual 180, 3) := by decide +kernel
theorem dX5_interestAhead_72 : decode cX5_interestAhead 72 = .ok (.istore 9, 2) := by decide +kernel
theorem dX5_interestAhead_74 : decode cX5_interestAhead 74 = .ok (.iload_n 3, 1) := by decide +kernel
theorem dX5_interestAhead_75 : decode cX5_interestAhead 75 = .ok (.iload 9, 2) := by decide +kernel
theorem dX5_interestAhead_77 : decode cX5_interestAhead 77 = .ok (.iadd, 1) := by decide +kernel
theorem dX5_interestAhead_78 : decode cX5_interestAhead 78 = .ok (.istore_n 3, 1) := by decide +kernel
theorem dX5_interestAhead_79 : decode cX5_interestAhead 79 = .ok (.lload 4, 2) := by decide +kernel
theorem dX5_interestAhead_81 : decode cX5_interestAhead 81 = .ok (.ldc2_w 167, 3) := by decide +kernel
theorem dX5_interestAhead_84 : decode cX5_interestAhead 84 = .ok (.iload 9, 2) := by decide +kernel
theorem dX5_interestAhead_86 : decode cX5_interestAhead 86 = .ok (.i2l, 1) := by decide +kernel
theorem dX5_interestAhead_87 : decode cX5_interestAhead 87 = .ok (.lmul, 1) := by decide +kernel
theorem dX5_interestAhead_88 : decode cX5_interestAhead 88 = .ok (.lsub, 1) := by decide +kernel
theorem dX5_interestAhead_89 : decode cX5_interestAhead 89 = .ok (.lstore 4, 2) := by decide +kernel
theorem dX5_interestAhead_91 : decode cX5_interestAhead 91 = .ok (.iload 6, 2) := by decide +kernel
theorem dX5_interestAhead_93 : decode cX5_interestAhead 93 = .ok (.iload 9, 2) := by decide +kernel
theorem dX5_interestAhead_95 : decode cX5_interestAhead 95 = .ok (.iadd, 1) := by decide +kernel
theorem dX5_interestAhead_96 : decode cX5_interestAhead 96 = .ok (.istore 6, 2) := by decide +kernel
theorem dX5_interestAhead_98 : decode cX5_interestAhead 98 = .ok (.iload 8, 2) := by decide +kernel
theorem dX5_interestAhead_100 : decode cX5_interestAhead 100 = .ok (.istore 7, 2) := by decide +kernel
theorem dX5_interestAhead_102 : decode cX5_interestAhead 102 = .ok (.iinc 8 30, 3) := by decide +kernel
theorem dX5_interestAhead_105 : decode cX5_interestAhead 105 = .ok (.goto (-68), 3) := by decide +kernel
theorem dX5_interestAhead_108 : decode cX5_interestAhead 108 = .ok (.iload 6, 2) := by decide +kernel
theorem dX5_interestAhead_110 : decode cX5_interestAhead 110 = .ok (.ireturn, 1) := by decide +kernel
theorem dX5_growthPerDay_0 : decode cX5_growthPerDay 0 = .ok (.iload_n 1, 1) := by decide +kernel
theorem dX5_growthPerDay_1 : decode cX5_growthPerDay 1 = .ok (.aload_n 0, 1) := by decide +kernel
theorem dX5_growthPerDay_2 : decode cX5_growthPerDay 2 = .ok (.getfield 40, 3) := by decide +kernel
theorem dX5_growthPerDay_5 : decode cX5_growthPerDay 5 = .ok (.invokestatic 122, 3) := by decide +kernel
theorem dX5_growthPerDay_8 : decode cX5_growthPerDay 8 = .ok (.i2l, 1) := by decide +kernel
theorem dX5_growthPerDay_9 : decode cX5_growthPerDay 9 = .ok (.lstore_n 2, 1) := by decide +kernel
theorem dX5_growthPerDay_10 : decode cX5_growthPerDay 10 = .ok (.aload_n 0, 1) := by decide +kernel
theorem dX5_growthPerDay_11 : decode cX5_growthPerDay 11 = .ok (.getfield 43, 3) := by decide +kernel
theorem dX5_growthPerDay_14 : decode cX5_growthPerDay 14 = .ok (.i2l, 1) := by decide +kernel
theorem dX5_growthPerDay_15 : decode cX5_growthPerDay 15 = .ok (.lload_n 2, 1) := by decide +kernel
theorem dX5_growthPerDay_16 : decode cX5_growthPerDay 16 = .ok (.lmul, 1) := by decide +kernel
theorem dX5_growthPerDay_17 : decode cX5_growthPerDay 17 = .ok (.aload_n 0, 1) := by decide +kernel
theorem dX5_growthPerDay_18 : decode cX5_growthPerDay 18 = .ok (.getfield 46, 3) := by decide +kernel
theorem dX5_growthPerDay_21 : decode cX5_growthPerDay 21 = .ok (.i2l, 1) := by decide +kernel
theorem dX5_growthPerDay_22 : decode cX5_growthPerDay 22 = .ok (.iload_n 1, 1) := by decide +kernel
theorem dX5_growthPerDay_23 : decode cX5_growthPerDay 23 = .ok (.i2l, 1) := by decide +kernel
theorem dX5_growthPerDay_24 : decode cX5_growthPerDay 24 = .ok (.lload_n 2, 1) := by decide +kernel
theorem dX5_growthPerDay_25 : decode cX5_growthPerDay 25 = .ok (.lsub, 1) := by decide +kernel
theorem dX5_growthPerDay_26 : decode cX5_growthPerDay 26 = .ok (.lmul, 1) := by decide +kernel
theorem dX5_growthPerDay_27 : decode cX5_growthPerDay 27 = .ok (.ladd, 1) := by decide +kernel
theorem dX5_growthPerDay_28 : decode cX5_growthPerDay 28 = .ok (.lreturn, 1) := by decide +kernel
theorem dX5_interestToCredit_0 : decode cX5_interestToCredit 0 = .ok (.lload_n 2, 1) := by decide +kernel
theorem dX5_interestToCredit_1 : decode cX5_interestToCredit 1 = .ok (.ldc2_w 167, 3) := by decide +kernel
theorem dX5_interestToCredit_4 : decode cX5_interestToCredit 4 = .ok (.ldiv, 1) := by decide +kernel
theorem dX5_interestToCredit_5 : decode cX5_interestToCredit 5 = .ok (.ldc 75, 2) := by decide +kernel
theorem dX5_interestToCredit_7 : decode cX5_interestToCredit 7 = .ok (.iload_n 1, 1) := by decide +kernel
theorem dX5_interestToCredit_8 : decode cX5_interestToCredit 8 = .ok (.isub, 1) := by decide +kernel
theorem dX5_interestToCredit_9 : decode cX5_interestToCredit 9 = .ok (.i2l, 1) := by decide +kernel
theorem dX5_interestToCredit_10 : decode cX5_interestToCredit 10 = .ok (.invokestatic 171, 3) := by decide +kernel
theorem dX5_interestToCredit_13 : decode cX5_interestToCredit 13 = .ok (.lstore 4, 2) := by decide +kernel
theorem dX5_interestToCredit_15 : decode cX5_interestToCredit 15 = .ok (.lload 4, 2) := by decide +kernel
theorem dX5_interestToCredit_17 : decode cX5_interestToCredit 17 = .ok (.aload_n 0, 1) := by decide +kernel
theorem dX5_interestToCredit_18 : decode cX5_interestToCredit 18 = .ok (.getfield 49, 3) := by decide +kernel
theorem dX5_interestToCredit_21 : decode cX5_interestToCredit 21 = .ok (.i2l, 1) := by decide +kernel
theorem dX5_interestToCredit_22 : decode cX5_interestToCredit 22 = .ok (.lcmp, 1) := by decide +kernel
theorem dX5_interestToCredit_23 : decode cX5_interestToCredit 23 = .ok (.ifCond .lt 9, 3) := by decide +kernel
theorem dX5_interestToCredit_26 : decode cX5_interestToCredit 26 = .ok (.lload 4, 2) := by decide +kernel
theorem dX5_interestToCredit_28 : decode cX5_interestToCredit 28 = .ok (.l2i, 1) := by decide +kernel
theorem dX5_interestToCredit_29 : decode cX5_interestToCredit 29 = .ok (.goto 4, 3) := by decide +kernel
theorem dX5_interestToCredit_32 : decode cX5_interestToCredit 32 = .ok (.iconst 0, 1) := by decide +kernel
theorem dX5_interestToCredit_33 : decode cX5_interestToCredit 33 = .ok (.ireturn, 1) := by decide +kernel
theorem dX5_heldOn_0 : decode cX5_heldOn 0 = .ok (.iconst 0, 1) := by decide +kernel
theorem dX5_heldOn_1 : decode cX5_heldOn 1 = .ok (.istore_n 3, 1) := by decide +kernel
theorem dX5_heldOn_2 : decode cX5_heldOn 2 = .ok (.iconst 0, 1) := by decide +kernel
theorem dX5_heldOn_3 : decode cX5_heldOn 3 = .ok (.istore 4, 2) := by decide +kernel
theorem dX5_heldOn_5 : decode cX5_heldOn 5 = .ok (.iload 4, 2) := by decide +kernel
theorem dX5_heldOn_7 : decode cX5_heldOn 7 = .ok (.aload_n 0, 1) := by decide +kernel
theorem dX5_heldOn_8 : decode cX5_heldOn 8 = .ok (.getfield 21, 3) := by decide +kernel
theorem dX5_heldOn_11 : decode cX5_heldOn 11 = .ok (.getfield 111, 3) := by decide +kernel
theorem dX5_heldOn_14 : decode cX5_heldOn 14 = .ok (.if_icmp .ge 50, 3) := by decide +kernel
theorem dX5_heldOn_17 : decode cX5_heldOn 17 = .ok (.aload_n 0, 1) := by decide +kernel
theorem dX5_heldOn_18 : decode cX5_heldOn 18 = .ok (.getfield 21, 3) := by decide +kernel
theorem dX5_heldOn_21 : decode cX5_heldOn 21 = .ok (.iload 4, 2) := by decide +kernel
theorem dX5_heldOn_23 : decode cX5_heldOn 23 = .ok (.iconst 1, 1) := by decide +kernel
theorem dX5_heldOn_24 : decode cX5_heldOn 24 = .ok (.invokevirtual 117, 3) := by decide +kernel
theorem dX5_heldOn_27 : decode cX5_heldOn 27 = .ok (.iload_n 1, 1) := by decide +kernel
theorem dX5_heldOn_28 : decode cX5_heldOn 28 = .ok (.if_icmp .ne 30, 3) := by decide +kernel
theorem dX5_heldOn_31 : decode cX5_heldOn 31 = .ok (.aload_n 0, 1) := by decide +kernel
theorem dX5_heldOn_32 : decode cX5_heldOn 32 = .ok (.getfield 21, 3) := by decide +kernel
theorem dX5_heldOn_35 : decode cX5_heldOn 35 = .ok (.iload 4, 2) := by decide +kernel
theorem dX5_heldOn_37 : decode cX5_heldOn 37 = .ok (.iconst 3, 1) := by decide +kernel
theorem dX5_heldOn_38 : decode cX5_heldOn 38 = .ok (.invokevirtual 117, 3) := by decide +kernel
theorem dX5_heldOn_41 : decode cX5_heldOn 41 = .ok (.iload_n 2, 1) := by decide +kernel
theorem dX5_heldOn_42 : decode cX5_heldOn 42 = .ok (.if_icmp .lt 16, 3) := by decide +kernel
theorem dX5_heldOn_45 : decode cX5_heldOn 45 = .ok (.iload_n 3, 1) := by decide +kernel
theorem dX5_heldOn_46 : decode cX5_heldOn 46 = .ok (.aload_n 0, 1) := by decide +kernel
theorem dX5_heldOn_47 : decode cX5_heldOn 47 = .ok (.getfield 21, 3) := by decide +kernel
theorem dX5_heldOn_50 : decode cX5_heldOn 50 = .ok (.iload 4, 2) := by decide +kernel
theorem dX5_heldOn_52 : decode cX5_heldOn 52 = .ok (.iconst 2, 1) := by decide +kernel
theorem dX5_heldOn_53 : decode cX5_heldOn 53 = .ok (.invokevirtual 117, 3) := by decide +kernel
theorem dX5_heldOn_56 : decode cX5_heldOn 56 = .ok (.iadd, 1) := by decide +kernel
theorem dX5_heldOn_57 : decode cX5_heldOn 57 = .ok (.istore_n 3, 1) := by decide +kernel
theorem dX5_heldOn_58 : decode cX5_heldOn 58 = .ok (.iinc 4 1, 3) := by decide +kernel
theorem dX5_heldOn_61 : decode cX5_heldOn 61 = .ok (.goto (-56), 3) := by decide +kernel
theorem dX5_heldOn_64 : decode cX5_heldOn 64 = .ok (.iload_n 3, 1) := by decide +kernel
theorem dX5_heldOn_65 : decode cX5_heldOn 65 = .ok (.ireturn, 1) := by decide +kernel
theorem dX5_growUntil_0 : decode cX5_growUntil 0 = .ok (.iconst 0, 1) := by decide +kernel
theorem dX5_growUntil_1 : decode cX5_growUntil 1 = .ok (.istore_n 2, 1) := by decide +kernel
theorem dX5_growUntil_2 : decode cX5_growUntil 2 = .ok (.iload_n 2, 1) := by decide +kernel
theorem dX5_growUntil_3 : decode cX5_growUntil 3 = .ok (.aload_n 0, 1) := by decide +kernel
theorem dX5_growUntil_4 : decode cX5_growUntil 4 = .ok (.getfield 12, 3) := by decide +kernel
theorem dX5_growUntil_7 : decode cX5_growUntil 7 = .ok (.getfield 80, 3) := by decide +kernel
theorem dX5_growUntil_10 : decode cX5_growUntil 10 = .ok (.if_icmp .ge 37, 3) := by decide +kernel
theorem dX5_growUntil_13 : decode cX5_growUntil 13 = .ok (.aload_n 0, 1) := by decide +kernel
theorem dX5_growUntil_14 : decode cX5_growUntil 14 = .ok (.getfield 12, 3) := by decide +kernel
theorem dX5_growUntil_17 : decode cX5_growUntil 17 = .ok (.iload_n 2, 1) := by decide +kernel
theorem dX5_growUntil_18 : decode cX5_growUntil 18 = .ok (.aload_n 0, 1) := by decide +kernel
theorem dX5_growUntil_19 : decode cX5_growUntil 19 = .ok (.aload_n 0, 1) := by decide +kernel
theorem dX5_growUntil_20 : decode cX5_growUntil 20 = .ok (.getfield 12, 3) := by decide +kernel
theorem dX5_growUntil_23 : decode cX5_growUntil 23 = .ok (.iload_n 2, 1) := by decide +kernel
theorem dX5_growUntil_24 : decode cX5_growUntil 24 = .ok (.invokevirtual 87, 3) := by decide +kernel
theorem dX5_growUntil_27 : decode cX5_growUntil 27 = .ok (.invokevirtual 177, 3) := by decide +kernel
theorem dX5_growUntil_30 : decode cX5_growUntil 30 = .ok (.iload_n 1, 1) := by decide +kernel
theorem dX5_growUntil_31 : decode cX5_growUntil 31 = .ok (.aload_n 0, 1) := by decide +kernel
theorem dX5_growUntil_32 : decode cX5_growUntil 32 = .ok (.getfield 35, 3) := by decide +kernel
theorem dX5_growUntil_35 : decode cX5_growUntil 35 = .ok (.isub, 1) := by decide +kernel
theorem dX5_growUntil_36 : decode cX5_growUntil 36 = .ok (.i2l, 1) := by decide +kernel
theorem dX5_growUntil_37 : decode cX5_growUntil 37 = .ok (.lmul, 1) := by decide +kernel
theorem dX5_growUntil_38 : decode cX5_growUntil 38 = .ok (.invokevirtual 187, 3) := by decide +kernel
theorem dX5_growUntil_41 : decode cX5_growUntil 41 = .ok (.iinc 2 1, 3) := by decide +kernel
theorem dX5_growUntil_44 : decode cX5_growUntil 44 = .ok (.goto (-42), 3) := by decide +kernel
theorem dX5_growUntil_47 : decode cX5_growUntil 47 = .ok (.aload_n 0, 1) := by decide +kernel
theorem dX5_growUntil_48 : decode cX5_growUntil 48 = .ok (.iload_n 1, 1) := by decide +kernel
theorem dX5_growUntil_49 : decode cX5_growUntil 49 = .ok (.putfield 35, 3) := by decide +kernel
theorem dX5_growUntil_52 : decode cX5_growUntil 52 = .ok (.return_, 1) := by decide +kernel
theorem dX5_creditAll_0 : decode cX5_creditAll 0 = .ok (.iconst 0, 1) := by decide +kernel
theorem dX5_creditAll_1 : decode cX5_creditAll 1 = .ok (.istore_n 1, 1) := by decide +kernel
theorem dX5_creditAll_2 : decode cX5_creditAll 2 = .ok (.iload_n 1, 1) := by decide +kernel
theorem dX5_creditAll_3 : decode cX5_creditAll 3 = .ok (.aload_n 0, 1) := by decide +kernel
theorem dX5_creditAll_4 : decode cX5_creditAll 4 = .ok (.getfield 12, 3) := by decide +kernel
theorem dX5_creditAll_7 : decode cX5_creditAll 7 = .ok (.getfield 80, 3) := by decide +kernel
theorem dX5_creditAll_10 : decode cX5_creditAll 10 = .ok (.if_icmp .ge 83, 3) := by decide +kernel
theorem dX5_creditAll_13 : decode cX5_creditAll 13 = .ok (.aload_n 0, 1) := by decide +kernel
theorem dX5_creditAll_14 : decode cX5_creditAll 14 = .ok (.aload_n 0, 1) := by decide +kernel
theorem dX5_creditAll_15 : decode cX5_creditAll 15 = .ok (.getfield 12, 3) := by decide +kernel
theorem dX5_creditAll_18 : decode cX5_creditAll 18 = .ok (.iload_n 1, 1) := by decide +kernel
theorem dX5_creditAll_19 : decode cX5_creditAll 19 = .ok (.invokevirtual 87, 3) := by decide +kernel
theorem dX5_creditAll_22 : decode cX5_creditAll 22 = .ok (.aload_n 0, 1) := by decide +kernel
theorem dX5_creditAll_23 : decode cX5_creditAll 23 = .ok (.getfield 12, 3) := by decide +kernel
theorem dX5_creditAll_26 : decode cX5_creditAll 26 = .ok (.iload_n 1, 1) := by decide +kernel
theorem dX5_creditAll_27 : decode cX5_creditAll 27 = .ok (.invokevirtual 163, 3) := by decide +kernel
theorem dX5_creditAll_30 : decode cX5_creditAll 30 = .ok (.invokevirtual 180, 3) := by decide +kernel
theorem dX5_creditAll_33 : decode cX5_creditAll 33 = .ok (.istore_n 2, 1) := by decide +kernel
theorem dX5_creditAll_34 : decode cX5_creditAll 34 = .ok (.iload_n 2, 1) := by decide +kernel
theorem dX5_creditAll_35 : decode cX5_creditAll 35 = .ok (.ifCond .le 52, 3) := by decide +kernel
theorem dX5_creditAll_38 : decode cX5_creditAll 38 = .ok (.aload_n 0, 1) := by decide +kernel
theorem dX5_creditAll_39 : decode cX5_creditAll 39 = .ok (.getfield 12, 3) := by decide +kernel
theorem dX5_creditAll_42 : decode cX5_creditAll 42 = .ok (.iload_n 1, 1) := by decide +kernel
theorem dX5_creditAll_43 : decode cX5_creditAll 43 = .ok (.iload_n 2, 1) := by decide +kernel
theorem dX5_creditAll_44 : decode cX5_creditAll 44 = .ok (.invokevirtual 101, 3) := by decide +kernel
theorem dX5_creditAll_47 : decode cX5_creditAll 47 = .ok (.aload_n 0, 1) := by decide +kernel
theorem dX5_creditAll_48 : decode cX5_creditAll 48 = .ok (.getfield 12, 3) := by decide +kernel
theorem dX5_creditAll_51 : decode cX5_creditAll 51 = .ok (.iload_n 1, 1) := by decide +kernel
theorem dX5_creditAll_52 : decode cX5_creditAll 52 = .ok (.ldc2_w 191, 3) := by decide +kernel
theorem dX5_creditAll_55 : decode cX5_creditAll 55 = .ok (.iload_n 2, 1) := by decide +kernel
theorem dX5_creditAll_56 : decode cX5_creditAll 56 = .ok (.i2l, 1) := by decide +kernel
theorem dX5_creditAll_57 : decode cX5_creditAll 57 = .ok (.lmul, 1) := by decide +kernel
theorem dX5_creditAll_58 : decode cX5_creditAll 58 = .ok (.invokevirtual 187, 3) := by decide +kernel
theorem dX5_creditAll_61 : decode cX5_creditAll 61 = .ok (.aload_n 0, 1) := by decide +kernel
theorem dX5_creditAll_62 : decode cX5_creditAll 62 = .ok (.dup, 1) := by decide +kernel
theorem dX5_creditAll_63 : decode cX5_creditAll 63 = .ok (.getfield 56, 3) := by decide +kernel
theorem dX5_creditAll_66 : decode cX5_creditAll 66 = .ok (.iload_n 2, 1) := by decide +kernel
theorem dX5_creditAll_67 : decode cX5_creditAll 67 = .ok (.i2l, 1) := by decide +kernel
theorem dX5_creditAll_68 : decode cX5_creditAll 68 = .ok (.ladd, 1) := by decide +kernel
theorem dX5_creditAll_69 : decode cX5_creditAll 69 = .ok (.putfield 56, 3) := by decide +kernel
theorem dX5_creditAll_72 : decode cX5_creditAll 72 = .ok (.aload_n 0, 1) := by decide +kernel
theorem dX5_creditAll_73 : decode cX5_creditAll 73 = .ok (.iconst 5, 1) := by decide +kernel
theorem dX5_creditAll_74 : decode cX5_creditAll 74 = .ok (.aload_n 0, 1) := by decide +kernel
theorem dX5_creditAll_75 : decode cX5_creditAll 75 = .ok (.getfield 12, 3) := by decide +kernel
theorem dX5_creditAll_78 : decode cX5_creditAll 78 = .ok (.iload_n 1, 1) := by decide +kernel
theorem dX5_creditAll_79 : decode cX5_creditAll 79 = .ok (.invokevirtual 157, 3) := by decide +kernel
theorem dX5_creditAll_82 : decode cX5_creditAll 82 = .ok (.iconst 0, 1) := by decide +kernel
theorem dX5_creditAll_83 : decode cX5_creditAll 83 = .ok (.iload_n 2, 1) := by decide +kernel
theorem dX5_creditAll_84 : decode cX5_creditAll 84 = .ok (.invokevirtual 104, 3) := by decide +kernel
theorem dX5_creditAll_87 : decode cX5_creditAll 87 = .ok (.iinc 1 1, 3) := by decide +kernel
theorem dX5_creditAll_90 : decode cX5_creditAll 90 = .ok (.goto (-88), 3) := by decide +kernel
theorem dX5_creditAll_93 : decode cX5_creditAll 93 = .ok (.return_, 1) := by decide +kernel
theorem dX5_endHoldsThatAreOver_0 : decode cX5_endHoldsThatAreOver 0 = .ok (.aload_n 0, 1) := by decide +kernel
theorem dX5_endHoldsThatAreOver_1 : decode cX5_endHoldsThatAreOver 1 = .ok (.getfield 21, 3) := by decide +kernel
theorem dX5_endHoldsThatAreOver_4 : decode cX5_endHoldsThatAreOver 4 = .ok (.getfield 111, 3) := by decide +kernel
theorem dX5_endHoldsThatAreOver_7 : decode cX5_endHoldsThatAreOver 7 = .ok (.iconst 1, 1) := by decide +kernel
theorem dX5_endHoldsThatAreOver_8 : decode cX5_endHoldsThatAreOver 8 = .ok (.isub, 1) := by decide +kernel
theorem dX5_endHoldsThatAreOver_9 : decode cX5_endHoldsThatAreOver 9 = .ok (.istore_n 1, 1) := by decide +kernel
theorem dX5_endHoldsThatAreOver_10 : decode cX5_endHoldsThatAreOver 10 = .ok (.iload_n 1, 1) := by decide +kernel
theorem dX5_endHoldsThatAreOver_11 : decode cX5_endHoldsThatAreOver 11 = .ok (.ifCond .lt 33, 3) := by decide +kernel
theorem dX5_endHoldsThatAreOver_14 : decode cX5_endHoldsThatAreOver 14 = .ok (.aload_n 0, 1) := by decide +kernel
theorem dX5_endHoldsThatAreOver_15 : decode cX5_endHoldsThatAreOver 15 = .ok (.getfield 21, 3) := by decide +kernel
theorem dX5_endHoldsThatAreOver_18 : decode cX5_endHoldsThatAreOver 18 = .ok (.iload_n 1, 1) := by decide +kernel
theorem dX5_endHoldsThatAreOver_19 : decode cX5_endHoldsThatAreOver 19 = .ok (.iconst 3, 1) := by decide +kernel
theorem dX5_endHoldsThatAreOver_20 : decode cX5_endHoldsThatAreOver 20 = .ok (.invokevirtual 117, 3) := by decide +kernel
theorem dX5_endHoldsThatAreOver_23 : decode cX5_endHoldsThatAreOver 23 = .ok (.aload_n 0, 1) := by decide +kernel
theorem dX5_endHoldsThatAreOver_24 : decode cX5_endHoldsThatAreOver 24 = .ok (.getfield 35, 3) := by decide +kernel
theorem dX5_endHoldsThatAreOver_27 : decode cX5_endHoldsThatAreOver 27 = .ok (.if_icmp .ge 11, 3) := by decide +kernel
theorem dX5_endHoldsThatAreOver_30 : decode cX5_endHoldsThatAreOver 30 = .ok (.aload_n 0, 1) := by decide +kernel
theorem dX5_endHoldsThatAreOver_31 : decode cX5_endHoldsThatAreOver 31 = .ok (.getfield 21, 3) := by decide +kernel
theorem dX5_endHoldsThatAreOver_34 : decode cX5_endHoldsThatAreOver 34 = .ok (.iload_n 1, 1) := by decide +kernel
theorem dX5_endHoldsThatAreOver_35 : decode cX5_endHoldsThatAreOver 35 = .ok (.invokevirtual 121, 3) := by decide +kernel
theorem dX5_endHoldsThatAreOver_38 : decode cX5_endHoldsThatAreOver 38 = .ok (.iinc 1 (-1), 3) := by decide +kernel
theorem dX5_endHoldsThatAreOver_41 : decode cX5_endHoldsThatAreOver 41 = .ok (.goto (-31), 3) := by decide +kernel
theorem dX5_endHoldsThatAreOver_44 : decode cX5_endHoldsThatAreOver 44 = .ok (.return_, 1) := by decide +kernel
theorem dX5_enter_0 : decode cX5_enter 0 = .ok (.aload_n 0, 1) := by decide +kernel
theorem dX5_enter_1 : decode cX5_enter 1 = .ok (.getfield 31, 3) := by decide +kernel
theorem dX5_enter_4 : decode cX5_enter 4 = .ok (.aload_n 0, 1) := by decide +kernel
theorem dX5_enter_5 : decode cX5_enter 5 = .ok (.getfield 35, 3) := by decide +kernel
theorem dX5_enter_8 : decode cX5_enter 8 = .ok (.iload_n 1, 1) := by decide +kernel
theorem dX5_enter_9 : decode cX5_enter 9 = .ok (.iload_n 2, 1) := by decide +kernel
theorem dX5_enter_10 : decode cX5_enter 10 = .ok (.iload_n 3, 1) := by decide +kernel
theorem dX5_enter_11 : decode cX5_enter 11 = .ok (.iload 4, 2) := by decide +kernel
theorem dX5_enter_13 : decode cX5_enter 13 = .ok (.invokevirtual 193, 3) := by decide +kernel
theorem dX5_enter_16 : decode cX5_enter 16 = .ok (.aload_n 0, 1) := by decide +kernel
theorem dX5_enter_17 : decode cX5_enter 17 = .ok (.getfield 12, 3) := by decide +kernel
theorem dX5_enter_20 : decode cX5_enter 20 = .ok (.aload_n 0, 1) := by decide +kernel
theorem dX5_enter_21 : decode cX5_enter 21 = .ok (.getfield 12, 3) := by decide +kernel
theorem dX5_enter_24 : decode cX5_enter 24 = .ok (.iload_n 2, 1) := by decide +kernel
theorem dX5_enter_25 : decode cX5_enter 25 = .ok (.invokevirtual 76, 3) := by decide +kernel
theorem dX5_enter_28 : decode cX5_enter 28 = .ok (.aload_n 0, 1) := by decide +kernel
theorem dX5_enter_29 : decode cX5_enter 29 = .ok (.getfield 35, 3) := by decide +kernel
theorem dX5_enter_32 : decode cX5_enter 32 = .ok (.invokevirtual 196, 3) := by decide +kernel
theorem dX5_enter_35 : decode cX5_enter 35 = .ok (.aload_n 0, 1) := by decide +kernel
theorem dX5_enter_36 : decode cX5_enter 36 = .ok (.getfield 12, 3) := by decide +kernel
theorem dX5_enter_39 : decode cX5_enter 39 = .ok (.aload_n 0, 1) := by decide +kernel
theorem dX5_enter_40 : decode cX5_enter 40 = .ok (.getfield 12, 3) := by decide +kernel
theorem dX5_enter_43 : decode cX5_enter 43 = .ok (.iload_n 3, 1) := by decide +kernel
theorem dX5_enter_44 : decode cX5_enter 44 = .ok (.invokevirtual 76, 3) := by decide +kernel
theorem dX5_enter_47 : decode cX5_enter 47 = .ok (.aload_n 0, 1) := by decide +kernel
theorem dX5_enter_48 : decode cX5_enter 48 = .ok (.getfield 35, 3) := by decide +kernel
theorem dX5_enter_51 : decode cX5_enter 51 = .ok (.invokevirtual 196, 3) := by decide +kernel
theorem dX5_enter_54 : decode cX5_enter 54 = .ok (.return_, 1) := by decide +kernel
theorem dX6_init_0 : decode cX6_init 0 = .ok (.aload_n 0, 1) := by decide +kernel
theorem dX6_init_1 : decode cX6_init 1 = .ok (.invokespecial 3, 3) := by decide +kernel
theorem dX6_init_4 : decode cX6_init 4 = .ok (.aload_n 0, 1) := by decide +kernel
theorem dX6_init_5 : decode cX6_init 5 = .ok (.iconst 0, 1) := by decide +kernel
theorem dX6_init_6 : decode cX6_init 6 = .ok (.putfield 9, 3) := by decide +kernel
theorem dX6_init_9 : decode cX6_init 9 = .ok (.aload_n 0, 1) := by decide +kernel
theorem dX6_init_10 : decode cX6_init 10 = .ok (.bipush 7, 2) := by decide +kernel
theorem dX6_init_12 : decode cX6_init 12 = .ok (.putfield 15, 3) := by decide +kernel
theorem dX6_init_15 : decode cX6_init 15 = .ok (.aload_n 0, 1) := by decide +kernel
theorem dX6_init_16 : decode cX6_init 16 = .ok (.sipush 168, 3) := by decide +kernel
theorem dX6_init_19 : decode cX6_init 19 = .ok (.newarray .int, 2) := by decide +kernel
theorem dX6_init_21 : decode cX6_init 21 = .ok (.putfield 18, 3) := by decide +kernel
theorem dX6_init_24 : decode cX6_init 24 = .ok (.return_, 1) := by decide +kernel
theorem dX6_copyFrom_0 : decode cX6_copyFrom 0 = .ok (.aload_n 0, 1) := by decide +kernel
theorem dX6_copyFrom_1 : decode cX6_copyFrom 1 = .ok (.aload_n 1, 1) := by decide +kernel
theorem dX6_copyFrom_2 : decode cX6_copyFrom 2 = .ok (.getfield 9, 3) := by decide +kernel
theorem dX6_copyFrom_5 : decode cX6_copyFrom 5 = .ok (.putfield 9, 3) := by decide +kernel
theorem dX6_copyFrom_8 : decode cX6_copyFrom 8 = .ok (.aload_n 0, 1) := by decide +kernel
theorem dX6_copyFrom_9 : decode cX6_copyFrom 9 = .ok (.aload_n 1, 1) := by decide +kernel
theorem dX6_copyFrom_10 : decode cX6_copyFrom 10 = .ok (.getfield 15, 3) := by decide +kernel
theorem dX6_copyFrom_13 : decode cX6_copyFrom 13 = .ok (.putfield 15, 3) := by decide +kernel
theorem dX6_copyFrom_16 : decode cX6_copyFrom 16 = .ok (.aload_n 1, 1) := by decide +kernel
theorem dX6_copyFrom_17 : decode cX6_copyFrom 17 = .ok (.getfield 18, 3) := by decide +kernel
theorem dX6_copyFrom_20 : decode cX6_copyFrom 20 = .ok (.iconst 0, 1) := by decide +kernel
theorem dX6_copyFrom_21 : decode cX6_copyFrom 21 = .ok (.aload_n 0, 1) := by decide +kernel
theorem dX6_copyFrom_22 : decode cX6_copyFrom 22 = .ok (.getfield 18, 3) := by decide +kernel
theorem dX6_copyFrom_25 : decode cX6_copyFrom 25 = .ok (.iconst 0, 1) := by decide +kernel
theorem dX6_copyFrom_26 : decode cX6_copyFrom 26 = .ok (.sipush 168, 3) := by decide +kernel
theorem dX6_copyFrom_29 : decode cX6_copyFrom 29 = .ok (.invokestatic 22, 3) := by decide +kernel
theorem dX6_copyFrom_32 : decode cX6_copyFrom 32 = .ok (.return_, 1) := by decide +kernel
theorem dX6_keeps_0 : decode cX6_keeps 0 = .ok (.iload_n 1, 1) := by decide +kernel
theorem dX6_keeps_1 : decode cX6_keeps 1 = .ok (.iconst 1, 1) := by decide +kernel
theorem dX6_keeps_2 : decode cX6_keeps 2 = .ok (.if_icmp .lt 26, 3) := by decide +kernel
theorem dX6_keeps_5 : decode cX6_keeps 5 = .ok (.iload_n 1, 1) := by decide +kernel
theorem dX6_keeps_6 : decode cX6_keeps 6 = .ok (.aload_n 0, 1) := by decide +kernel
theorem dX6_keeps_7 : decode cX6_keeps 7 = .ok (.getfield 9, 3) := by decide +kernel
theorem dX6_keeps_10 : decode cX6_keeps 10 = .ok (.if_icmp .gt 18, 3) := by decide +kernel
theorem dX6_keeps_13 : decode cX6_keeps 13 = .ok (.iload_n 1, 1) := by decide +kernel
theorem dX6_keeps_14 : decode cX6_keeps 14 = .ok (.aload_n 0, 1) := by decide +kernel
theorem dX6_keeps_15 : decode cX6_keeps 15 = .ok (.getfield 9, 3) := by decide +kernel
theorem dX6_keeps_18 : decode cX6_keeps 18 = .ok (.bipush 24, 2) := by decide +kernel
theorem dX6_keeps_20 : decode cX6_keeps 20 = .ok (.isub, 1) := by decide +kernel
theorem dX6_keeps_21 : decode cX6_keeps 21 = .ok (.if_icmp .le 7, 3) := by decide +kernel
theorem dX6_keeps_24 : decode cX6_keeps 24 = .ok (.iconst 1, 1) := by decide +kernel
theorem dX6_keeps_25 : decode cX6_keeps 25 = .ok (.goto 4, 3) := by decide +kernel
theorem dX6_keeps_28 : decode cX6_keeps 28 = .ok (.iconst 0, 1) := by decide +kernel
theorem dX6_keeps_29 : decode cX6_keeps 29 = .ok (.ireturn, 1) := by decide +kernel
theorem dX6_get_0 : decode cX6_get 0 = .ok (.iload_n 1, 1) := by decide +kernel
theorem dX6_get_1 : decode cX6_get 1 = .ok (.iload_n 2, 1) := by decide +kernel
theorem dX6_get_2 : decode cX6_get 2 = .ok (.invokestatic 28, 3) := by decide +kernel
theorem dX6_get_5 : decode cX6_get 5 = .ok (.istore_n 3, 1) := by decide +kernel
theorem dX6_get_6 : decode cX6_get 6 = .ok (.aload_n 0, 1) := by decide +kernel
theorem dX6_get_7 : decode cX6_get 7 = .ok (.iload_n 1, 1) := by decide +kernel
theorem dX6_get_8 : decode cX6_get 8 = .ok (.invokevirtual 32, 3) := by decide +kernel
theorem dX6_get_11 : decode cX6_get 11 = .ok (.ifCond .eq 25, 3) := by decide +kernel
theorem dX6_get_14 : decode cX6_get 14 = .ok (.iload_n 3, 1) := by decide +kernel
theorem dX6_get_15 : decode cX6_get 15 = .ok (.ifCond .lt 21, 3) := by decide +kernel
theorem dX6_get_18 : decode cX6_get 18 = .ok (.iload_n 3, 1) := by decide +kernel
theorem dX6_get_19 : decode cX6_get 19 = .ok (.aload_n 0, 1) := by decide +kernel
theorem dX6_get_20 : decode cX6_get 20 = .ok (.getfield 18, 3) := by decide +kernel
theorem dX6_get_23 : decode cX6_get 23 = .ok (.arraylength, 1) := by decide +kernel
theorem dX6_get_24 : decode cX6_get 24 = .ok (.if_icmp .ge 12, 3) := by decide +kernel
theorem dX6_get_27 : decode cX6_get 27 = .ok (.aload_n 0, 1) := by decide +kernel
theorem dX6_get_28 : decode cX6_get 28 = .ok (.getfield 18, 3) := by decide +kernel
theorem dX6_get_31 : decode cX6_get 31 = .ok (.iload_n 3, 1) := by decide +kernel
theorem dX6_get_32 : decode cX6_get 32 = .ok (.iaload, 1) := by decide +kernel
theorem dX6_get_33 : decode cX6_get 33 = .ok (.goto 4, 3) := by decide +kernel
theorem dX6_get_36 : decode cX6_get 36 = .ok (.iconst 0, 1) := by decide +kernel
theorem dX6_get_37 : decode cX6_get 37 = .ok (.ireturn, 1) := by decide +kernel
theorem dX6_markReversed_0 : decode cX6_markReversed 0 = .ok (.aload_n 0, 1) := by decide +kernel
theorem dX6_markReversed_1 : decode cX6_markReversed 1 = .ok (.iload_n 1, 1) := by decide +kernel
theorem dX6_markReversed_2 : decode cX6_markReversed 2 = .ok (.invokevirtual 32, 3) := by decide +kernel
theorem dX6_markReversed_5 : decode cX6_markReversed 5 = .ok (.ifCond .eq 11, 3) := by decide +kernel
theorem dX6_markReversed_8 : decode cX6_markReversed 8 = .ok (.aload_n 0, 1) := by decide +kernel
theorem dX6_markReversed_9 : decode cX6_markReversed 9 = .ok (.iload_n 1, 1) := by decide +kernel
theorem dX6_markReversed_10 : decode cX6_markReversed 10 = .ok (.bipush 6, 2) := by decide +kernel
theorem dX6_markReversed_12 : decode cX6_markReversed 12 = .ok (.iconst 1, 1) := by decide +kernel
theorem dX6_markReversed_13 : decode cX6_markReversed 13 = .ok (.invokevirtual 36, 3) := by decide +kernel
theorem dX6_markReversed_16 : decode cX6_markReversed 16 = .ok (.return_, 1) := by decide +kernel
theorem dX6_append_0 : decode cX6_append 0 = .ok (.aload_n 0, 1) := by decide +kernel
theorem dX6_append_1 : decode cX6_append 1 = .ok (.getfield 15, 3) := by decide +kernel
theorem dX6_append_4 : decode cX6_append 4 = .ok (.i2l, 1) := by decide +kernel
theorem dX6_append_5 : decode cX6_append 5 = .ok (.ldc2_w 40, 3) := by decide +kernel
theorem dX6_append_8 : decode cX6_append 8 = .ok (.lmul, 1) := by decide +kernel
theorem dX6_append_9 : decode cX6_append 9 = .ok (.iload_n 1, 1) := by decide +kernel
theorem dX6_append_10 : decode cX6_append 10 = .ok (.i2l, 1) := by decide +kernel
theorem dX6_append_11 : decode cX6_append 11 = .ok (.ldc2_w 42, 3) := by decide +kernel
theorem dX6_append_14 : decode cX6_append 14 = .ok (.lmul, 1) := by decide +kernel
theorem dX6_append_15 : decode cX6_append 15 = .ok (.ladd, 1) := by decide +kernel
theorem dX6_append_16 : decode cX6_append 16 = .ok (.iload_n 2, 1) := by decide +kernel
theorem dX6_append_17 : decode cX6_append 17 = .ok (.i2l, 1) := by decide +kernel
theorem dX6_append_18 : decode cX6_append 18 = .ok (.ldc2_w 44, 3) := by decide +kernel
theorem dX6_append_21 : decode cX6_append 21 = .ok (.lmul, 1) := by decide +kernel
theorem dX6_append_22 : decode cX6_append 22 = .ok (.ladd, 1) := by decide +kernel
theorem dX6_append_23 : decode cX6_append 23 = .ok (.iload_n 3, 1) := by decide +kernel
theorem dX6_append_24 : decode cX6_append 24 = .ok (.i2l, 1) := by decide +kernel
theorem dX6_append_25 : decode cX6_append 25 = .ok (.ldc2_w 46, 3) := by decide +kernel
theorem dX6_append_28 : decode cX6_append 28 = .ok (.lmul, 1) := by decide +kernel
theorem dX6_append_29 : decode cX6_append 29 = .ok (.ladd, 1) := by decide +kernel
theorem dX6_append_30 : decode cX6_append 30 = .ok (.iload 4, 2) := by decide +kernel
theorem dX6_append_32 : decode cX6_append 32 = .ok (.i2l, 1) := by decide +kernel
theorem dX6_append_33 : decode cX6_append 33 = .ok (.ldc2_w 48, 3) := by decide +kernel
theorem dX6_append_36 : decode cX6_append 36 = .ok (.lmul, 1) := by decide +kernel
theorem dX6_append_37 : decode cX6_append 37 = .ok (.ladd, 1) := by decide +kernel
theorem dX6_append_38 : decode cX6_append 38 = .ok (.iload 5, 2) := by decide +kernel
theorem dX6_append_40 : decode cX6_append 40 = .ok (.i2l, 1) := by decide +kernel
theorem dX6_append_41 : decode cX6_append 41 = .ok (.ladd, 1) := by decide +kernel
theorem dX6_append_42 : decode cX6_append 42 = .ok (.ldc2_w 50, 3) := by decide +kernel
theorem dX6_append_45 : decode cX6_append 45 = .ok (.lrem, 1) := by decide +kernel
theorem dX6_append_46 : decode cX6_append 46 = .ok (.lstore 6, 2) := by decide +kernel
theorem dX6_append_48 : decode cX6_append 48 = .ok (.aload_n 0, 1) := by decide +kernel
theorem dX6_append_49 : decode cX6_append 49 = .ok (.lload 6, 2) := by decide +kernel
theorem dX6_append_51 : decode cX6_append 51 = .ok (.l2i, 1) := by decide +kernel
theorem dX6_append_52 : decode cX6_append 52 = .ok (.putfield 15, 3) := by decide +kernel
theorem dX6_append_55 : decode cX6_append 55 = .ok (.aload_n 0, 1) := by decide +kernel
theorem dX6_append_56 : decode cX6_append 56 = .ok (.dup, 1) := by decide +kernel
theorem dX6_append_57 : decode cX6_append 57 = .ok (.getfield 9, 3) := by decide +kernel
theorem dX6_append_60 : decode cX6_append 60 = .ok (.iconst 1, 1) := by decide +kernel
theorem dX6_append_61 : decode cX6_append 61 = .ok (.iadd, 1) := by decide +kernel
theorem dX6_append_62 : decode cX6_append 62 = .ok (.putfield 9, 3) := by decide +kernel
theorem dX6_append_65 : decode cX6_append 65 = .ok (.aload_n 0, 1) := by decide +kernel
theorem dX6_append_66 : decode cX6_append 66 = .ok (.aload_n 0, 1) := by decide +kernel
theorem dX6_append_67 : decode cX6_append 67 = .ok (.getfield 9, 3) := by decide +kernel
theorem dX6_append_70 : decode cX6_append 70 = .ok (.iconst 0, 1) := by decide +kernel
theorem dX6_append_71 : decode cX6_append 71 = .ok (.iload_n 1, 1) := by decide +kernel
theorem dX6_append_72 : decode cX6_append 72 = .ok (.invokevirtual 36, 3) := by decide +kernel
theorem dX6_append_75 : decode cX6_append 75 = .ok (.aload_n 0, 1) := by decide +kernel
theorem dX6_append_76 : decode cX6_append 76 = .ok (.aload_n 0, 1) := by decide +kernel
theorem dX6_append_77 : decode cX6_append 77 = .ok (.getfield 9, 3) := by decide +kernel
theorem dX6_append_80 : decode cX6_append 80 = .ok (.iconst 1, 1) := by decide +kernel
theorem dX6_append_81 : decode cX6_append 81 = .ok (.iload_n 2, 1) := by decide +kernel
theorem dX6_append_82 : decode cX6_append 82 = .ok (.invokevirtual 36, 3) := by decide +kernel
theorem dX6_append_85 : decode cX6_append 85 = .ok (.aload_n 0, 1) := by decide +kernel
theorem dX6_append_86 : decode cX6_append 86 = .ok (.aload_n 0, 1) := by decide +kernel
theorem dX6_append_87 : decode cX6_append 87 = .ok (.getfield 9, 3) := by decide +kernel
theorem dX6_append_90 : decode cX6_append 90 = .ok (.iconst 2, 1) := by decide +kernel
theorem dX6_append_91 : decode cX6_append 91 = .ok (.iload_n 3, 1) := by decide +kernel
theorem dX6_append_92 : decode cX6_append 92 = .ok (.invokevirtual 36, 3) := by decide +kernel
theorem dX6_append_95 : decode cX6_append 95 = .ok (.aload_n 0, 1) := by decide +kernel
theorem dX6_append_96 : decode cX6_append 96 = .ok (.aload_n 0, 1) := by decide +kernel
theorem dX6_append_97 : decode cX6_append 97 = .ok (.getfield 9, 3) := by decide +kernel
theorem dX6_append_100 : decode cX6_append 100 = .ok (.iconst 3, 1) := by decide +kernel
theorem dX6_append_101 : decode cX6_append 101 = .ok (.iload 4, 2) := by decide +kernel
theorem dX6_append_103 : decode cX6_append 103 = .ok (.invokevirtual 36, 3) := by decide +kernel
theorem dX6_append_106 : decode cX6_append 106 = .ok (.aload_n 0, 1) := by decide +kernel
theorem dX6_append_107 : decode cX6_append 107 = .ok (.aload_n 0, 1) := by decide +kernel
theorem dX6_append_108 : decode cX6_append 108 = .ok (.getfield 9, 3) := by decide +kernel
theorem dX6_append_111 : decode cX6_append 111 = .ok (.iconst 4, 1) := by decide +kernel
theorem dX6_append_112 : decode cX6_append 112 = .ok (.iload 5, 2) := by decide +kernel
theorem dX6_append_114 : decode cX6_append 114 = .ok (.invokevirtual 36, 3) := by decide +kernel
theorem dX6_append_117 : decode cX6_append 117 = .ok (.aload_n 0, 1) := by decide +kernel
theorem dX6_append_118 : decode cX6_append 118 = .ok (.aload_n 0, 1) := by decide +kernel
theorem dX6_append_119 : decode cX6_append 119 = .ok (.getfield 9, 3) := by decide +kernel
theorem dX6_append_122 : decode cX6_append 122 = .ok (.iconst 5, 1) := by decide +kernel
theorem dX6_append_123 : decode cX6_append 123 = .ok (.aload_n 0, 1) := by decide +kernel
theorem dX6_append_124 : decode cX6_append 124 = .ok (.getfield 15, 3) := by decide +kernel
theorem dX6_append_127 : decode cX6_append 127 = .ok (.invokevirtual 36, 3) := by decide +kernel
theorem dX6_append_130 : decode cX6_append 130 = .ok (.aload_n 0, 1) := by decide +kernel
theorem dX6_append_131 : decode cX6_append 131 = .ok (.aload_n 0, 1) := by decide +kernel
theorem dX6_append_132 : decode cX6_append 132 = .ok (.getfield 9, 3) := by decide +kernel
theorem dX6_append_135 : decode cX6_append 135 = .ok (.bipush 6, 2) := by decide +kernel
theorem dX6_append_137 : decode cX6_append 137 = .ok (.iconst 0, 1) := by decide +kernel
theorem dX6_append_138 : decode cX6_append 138 = .ok (.invokevirtual 36, 3) := by decide +kernel
theorem dX6_append_141 : decode cX6_append 141 = .ok (.return_, 1) := by decide +kernel
theorem dX6_set_0 : decode cX6_set 0 = .ok (.iload_n 1, 1) := by decide +kernel
theorem dX6_set_1 : decode cX6_set 1 = .ok (.iload_n 2, 1) := by decide +kernel
theorem dX6_set_2 : decode cX6_set 2 = .ok (.invokestatic 28, 3) := by decide +kernel
theorem dX6_set_5 : decode cX6_set 5 = .ok (.istore 4, 2) := by decide +kernel
theorem dX6_set_7 : decode cX6_set 7 = .ok (.iload 4, 2) := by decide +kernel
theorem dX6_set_9 : decode cX6_set 9 = .ok (.ifCond .lt 21, 3) := by decide +kernel
theorem dX6_set_12 : decode cX6_set 12 = .ok (.iload 4, 2) := by decide +kernel
theorem dX6_set_14 : decode cX6_set 14 = .ok (.aload_n 0, 1) := by decide +kernel
theorem dX6_set_15 : decode cX6_set 15 = .ok (.getfield 18, 3) := by decide +kernel
theorem dX6_set_18 : decode cX6_set 18 = .ok (.arraylength, 1) := by decide +kernel
theorem dX6_set_19 : decode cX6_set 19 = .ok (.if_icmp .ge 11, 3) := by decide +kernel
theorem dX6_set_22 : decode cX6_set 22 = .ok (.aload_n 0, 1) := by decide +kernel
theorem dX6_set_23 : decode cX6_set 23 = .ok (.getfield 18, 3) := by decide +kernel
theorem dX6_set_26 : decode cX6_set 26 = .ok (.iload 4, 2) := by decide +kernel
theorem dX6_set_28 : decode cX6_set 28 = .ok (.iload_n 3, 1) := by decide +kernel
theorem dX6_set_29 : decode cX6_set 29 = .ok (.iastore, 1) := by decide +kernel
theorem dX6_set_30 : decode cX6_set 30 = .ok (.return_, 1) := by decide +kernel
theorem dX6_cellOf_0 : decode cX6_cellOf 0 = .ok (.iload_n 0, 1) := by decide +kernel
theorem dX6_cellOf_1 : decode cX6_cellOf 1 = .ok (.bipush 24, 2) := by decide +kernel
theorem dX6_cellOf_3 : decode cX6_cellOf 3 = .ok (.irem, 1) := by decide +kernel
theorem dX6_cellOf_4 : decode cX6_cellOf 4 = .ok (.bipush 7, 2) := by decide +kernel
theorem dX6_cellOf_6 : decode cX6_cellOf 6 = .ok (.imul, 1) := by decide +kernel
theorem dX6_cellOf_7 : decode cX6_cellOf 7 = .ok (.iload_n 1, 1) := by decide +kernel
theorem dX6_cellOf_8 : decode cX6_cellOf 8 = .ok (.iadd, 1) := by decide +kernel
theorem dX6_cellOf_9 : decode cX6_cellOf 9 = .ok (.ireturn, 1) := by decide +kernel
theorem dX7_init_0 : decode cX7_init 0 = .ok (.aload_n 0, 1) := by decide +kernel
theorem dX7_init_1 : decode cX7_init 1 = .ok (.invokespecial 1, 3) := by decide +kernel
theorem dX7_init_4 : decode cX7_init 4 = .ok (.aload_n 0, 1) := by decide +kernel
theorem dX7_init_5 : decode cX7_init 5 = .ok (.new 7, 3) := by decide +kernel
theorem dX7_init_8 : decode cX7_init 8 = .ok (.dup, 1) := by decide +kernel
theorem dX7_init_9 : decode cX7_init 9 = .ok (.invokespecial 9, 3) := by decide +kernel
theorem dX7_init_12 : decode cX7_init 12 = .ok (.putfield 10, 3) := by decide +kernel
theorem dX7_init_15 : decode cX7_init 15 = .ok (.aload_n 0, 1) := by decide +kernel
theorem dX7_init_16 : decode cX7_init 16 = .ok (.new 16, 3) := by decide +kernel
theorem dX7_init_19 : decode cX7_init 19 = .ok (.dup, 1) := by decide +kernel
theorem dX7_init_20 : decode cX7_init 20 = .ok (.invokespecial 18, 3) := by decide +kernel
theorem dX7_init_23 : decode cX7_init 23 = .ok (.putfield 19, 3) := by decide +kernel
theorem dX7_init_26 : decode cX7_init 26 = .ok (.aload_n 0, 1) := by decide +kernel
theorem dX7_init_27 : decode cX7_init 27 = .ok (.new 23, 3) := by decide +kernel
theorem dX7_init_30 : decode cX7_init 30 = .ok (.dup, 1) := by decide +kernel
theorem dX7_init_31 : decode cX7_init 31 = .ok (.invokespecial 25, 3) := by decide +kernel
theorem dX7_init_34 : decode cX7_init 34 = .ok (.putfield 26, 3) := by decide +kernel
theorem dX7_init_37 : decode cX7_init 37 = .ok (.aload_n 0, 1) := by decide +kernel
theorem dX7_init_38 : decode cX7_init 38 = .ok (.new 30, 3) := by decide +kernel
theorem dX7_init_41 : decode cX7_init 41 = .ok (.dup, 1) := by decide +kernel
theorem dX7_init_42 : decode cX7_init 42 = .ok (.invokespecial 32, 3) := by decide +kernel
theorem dX7_init_45 : decode cX7_init 45 = .ok (.putfield 33, 3) := by decide +kernel
theorem dX7_init_48 : decode cX7_init 48 = .ok (.return_, 1) := by decide +kernel
theorem dX7_setRates_0 : decode cX7_setRates 0 = .ok (.aload_n 0, 1) := by decide +kernel
theorem dX7_setRates_1 : decode cX7_setRates 1 = .ok (.getfield 19, 3) := by decide +kernel
theorem dX7_setRates_4 : decode cX7_setRates 4 = .ok (.aload_n 0, 1) := by decide +kernel
theorem dX7_setRates_5 : decode cX7_setRates 5 = .ok (.getfield 10, 3) := by decide +kernel
theorem dX7_setRates_8 : decode cX7_setRates 8 = .ok (.invokevirtual 37, 3) := by decide +kernel
theorem dX7_setRates_11 : decode cX7_setRates 11 = .ok (.aload_n 0, 1) := by decide +kernel
theorem dX7_setRates_12 : decode cX7_setRates 12 = .ok (.aload_n 0, 1) := by decide +kernel
theorem dX7_setRates_13 : decode cX7_setRates 13 = .ok (.getfield 10, 3) := by decide +kernel
theorem dX7_setRates_16 : decode cX7_setRates 16 = .ok (.iload_n 1, 1) := by decide +kernel
theorem dX7_setRates_17 : decode cX7_setRates 17 = .ok (.iload_n 2, 1) := by decide +kernel
theorem dX7_setRates_18 : decode cX7_setRates 18 = .ok (.iload_n 3, 1) := by decide +kernel
theorem dX7_setRates_19 : decode cX7_setRates 19 = .ok (.invokevirtual 41, 3) := by decide +kernel
theorem dX7_setRates_22 : decode cX7_setRates 22 = .ok (.invokevirtual 45, 3) := by decide +kernel
theorem dX7_setRates_25 : decode cX7_setRates 25 = .ok (.ireturn, 1) := by decide +kernel
theorem dX7_setThreshold_0 : decode cX7_setThreshold 0 = .ok (.aload_n 0, 1) := by decide +kernel
theorem dX7_setThreshold_1 : decode cX7_setThreshold 1 = .ok (.getfield 19, 3) := by decide +kernel
theorem dX7_setThreshold_4 : decode cX7_setThreshold 4 = .ok (.aload_n 0, 1) := by decide +kernel
theorem dX7_setThreshold_5 : decode cX7_setThreshold 5 = .ok (.getfield 10, 3) := by decide +kernel
theorem dX7_setThreshold_8 : decode cX7_setThreshold 8 = .ok (.invokevirtual 37, 3) := by decide +kernel
theorem dX7_setThreshold_11 : decode cX7_setThreshold 11 = .ok (.aload_n 0, 1) := by decide +kernel
theorem dX7_setThreshold_12 : decode cX7_setThreshold 12 = .ok (.aload_n 0, 1) := by decide +kernel
theorem dX7_setThreshold_13 : decode cX7_setThreshold 13 = .ok (.getfield 10, 3) := by decide +kernel
theorem dX7_setThreshold_16 : decode cX7_setThreshold 16 = .ok (.iload_n 1, 1) := by decide +kernel
theorem dX7_setThreshold_17 : decode cX7_setThreshold 17 = .ok (.invokevirtual 49, 3) := by decide +kernel
theorem dX7_setThreshold_20 : decode cX7_setThreshold 20 = .ok (.invokevirtual 45, 3) := by decide +kernel
theorem dX7_setThreshold_23 : decode cX7_setThreshold 23 = .ok (.ireturn, 1) := by decide +kernel
theorem dX7_open_0 : decode cX7_open 0 = .ok (.aload_n 0, 1) := by decide +kernel
theorem dX7_open_1 : decode cX7_open 1 = .ok (.getfield 19, 3) := by decide +kernel
theorem dX7_open_4 : decode cX7_open 4 = .ok (.aload_n 0, 1) := by decide +kernel
theorem dX7_open_5 : decode cX7_open 5 = .ok (.getfield 10, 3) := by decide +kernel
theorem dX7_open_8 : decode cX7_open 8 = .ok (.invokevirtual 37, 3) := by decide +kernel
theorem dX7_open_11 : decode cX7_open 11 = .ok (.aload_n 0, 1) := by decide +kernel
theorem dX7_open_12 : decode cX7_open 12 = .ok (.aload_n 0, 1) := by decide +kernel
theorem dX7_open_13 : decode cX7_open 13 = .ok (.getfield 10, 3) := by decide +kernel
theorem dX7_open_16 : decode cX7_open 16 = .ok (.iload_n 1, 1) := by decide +kernel
theorem dX7_open_17 : decode cX7_open 17 = .ok (.invokevirtual 52, 3) := by decide +kernel
theorem dX7_open_20 : decode cX7_open 20 = .ok (.invokevirtual 45, 3) := by decide +kernel
theorem dX7_open_23 : decode cX7_open 23 = .ok (.ireturn, 1) := by decide +kernel
theorem dX7_close_0 : decode cX7_close 0 = .ok (.aload_n 0, 1) := by decide +kernel
theorem dX7_close_1 : decode cX7_close 1 = .ok (.getfield 19, 3) := by decide +kernel
theorem dX7_close_4 : decode cX7_close 4 = .ok (.aload_n 0, 1) := by decide +kernel
theorem dX7_close_5 : decode cX7_close 5 = .ok (.getfield 10, 3) := by decide +kernel
theorem dX7_close_8 : decode cX7_close 8 = .ok (.invokevirtual 37, 3) := by decide +kernel
theorem dX7_close_11 : decode cX7_close 11 = .ok (.aload_n 0, 1) := by decide +kernel
theorem dX7_close_12 : decode cX7_close 12 = .ok (.aload_n 0, 1) := by decide +kernel
theorem dX7_close_13 : decode cX7_close 13 = .ok (.getfield 10, 3) := by decide +kernel
theorem dX7_close_16 : decode cX7_close 16 = .ok (.iload_n 1, 1) := by decide +kernel
theorem dX7_close_17 : decode cX7_close 17 = .ok (.invokevirtual 55, 3) := by decide +kernel
theorem dX7_close_20 : decode cX7_close 20 = .ok (.invokevirtual 45, 3) := by decide +kernel
theorem dX7_close_23 : decode cX7_close 23 = .ok (.ireturn, 1) := by decide +kernel
theorem dX7_receive_0 : decode cX7_receive 0 = .ok (.aload_n 0, 1) := by decide +kernel
theorem dX7_receive_1 : decode cX7_receive 1 = .ok (.getfield 19, 3) := by decide +kernel
theorem dX7_receive_4 : decode cX7_receive 4 = .ok (.aload_n 0, 1) := by decide +kernel
theorem dX7_receive_5 : decode cX7_receive 5 = .ok (.getfield 10, 3) := by decide +kernel
theorem dX7_receive_8 : decode cX7_receive 8 = .ok (.invokevirtual 37, 3) := by decide +kernel
theorem dX7_receive_11 : decode cX7_receive 11 = .ok (.aload_n 0, 1) := by decide +kernel
theorem dX7_receive_12 : decode cX7_receive 12 = .ok (.aload_n 0, 1) := by decide +kernel
theorem dX7_receive_13 : decode cX7_receive 13 = .ok (.getfield 10, 3) := by decide +kernel
theorem dX7_receive_16 : decode cX7_receive 16 = .ok (.iload_n 1, 1) := by decide +kernel
theorem dX7_receive_17 : decode cX7_receive 17 = .ok (.iload_n 2, 1) := by decide +kernel
theorem dX7_receive_18 : decode cX7_receive 18 = .ok (.invokevirtual 58, 3) := by decide +kernel
theorem dX7_receive_21 : decode cX7_receive 21 = .ok (.invokevirtual 45, 3) := by decide +kernel
theorem dX7_receive_24 : decode cX7_receive 24 = .ok (.ireturn, 1) := by decide +kernel
theorem dX7_pay_0 : decode cX7_pay 0 = .ok (.aload_n 0, 1) := by decide +kernel
theorem dX7_pay_1 : decode cX7_pay 1 = .ok (.getfield 19, 3) := by decide +kernel
theorem dX7_pay_4 : decode cX7_pay 4 = .ok (.aload_n 0, 1) := by decide +kernel
theorem dX7_pay_5 : decode cX7_pay 5 = .ok (.getfield 10, 3) := by decide +kernel
theorem dX7_pay_8 : decode cX7_pay 8 = .ok (.invokevirtual 37, 3) := by decide +kernel
theorem dX7_pay_11 : decode cX7_pay 11 = .ok (.aload_n 0, 1) := by decide +kernel
theorem dX7_pay_12 : decode cX7_pay 12 = .ok (.aload_n 0, 1) := by decide +kernel
theorem dX7_pay_13 : decode cX7_pay 13 = .ok (.getfield 10, 3) := by decide +kernel
theorem dX7_pay_16 : decode cX7_pay 16 = .ok (.iload_n 1, 1) := by decide +kernel
theorem dX7_pay_17 : decode cX7_pay 17 = .ok (.iload_n 2, 1) := by decide +kernel
theorem dX7_pay_18 : decode cX7_pay 18 = .ok (.invokevirtual 62, 3) := by decide +kernel
theorem dX7_pay_21 : decode cX7_pay 21 = .ok (.invokevirtual 45, 3) := by decide +kernel
theorem dX7_pay_24 : decode cX7_pay 24 = .ok (.ireturn, 1) := by decide +kernel
theorem dX7_transfer_0 : decode cX7_transfer 0 = .ok (.aload_n 0, 1) := by decide +kernel
theorem dX7_transfer_1 : decode cX7_transfer 1 = .ok (.getfield 19, 3) := by decide +kernel
theorem dX7_transfer_4 : decode cX7_transfer 4 = .ok (.aload_n 0, 1) := by decide +kernel
theorem dX7_transfer_5 : decode cX7_transfer 5 = .ok (.getfield 10, 3) := by decide +kernel
theorem dX7_transfer_8 : decode cX7_transfer 8 = .ok (.invokevirtual 37, 3) := by decide +kernel
theorem dX7_transfer_11 : decode cX7_transfer 11 = .ok (.aload_n 0, 1) := by decide +kernel
theorem dX7_transfer_12 : decode cX7_transfer 12 = .ok (.aload_n 0, 1) := by decide +kernel
theorem dX7_transfer_13 : decode cX7_transfer 13 = .ok (.getfield 10, 3) := by decide +kernel
theorem dX7_transfer_16 : decode cX7_transfer 16 = .ok (.iload_n 1, 1) := by decide +kernel
theorem dX7_transfer_17 : decode cX7_transfer 17 = .ok (.iload_n 2, 1) := by decide +kernel
theorem dX7_transfer_18 : decode cX7_transfer 18 = .ok (.iload_n 3, 1) := by decide +kernel
theorem dX7_transfer_19 : decode cX7_transfer 19 = .ok (.invokevirtual 65, 3) := by decide +kernel
theorem dX7_transfer_22 : decode cX7_transfer 22 = .ok (.invokevirtual 45, 3) := by decide +kernel
theorem dX7_transfer_25 : decode cX7_transfer 25 = .ok (.ireturn, 1) := by decide +kernel
theorem dX7_hold_0 : decode cX7_hold 0 = .ok (.aload_n 0, 1) := by decide +kernel
theorem dX7_hold_1 : decode cX7_hold 1 = .ok (.getfield 19, 3) := by decide +kernel
theorem dX7_hold_4 : decode cX7_hold 4 = .ok (.aload_n 0, 1) := by decide +kernel
theorem dX7_hold_5 : decode cX7_hold 5 = .ok (.getfield 10, 3) := by decide +kernel
theorem dX7_hold_8 : decode cX7_hold 8 = .ok (.invokevirtual 37, 3) := by decide +kernel
theorem dX7_hold_11 : decode cX7_hold 11 = .ok (.aload_n 0, 1) := by decide +kernel
theorem dX7_hold_12 : decode cX7_hold 12 = .ok (.aload_n 0, 1) := by decide +kernel
theorem dX7_hold_13 : decode cX7_hold 13 = .ok (.getfield 10, 3) := by decide +kernel
theorem dX7_hold_16 : decode cX7_hold 16 = .ok (.iload_n 1, 1) := by decide +kernel
theorem dX7_hold_17 : decode cX7_hold 17 = .ok (.iload_n 2, 1) := by decide +kernel
theorem dX7_hold_18 : decode cX7_hold 18 = .ok (.iload_n 3, 1) := by decide +kernel
theorem dX7_hold_19 : decode cX7_hold 19 = .ok (.invokevirtual 68, 3) := by decide +kernel
theorem dX7_hold_22 : decode cX7_hold 22 = .ok (.invokevirtual 45, 3) := by decide +kernel
theorem dX7_hold_25 : decode cX7_hold 25 = .ok (.ireturn, 1) := by decide +kernel
theorem dX7_release_0 : decode cX7_release 0 = .ok (.aload_n 0, 1) := by decide +kernel
theorem dX7_release_1 : decode cX7_release 1 = .ok (.getfield 19, 3) := by decide +kernel
theorem dX7_release_4 : decode cX7_release 4 = .ok (.aload_n 0, 1) := by decide +kernel
theorem dX7_release_5 : decode cX7_release 5 = .ok (.getfield 10, 3) := by decide +kernel
theorem dX7_release_8 : decode cX7_release 8 = .ok (.invokevirtual 37, 3) := by decide +kernel
theorem dX7_release_11 : decode cX7_release 11 = .ok (.aload_n 0, 1) := by decide +kernel
theorem dX7_release_12 : decode cX7_release 12 = .ok (.aload_n 0, 1) := by decide +kernel
theorem dX7_release_13 : decode cX7_release 13 = .ok (.getfield 10, 3) := by decide +kernel
theorem dX7_release_16 : decode cX7_release 16 = .ok (.iload_n 1, 1) := by decide +kernel
theorem dX7_release_17 : decode cX7_release 17 = .ok (.invokevirtual 71, 3) := by decide +kernel
theorem dX7_release_20 : decode cX7_release 20 = .ok (.invokevirtual 45, 3) := by decide +kernel
theorem dX7_release_23 : decode cX7_release 23 = .ok (.ireturn, 1) := by decide +kernel
theorem dX7_bill_0 : decode cX7_bill 0 = .ok (.aload_n 0, 1) := by decide +kernel
theorem dX7_bill_1 : decode cX7_bill 1 = .ok (.getfield 19, 3) := by decide +kernel
theorem dX7_bill_4 : decode cX7_bill 4 = .ok (.aload_n 0, 1) := by decide +kernel
theorem dX7_bill_5 : decode cX7_bill 5 = .ok (.getfield 10, 3) := by decide +kernel
theorem dX7_bill_8 : decode cX7_bill 8 = .ok (.invokevirtual 37, 3) := by decide +kernel
theorem dX7_bill_11 : decode cX7_bill 11 = .ok (.aload_n 0, 1) := by decide +kernel
theorem dX7_bill_12 : decode cX7_bill 12 = .ok (.aload_n 0, 1) := by decide +kernel
theorem dX7_bill_13 : decode cX7_bill 13 = .ok (.getfield 10, 3) := by decide +kernel
theorem dX7_bill_16 : decode cX7_bill 16 = .ok (.iload_n 1, 1) := by decide +kernel
theorem dX7_bill_17 : decode cX7_bill 17 = .ok (.iload_n 2, 1) := by decide +kernel
theorem dX7_bill_18 : decode cX7_bill 18 = .ok (.invokevirtual 74, 3) := by decide +kernel
theorem dX7_bill_21 : decode cX7_bill 21 = .ok (.invokevirtual 45, 3) := by decide +kernel
theorem dX7_bill_24 : decode cX7_bill 24 = .ok (.ireturn, 1) := by decide +kernel
theorem dX7_settle_0 : decode cX7_settle 0 = .ok (.aload_n 0, 1) := by decide +kernel
theorem dX7_settle_1 : decode cX7_settle 1 = .ok (.getfield 19, 3) := by decide +kernel
theorem dX7_settle_4 : decode cX7_settle 4 = .ok (.aload_n 0, 1) := by decide +kernel
theorem dX7_settle_5 : decode cX7_settle 5 = .ok (.getfield 10, 3) := by decide +kernel
theorem dX7_settle_8 : decode cX7_settle 8 = .ok (.invokevirtual 37, 3) := by decide +kernel
theorem dX7_settle_11 : decode cX7_settle 11 = .ok (.aload_n 0, 1) := by decide +kernel
theorem dX7_settle_12 : decode cX7_settle 12 = .ok (.aload_n 0, 1) := by decide +kernel
theorem dX7_settle_13 : decode cX7_settle 13 = .ok (.getfield 10, 3) := by decide +kernel
theorem dX7_settle_16 : decode cX7_settle 16 = .ok (.iload_n 1, 1) := by decide +kernel
theorem dX7_settle_17 : decode cX7_settle 17 = .ok (.invokevirtual 77, 3) := by decide +kernel
theorem dX7_settle_20 : decode cX7_settle 20 = .ok (.invokevirtual 45, 3) := by decide +kernel
theorem dX7_settle_23 : decode cX7_settle 23 = .ok (.ireturn, 1) := by decide +kernel
theorem dX7_pass_0 : decode cX7_pass 0 = .ok (.aload_n 0, 1) := by decide +kernel
theorem dX7_pass_1 : decode cX7_pass 1 = .ok (.getfield 19, 3) := by decide +kernel
theorem dX7_pass_4 : decode cX7_pass 4 = .ok (.aload_n 0, 1) := by decide +kernel
theorem dX7_pass_5 : decode cX7_pass 5 = .ok (.getfield 10, 3) := by decide +kernel
theorem dX7_pass_8 : decode cX7_pass 8 = .ok (.invokevirtual 37, 3) := by decide +kernel
theorem dX7_pass_11 : decode cX7_pass 11 = .ok (.aload_n 0, 1) := by decide +kernel
theorem dX7_pass_12 : decode cX7_pass 12 = .ok (.getfield 10, 3) := by decide +kernel
theorem dX7_pass_15 : decode cX7_pass 15 = .ok (.iload_n 1, 1) := by decide +kernel
theorem dX7_pass_16 : decode cX7_pass 16 = .ok (.invokevirtual 80, 3) := by decide +kernel
theorem dX7_pass_19 : decode cX7_pass 19 = .ok (.lstore_n 2, 1) := by decide +kernel
theorem dX7_pass_20 : decode cX7_pass 20 = .ok (.lload_n 2, 1) := by decide +kernel
theorem dX7_pass_21 : decode cX7_pass 21 = .ok (.lconst 0, 1) := by decide +kernel
theorem dX7_pass_22 : decode cX7_pass 22 = .ok (.lcmp, 1) := by decide +kernel
theorem dX7_pass_23 : decode cX7_pass 23 = .ok (.ifCond .lt 10, 3) := by decide +kernel
theorem dX7_pass_26 : decode cX7_pass 26 = .ok (.aload_n 0, 1) := by decide +kernel
theorem dX7_pass_27 : decode cX7_pass 27 = .ok (.getfield 19, 3) := by decide +kernel
theorem dX7_pass_30 : decode cX7_pass 30 = .ok (.invokevirtual 84, 3) := by decide +kernel
theorem dX7_pass_33 : decode cX7_pass 33 = .ok (.lload_n 2, 1) := by decide +kernel
theorem dX7_pass_34 : decode cX7_pass 34 = .ok (.lreturn, 1) := by decide +kernel
theorem dX7_reverse_0 : decode cX7_reverse 0 = .ok (.aload_n 0, 1) := by decide +kernel
theorem dX7_reverse_1 : decode cX7_reverse 1 = .ok (.getfield 19, 3) := by decide +kernel
theorem dX7_reverse_4 : decode cX7_reverse 4 = .ok (.aload_n 0, 1) := by decide +kernel
theorem dX7_reverse_5 : decode cX7_reverse 5 = .ok (.getfield 10, 3) := by decide +kernel
theorem dX7_reverse_8 : decode cX7_reverse 8 = .ok (.invokevirtual 37, 3) := by decide +kernel
theorem dX7_reverse_11 : decode cX7_reverse 11 = .ok (.aload_n 0, 1) := by decide +kernel
theorem dX7_reverse_12 : decode cX7_reverse 12 = .ok (.aload_n 0, 1) := by decide +kernel
theorem dX7_reverse_13 : decode cX7_reverse 13 = .ok (.getfield 10, 3) := by decide +kernel
theorem dX7_reverse_16 : decode cX7_reverse 16 = .ok (.iload_n 1, 1) := by decide +kernel
theorem dX7_reverse_17 : decode cX7_reverse 17 = .ok (.invokevirtual 87, 3) := by decide +kernel
theorem dX7_reverse_20 : decode cX7_reverse 20 = .ok (.invokevirtual 45, 3) := by decide +kernel
theorem dX7_reverse_23 : decode cX7_reverse 23 = .ok (.ireturn, 1) := by decide +kernel
theorem dX7_day_0 : decode cX7_day 0 = .ok (.aload_n 0, 1) := by decide +kernel
theorem dX7_day_1 : decode cX7_day 1 = .ok (.getfield 10, 3) := by decide +kernel
theorem dX7_day_4 : decode cX7_day 4 = .ok (.getfield 90, 3) := by decide +kernel
theorem dX7_day_7 : decode cX7_day 7 = .ok (.ireturn, 1) := by decide +kernel
theorem dX7_clients_0 : decode cX7_clients 0 = .ok (.aload_n 0, 1) := by decide +kernel
theorem dX7_clients_1 : decode cX7_clients 1 = .ok (.getfield 10, 3) := by decide +kernel
theorem dX7_clients_4 : decode cX7_clients 4 = .ok (.getfield 94, 3) := by decide +kernel
theorem dX7_clients_7 : decode cX7_clients 7 = .ok (.getfield 98, 3) := by decide +kernel
theorem dX7_clients_10 : decode cX7_clients 10 = .ok (.ireturn, 1) := by decide +kernel
theorem dX7_ranked_0 : decode cX7_ranked 0 = .ok (.iload_n 1, 1) := by decide +kernel
theorem dX7_ranked_1 : decode cX7_ranked 1 = .ok (.ifCond .lt 8, 3) := by decide +kernel
theorem dX7_ranked_4 : decode cX7_ranked 4 = .ok (.iload_n 1, 1) := by decide +kernel
theorem dX7_ranked_5 : decode cX7_ranked 5 = .ok (.iconst 3, 1) := by decide +kernel
theorem dX7_ranked_6 : decode cX7_ranked 6 = .ok (.if_icmp .le 6, 3) := by decide +kernel
theorem dX7_ranked_9 : decode cX7_ranked 9 = .ok (.bipush (-2), 2) := by decide +kernel
theorem dX7_ranked_11 : decode cX7_ranked 11 = .ok (.ireturn, 1) := by decide +kernel
theorem dX7_ranked_12 : decode cX7_ranked 12 = .ok (.iload_n 2, 1) := by decide +kernel
theorem dX7_ranked_13 : decode cX7_ranked 13 = .ok (.ifCond .lt 17, 3) := by decide +kernel
theorem dX7_ranked_16 : decode cX7_ranked 16 = .ok (.iload_n 2, 1) := by decide +kernel
theorem dX7_ranked_17 : decode cX7_ranked 17 = .ok (.aload_n 0, 1) := by decide +kernel
theorem dX7_ranked_18 : decode cX7_ranked 18 = .ok (.getfield 10, 3) := by decide +kernel
theorem dX7_ranked_21 : decode cX7_ranked 21 = .ok (.getfield 94, 3) := by decide +kernel
theorem dX7_ranked_24 : decode cX7_ranked 24 = .ok (.getfield 98, 3) := by decide +kernel
theorem dX7_ranked_27 : decode cX7_ranked 27 = .ok (.if_icmp .lt 5, 3) := by decide +kernel
theorem dX7_ranked_30 : decode cX7_ranked 30 = .ok (.iconst (-1), 1) := by decide +kernel
theorem dX7_ranked_31 : decode cX7_ranked 31 = .ok (.ireturn, 1) := by decide +kernel
theorem dX7_ranked_32 : decode cX7_ranked 32 = .ok (.aload_n 0, 1) := by decide +kernel
theorem dX7_ranked_33 : decode cX7_ranked 33 = .ok (.getfield 33, 3) := by decide +kernel
theorem dX7_ranked_36 : decode cX7_ranked 36 = .ok (.aload_n 0, 1) := by decide +kernel
theorem dX7_ranked_37 : decode cX7_ranked 37 = .ok (.getfield 10, 3) := by decide +kernel
theorem dX7_ranked_40 : decode cX7_ranked 40 = .ok (.iload_n 1, 1) := by decide +kernel
theorem dX7_ranked_41 : decode cX7_ranked 41 = .ok (.invokevirtual 103, 3) := by decide +kernel
theorem dX7_ranked_44 : decode cX7_ranked 44 = .ok (.aload_n 0, 1) := by decide +kernel
theorem dX7_ranked_45 : decode cX7_ranked 45 = .ok (.getfield 33, 3) := by decide +kernel
theorem dX7_ranked_48 : decode cX7_ranked 48 = .ok (.iload_n 2, 1) := by decide +kernel
theorem dX7_ranked_49 : decode cX7_ranked 49 = .ok (.invokevirtual 107, 3) := by decide +kernel
theorem dX7_ranked_52 : decode cX7_ranked 52 = .ok (.ireturn, 1) := by decide +kernel
theorem dX7_of_0 : decode cX7_of 0 = .ok (.aload_n 0, 1) := by decide +kernel
theorem dX7_of_1 : decode cX7_of 1 = .ok (.getfield 10, 3) := by decide +kernel
theorem dX7_of_4 : decode cX7_of 4 = .ok (.getfield 94, 3) := by decide +kernel
theorem dX7_of_7 : decode cX7_of 7 = .ok (.iload_n 1, 1) := by decide +kernel
theorem dX7_of_8 : decode cX7_of 8 = .ok (.invokevirtual 110, 3) := by decide +kernel
theorem dX7_of_11 : decode cX7_of 11 = .ok (.istore_n 3, 1) := by decide +kernel
theorem dX7_of_12 : decode cX7_of 12 = .ok (.iload_n 3, 1) := by decide +kernel
theorem dX7_of_13 : decode cX7_of 13 = .ok (.ifCond .ge 5, 3) := by decide +kernel
theorem dX7_of_16 : decode cX7_of 16 = .ok (.iconst (-1), 1) := by decide +kernel
theorem dX7_of_17 : decode cX7_of 17 = .ok (.ireturn, 1) := by decide +kernel
theorem dX7_of_18 : decode cX7_of 18 = .ok (.aload_n 0, 1) := by decide +kernel
theorem dX7_of_19 : decode cX7_of 19 = .ok (.getfield 10, 3) := by decide +kernel
theorem dX7_of_22 : decode cX7_of 22 = .ok (.iload_n 3, 1) := by decide +kernel
theorem dX7_of_23 : decode cX7_of 23 = .ok (.iload_n 2, 1) := by decide +kernel
theorem dX7_of_24 : decode cX7_of 24 = .ok (.invokevirtual 113, 3) := by decide +kernel
theorem dX7_of_27 : decode cX7_of 27 = .ok (.ireturn, 1) := by decide +kernel
theorem dX7_holdOf_0 : decode cX7_holdOf 0 = .ok (.aload_n 0, 1) := by decide +kernel
theorem dX7_holdOf_1 : decode cX7_holdOf 1 = .ok (.getfield 10, 3) := by decide +kernel
theorem dX7_holdOf_4 : decode cX7_holdOf 4 = .ok (.getfield 116, 3) := by decide +kernel
theorem dX7_holdOf_7 : decode cX7_holdOf 7 = .ok (.iload_n 1, 1) := by decide +kernel
theorem dX7_holdOf_8 : decode cX7_holdOf 8 = .ok (.iload_n 2, 1) := by decide +kernel
theorem dX7_holdOf_9 : decode cX7_holdOf 9 = .ok (.invokestatic 120, 3) := by decide +kernel
theorem dX7_holdOf_12 : decode cX7_holdOf 12 = .ok (.ireturn, 1) := by decide +kernel
theorem dX7_billOf_0 : decode cX7_billOf 0 = .ok (.aload_n 0, 1) := by decide +kernel
theorem dX7_billOf_1 : decode cX7_billOf 1 = .ok (.getfield 10, 3) := by decide +kernel
theorem dX7_billOf_4 : decode cX7_billOf 4 = .ok (.getfield 124, 3) := by decide +kernel
theorem dX7_billOf_7 : decode cX7_billOf 7 = .ok (.iload_n 1, 1) := by decide +kernel
theorem dX7_billOf_8 : decode cX7_billOf 8 = .ok (.iload_n 2, 1) := by decide +kernel
theorem dX7_billOf_9 : decode cX7_billOf 9 = .ok (.invokestatic 120, 3) := by decide +kernel
theorem dX7_billOf_12 : decode cX7_billOf 12 = .ok (.ireturn, 1) := by decide +kernel
theorem dX7_entries_0 : decode cX7_entries 0 = .ok (.aload_n 0, 1) := by decide +kernel
theorem dX7_entries_1 : decode cX7_entries 1 = .ok (.getfield 10, 3) := by decide +kernel
theorem dX7_entries_4 : decode cX7_entries 4 = .ok (.getfield 127, 3) := by decide +kernel
theorem dX7_entries_7 : decode cX7_entries 7 = .ok (.getfield 131, 3) := by decide +kernel
theorem dX7_entries_10 : decode cX7_entries 10 = .ok (.ireturn, 1) := by decide +kernel
theorem dX7_entry_0 : decode cX7_entry 0 = .ok (.aload_n 0, 1) := by decide +kernel
theorem dX7_entry_1 : decode cX7_entry 1 = .ok (.getfield 10, 3) := by decide +kernel
theorem dX7_entry_4 : decode cX7_entry 4 = .ok (.getfield 127, 3) := by decide +kernel
theorem dX7_entry_7 : decode cX7_entry 7 = .ok (.iload_n 1, 1) := by decide +kernel
theorem dX7_entry_8 : decode cX7_entry 8 = .ok (.invokevirtual 136, 3) := by decide +kernel
theorem dX7_entry_11 : decode cX7_entry 11 = .ok (.ifCond .ne 5, 3) := by decide +kernel
theorem dX7_entry_14 : decode cX7_entry 14 = .ok (.iconst (-1), 1) := by decide +kernel
theorem dX7_entry_15 : decode cX7_entry 15 = .ok (.ireturn, 1) := by decide +kernel
theorem dX7_entry_16 : decode cX7_entry 16 = .ok (.iload_n 2, 1) := by decide +kernel
theorem dX7_entry_17 : decode cX7_entry 17 = .ok (.ifCond .lt 9, 3) := by decide +kernel
theorem dX7_entry_20 : decode cX7_entry 20 = .ok (.iload_n 2, 1) := by decide +kernel
theorem dX7_entry_21 : decode cX7_entry 21 = .ok (.bipush 6, 2) := by decide +kernel
theorem dX7_entry_23 : decode cX7_entry 23 = .ok (.if_icmp .le 6, 3) := by decide +kernel
theorem dX7_entry_26 : decode cX7_entry 26 = .ok (.bipush (-2), 2) := by decide +kernel
theorem dX7_entry_28 : decode cX7_entry 28 = .ok (.ireturn, 1) := by decide +kernel
theorem dX7_entry_29 : decode cX7_entry 29 = .ok (.aload_n 0, 1) := by decide +kernel
theorem dX7_entry_30 : decode cX7_entry 30 = .ok (.getfield 10, 3) := by decide +kernel
theorem dX7_entry_33 : decode cX7_entry 33 = .ok (.getfield 127, 3) := by decide +kernel
theorem dX7_entry_36 : decode cX7_entry 36 = .ok (.iload_n 1, 1) := by decide +kernel
theorem dX7_entry_37 : decode cX7_entry 37 = .ok (.iload_n 2, 1) := by decide +kernel
theorem dX7_entry_38 : decode cX7_entry 38 = .ok (.invokevirtual 140, 3) := by decide +kernel
theorem dX7_entry_41 : decode cX7_entry 41 = .ok (.ireturn, 1) := by decide +kernel
theorem dX7_sum_0 : decode cX7_sum 0 = .ok (.iload_n 1, 1) := by decide +kernel
theorem dX7_sum_1 : decode cX7_sum 1 = .ok (.tableswitch 94 0 5 #[39, 50, 62, 70, 78, 86], 39) := by decide +kernel
theorem dX7_sum_40 : decode cX7_sum 40 = .ok (.aload_n 0, 1) := by decide +kernel
theorem dX7_sum_41 : decode cX7_sum 41 = .ok (.getfield 10, 3) := by decide +kernel
theorem dX7_sum_44 : decode cX7_sum 44 = .ok (.getfield 94, 3) := by decide +kernel
theorem dX7_sum_47 : decode cX7_sum 47 = .ok (.invokevirtual 143, 3) := by decide +kernel
theorem dX7_sum_50 : decode cX7_sum 50 = .ok (.lreturn, 1) := by decide +kernel
theorem dX7_sum_51 : decode cX7_sum 51 = .ok (.aload_n 0, 1) := by decide +kernel
theorem dX7_sum_52 : decode cX7_sum 52 = .ok (.getfield 10, 3) := by decide +kernel
theorem dX7_sum_55 : decode cX7_sum 55 = .ok (.getfield 116, 3) := by decide +kernel
theorem dX7_sum_58 : decode cX7_sum 58 = .ok (.iconst 2, 1) := by decide +kernel
theorem dX7_sum_59 : decode cX7_sum 59 = .ok (.invokevirtual 149, 3) := by decide +kernel
theorem dX7_sum_62 : decode cX7_sum 62 = .ok (.lreturn, 1) := by decide +kernel
theorem dX7_sum_63 : decode cX7_sum 63 = .ok (.aload_n 0, 1) := by decide +kernel
theorem dX7_sum_64 : decode cX7_sum 64 = .ok (.getfield 10, 3) := by decide +kernel
theorem dX7_sum_67 : decode cX7_sum 67 = .ok (.getfield 152, 3) := by decide +kernel
theorem dX7_sum_70 : decode cX7_sum 70 = .ok (.lreturn, 1) := by decide +kernel
theorem dX7_sum_71 : decode cX7_sum 71 = .ok (.aload_n 0, 1) := by decide +kernel
theorem dX7_sum_72 : decode cX7_sum 72 = .ok (.getfield 10, 3) := by decide +kernel
theorem dX7_sum_75 : decode cX7_sum 75 = .ok (.getfield 156, 3) := by decide +kernel
theorem dX7_sum_78 : decode cX7_sum 78 = .ok (.lreturn, 1) := by decide +kernel
theorem dX7_sum_79 : decode cX7_sum 79 = .ok (.aload_n 0, 1) := by decide +kernel
theorem dX7_sum_80 : decode cX7_sum 80 = .ok (.getfield 10, 3) := by decide +kernel
theorem dX7_sum_83 : decode cX7_sum 83 = .ok (.getfield 159, 3) := by decide +kernel
theorem dX7_sum_86 : decode cX7_sum 86 = .ok (.lreturn, 1) := by decide +kernel
theorem dX7_sum_87 : decode cX7_sum 87 = .ok (.aload_n 0, 1) := by decide +kernel
theorem dX7_sum_88 : decode cX7_sum 88 = .ok (.getfield 10, 3) := by decide +kernel
theorem dX7_sum_91 : decode cX7_sum 91 = .ok (.getfield 162, 3) := by decide +kernel
theorem dX7_sum_94 : decode cX7_sum 94 = .ok (.lreturn, 1) := by decide +kernel
theorem dX7_sum_95 : decode cX7_sum 95 = .ok (.ldc2_w 165, 3) := by decide +kernel
theorem dX7_sum_98 : decode cX7_sum 98 = .ok (.lreturn, 1) := by decide +kernel
theorem dX7_payableOn_0 : decode cX7_payableOn 0 = .ok (.aload_n 0, 1) := by decide +kernel
theorem dX7_payableOn_1 : decode cX7_payableOn 1 = .ok (.getfield 10, 3) := by decide +kernel
theorem dX7_payableOn_4 : decode cX7_payableOn 4 = .ok (.getfield 94, 3) := by decide +kernel
theorem dX7_payableOn_7 : decode cX7_payableOn 7 = .ok (.iload_n 1, 1) := by decide +kernel
theorem dX7_payableOn_8 : decode cX7_payableOn 8 = .ok (.invokevirtual 110, 3) := by decide +kernel
theorem dX7_payableOn_11 : decode cX7_payableOn 11 = .ok (.istore_n 3, 1) := by decide +kernel
theorem dX7_payableOn_12 : decode cX7_payableOn 12 = .ok (.iload_n 3, 1) := by decide +kernel
theorem dX7_payableOn_13 : decode cX7_payableOn 13 = .ok (.ifCond .ge 5, 3) := by decide +kernel
theorem dX7_payableOn_16 : decode cX7_payableOn 16 = .ok (.iconst (-1), 1) := by decide +kernel
theorem dX7_payableOn_17 : decode cX7_payableOn 17 = .ok (.ireturn, 1) := by decide +kernel
theorem dX7_payableOn_18 : decode cX7_payableOn 18 = .ok (.iload_n 2, 1) := by decide +kernel
theorem dX7_payableOn_19 : decode cX7_payableOn 19 = .ok (.invokestatic 167, 3) := by decide +kernel
theorem dX7_payableOn_22 : decode cX7_payableOn 22 = .ok (.ifCond .ne 6, 3) := by decide +kernel
theorem dX7_payableOn_25 : decode cX7_payableOn 25 = .ok (.bipush (-2), 2) := by decide +kernel
theorem dX7_payableOn_27 : decode cX7_payableOn 27 = .ok (.ireturn, 1) := by decide +kernel
theorem dX7_payableOn_28 : decode cX7_payableOn 28 = .ok (.aload_n 0, 1) := by decide +kernel
theorem dX7_payableOn_29 : decode cX7_payableOn 29 = .ok (.getfield 10, 3) := by decide +kernel
theorem dX7_payableOn_32 : decode cX7_payableOn 32 = .ok (.iload_n 3, 1) := by decide +kernel
theorem dX7_payableOn_33 : decode cX7_payableOn 33 = .ok (.iload_n 2, 1) := by decide +kernel
theorem dX7_payableOn_34 : decode cX7_payableOn 34 = .ok (.invokevirtual 170, 3) := by decide +kernel
theorem dX7_payableOn_37 : decode cX7_payableOn 37 = .ok (.ireturn, 1) := by decide +kernel
theorem dX7_interestIn_0 : decode cX7_interestIn 0 = .ok (.aload_n 0, 1) := by decide +kernel
theorem dX7_interestIn_1 : decode cX7_interestIn 1 = .ok (.getfield 10, 3) := by decide +kernel
theorem dX7_interestIn_4 : decode cX7_interestIn 4 = .ok (.getfield 94, 3) := by decide +kernel
theorem dX7_interestIn_7 : decode cX7_interestIn 7 = .ok (.iload_n 1, 1) := by decide +kernel
theorem dX7_interestIn_8 : decode cX7_interestIn 8 = .ok (.invokevirtual 110, 3) := by decide +kernel
theorem dX7_interestIn_11 : decode cX7_interestIn 11 = .ok (.istore_n 3, 1) := by decide +kernel
theorem dX7_interestIn_12 : decode cX7_interestIn 12 = .ok (.iload_n 3, 1) := by decide +kernel
theorem dX7_interestIn_13 : decode cX7_interestIn 13 = .ok (.ifCond .ge 5, 3) := by decide +kernel
theorem dX7_interestIn_16 : decode cX7_interestIn 16 = .ok (.iconst (-1), 1) := by decide +kernel
theorem dX7_interestIn_17 : decode cX7_interestIn 17 = .ok (.ireturn, 1) := by decide +kernel
theorem dX7_interestIn_18 : decode cX7_interestIn 18 = .ok (.iload_n 2, 1) := by decide +kernel
theorem dX7_interestIn_19 : decode cX7_interestIn 19 = .ok (.iconst 1, 1) := by decide +kernel
theorem dX7_interestIn_20 : decode cX7_interestIn 20 = .ok (.if_icmp .lt 10, 3) := by decide +kernel
theorem dX7_interestIn_23 : decode cX7_interestIn 23 = .ok (.iload_n 2, 1) := by decide +kernel
theorem dX7_interestIn_24 : decode cX7_interestIn 24 = .ok (.sipush 400, 3) := by decide +kernel
theorem dX7_interestIn_27 : decode cX7_interestIn 27 = .ok (.if_icmp .le 6, 3) := by decide +kernel
theorem dX7_interestIn_30 : decode cX7_interestIn 30 = .ok (.bipush (-2), 2) := by decide +kernel
theorem dX7_interestIn_32 : decode cX7_interestIn 32 = .ok (.ireturn, 1) := by decide +kernel
theorem dX7_interestIn_33 : decode cX7_interestIn 33 = .ok (.aload_n 0, 1) := by decide +kernel
theorem dX7_interestIn_34 : decode cX7_interestIn 34 = .ok (.getfield 10, 3) := by decide +kernel
theorem dX7_interestIn_37 : decode cX7_interestIn 37 = .ok (.iload_n 3, 1) := by decide +kernel
theorem dX7_interestIn_38 : decode cX7_interestIn 38 = .ok (.iload_n 2, 1) := by decide +kernel
theorem dX7_interestIn_39 : decode cX7_interestIn 39 = .ok (.invokevirtual 173, 3) := by decide +kernel
theorem dX7_interestIn_42 : decode cX7_interestIn 42 = .ok (.ireturn, 1) := by decide +kernel
theorem dX7_type_0 : decode cX7_type 0 = .ok (.iload_n 1, 1) := by decide +kernel
theorem dX7_type_1 : decode cX7_type 1 = .ok (.bipush 33, 2) := by decide +kernel
theorem dX7_type_3 : decode cX7_type 3 = .ok (.if_icmp .lt 9, 3) := by decide +kernel
theorem dX7_type_6 : decode cX7_type 6 = .ok (.iload_n 1, 1) := by decide +kernel
theorem dX7_type_7 : decode cX7_type 7 = .ok (.bipush 126, 2) := by decide +kernel
theorem dX7_type_9 : decode cX7_type 9 = .ok (.if_icmp .le 6, 3) := by decide +kernel
theorem dX7_type_12 : decode cX7_type 12 = .ok (.bipush (-2), 2) := by decide +kernel
theorem dX7_type_14 : decode cX7_type 14 = .ok (.ireturn, 1) := by decide +kernel
theorem dX7_type_15 : decode cX7_type 15 = .ok (.aload_n 0, 1) := by decide +kernel
theorem dX7_type_16 : decode cX7_type 16 = .ok (.getfield 26, 3) := by decide +kernel
theorem dX7_type_19 : decode cX7_type 19 = .ok (.getfield 176, 3) := by decide +kernel
theorem dX7_type_22 : decode cX7_type 22 = .ok (.bipush 80, 2) := by decide +kernel
theorem dX7_type_24 : decode cX7_type 24 = .ok (.if_icmp .lt 6, 3) := by decide +kernel
theorem dX7_type_27 : decode cX7_type 27 = .ok (.bipush (-4), 2) := by decide +kernel
theorem dX7_type_29 : decode cX7_type 29 = .ok (.ireturn, 1) := by decide +kernel
theorem dX7_type_30 : decode cX7_type 30 = .ok (.aload_n 0, 1) := by decide +kernel
theorem dX7_type_31 : decode cX7_type 31 = .ok (.getfield 26, 3) := by decide +kernel
theorem dX7_type_34 : decode cX7_type 34 = .ok (.iload_n 1, 1) := by decide +kernel
theorem dX7_type_35 : decode cX7_type 35 = .ok (.i2c, 1) := by decide +kernel
theorem dX7_type_36 : decode cX7_type 36 = .ok (.invokevirtual 179, 3) := by decide +kernel
theorem dX7_type_39 : decode cX7_type 39 = .ok (.ireturn, 1) := by decide +kernel
theorem dX7_clearText_0 : decode cX7_clearText 0 = .ok (.aload_n 0, 1) := by decide +kernel
theorem dX7_clearText_1 : decode cX7_clearText 1 = .ok (.getfield 26, 3) := by decide +kernel
theorem dX7_clearText_4 : decode cX7_clearText 4 = .ok (.invokevirtual 183, 3) := by decide +kernel
theorem dX7_clearText_7 : decode cX7_clearText 7 = .ok (.ireturn, 1) := by decide +kernel
theorem dX7_syntaxError_0 : decode cX7_syntaxError 0 = .ok (.aload_n 0, 1) := by decide +kernel
theorem dX7_syntaxError_1 : decode cX7_syntaxError 1 = .ok (.getfield 26, 3) := by decide +kernel
theorem dX7_syntaxError_4 : decode cX7_syntaxError 4 = .ok (.invokevirtual 187, 3) := by decide +kernel
theorem dX7_syntaxError_7 : decode cX7_syntaxError 7 = .ok (.ireturn, 1) := by decide +kernel
theorem dX7_carryOut_0 : decode cX7_carryOut 0 = .ok (.aload_n 0, 1) := by decide +kernel
theorem dX7_carryOut_1 : decode cX7_carryOut 1 = .ok (.getfield 26, 3) := by decide +kernel
theorem dX7_carryOut_4 : decode cX7_carryOut 4 = .ok (.invokevirtual 187, 3) := by decide +kernel
theorem dX7_carryOut_7 : decode cX7_carryOut 7 = .ok (.bipush (-6), 2) := by decide +kernel
theorem dX7_carryOut_9 : decode cX7_carryOut 9 = .ok (.if_icmp .eq 6, 3) := by decide +kernel
theorem dX7_carryOut_12 : decode cX7_carryOut 12 = .ok (.bipush (-5), 2) := by decide +kernel
theorem dX7_carryOut_14 : decode cX7_carryOut 14 = .ok (.ireturn, 1) := by decide +kernel
theorem dX7_carryOut_15 : decode cX7_carryOut 15 = .ok (.aload_n 0, 1) := by decide +kernel
theorem dX7_carryOut_16 : decode cX7_carryOut 16 = .ok (.getfield 19, 3) := by decide +kernel
theorem dX7_carryOut_19 : decode cX7_carryOut 19 = .ok (.aload_n 0, 1) := by decide +kernel
theorem dX7_carryOut_20 : decode cX7_carryOut 20 = .ok (.getfield 10, 3) := by decide +kernel
theorem dX7_carryOut_23 : decode cX7_carryOut 23 = .ok (.invokevirtual 37, 3) := by decide +kernel
theorem dX7_carryOut_26 : decode cX7_carryOut 26 = .ok (.iconst 0, 1) := by decide +kernel
theorem dX7_carryOut_27 : decode cX7_carryOut 27 = .ok (.istore_n 1, 1) := by decide +kernel
theorem dX7_carryOut_28 : decode cX7_carryOut 28 = .ok (.aload_n 0, 1) := by decide +kernel
theorem dX7_carryOut_29 : decode cX7_carryOut 29 = .ok (.getfield 26, 3) := by decide +kernel
theorem dX7_carryOut_32 : decode cX7_carryOut 32 = .ok (.invokevirtual 190, 3) := by decide +kernel
theorem dX7_carryOut_35 : decode cX7_carryOut 35 = .ok (.iconst 0, 1) := by decide +kernel
theorem dX7_carryOut_36 : decode cX7_carryOut 36 = .ok (.istore_n 2, 1) := by decide +kernel
theorem dX7_carryOut_37 : decode cX7_carryOut 37 = .ok (.iload_n 2, 1) := by decide +kernel
theorem dX7_carryOut_38 : decode cX7_carryOut 38 = .ok (.bipush 80, 2) := by decide +kernel
theorem dX7_carryOut_40 : decode cX7_carryOut 40 = .ok (.if_icmp .ge 34, 3) := by decide +kernel
theorem dX7_carryOut_43 : decode cX7_carryOut 43 = .ok (.aload_n 0, 1) := by decide +kernel
theorem dX7_carryOut_44 : decode cX7_carryOut 44 = .ok (.getfield 26, 3) := by decide +kernel
theorem dX7_carryOut_47 : decode cX7_carryOut 47 = .ok (.invokevirtual 193, 3) := by decide +kernel
theorem dX7_carryOut_50 : decode cX7_carryOut 50 = .ok (.ifCond .eq 24, 3) := by decide +kernel
theorem dX7_carryOut_53 : decode cX7_carryOut 53 = .ok (.aload_n 0, 1) := by decide +kernel
theorem dX7_carryOut_54 : decode cX7_carryOut 54 = .ok (.invokevirtual 197, 3) := by decide +kernel
theorem dX7_carryOut_57 : decode cX7_carryOut 57 = .ok (.lconst 0, 1) := by decide +kernel
theorem dX7_carryOut_58 : decode cX7_carryOut 58 = .ok (.lcmp, 1) := by decide +kernel
theorem dX7_carryOut_59 : decode cX7_carryOut 59 = .ok (.ifCond .ge 6, 3) := by decide +kernel
theorem dX7_carryOut_62 : decode cX7_carryOut 62 = .ok (.goto 12, 3) := by decide +kernel
theorem dX7_carryOut_65 : decode cX7_carryOut 65 = .ok (.iinc 1 1, 3) := by decide +kernel
theorem dX7_carryOut_68 : decode cX7_carryOut 68 = .ok (.iinc 2 1, 3) := by decide +kernel
theorem dX7_carryOut_71 : decode cX7_carryOut 71 = .ok (.goto (-34), 3) := by decide +kernel
theorem dX7_carryOut_74 : decode cX7_carryOut 74 = .ok (.aload_n 0, 1) := by decide +kernel
theorem dX7_carryOut_75 : decode cX7_carryOut 75 = .ok (.getfield 26, 3) := by decide +kernel
theorem dX7_carryOut_78 : decode cX7_carryOut 78 = .ok (.invokevirtual 183, 3) := by decide +kernel
theorem dX7_carryOut_81 : decode cX7_carryOut 81 = .ok (.pop, 1) := by decide +kernel
theorem dX7_carryOut_82 : decode cX7_carryOut 82 = .ok (.aload_n 0, 1) := by decide +kernel
theorem dX7_carryOut_83 : decode cX7_carryOut 83 = .ok (.getfield 19, 3) := by decide +kernel
theorem dX7_carryOut_86 : decode cX7_carryOut 86 = .ok (.invokevirtual 84, 3) := by decide +kernel
theorem dX7_carryOut_89 : decode cX7_carryOut 89 = .ok (.iload_n 1, 1) := by decide +kernel
theorem dX7_carryOut_90 : decode cX7_carryOut 90 = .ok (.ireturn, 1) := by decide +kernel
theorem dX7_undo_0 : decode cX7_undo 0 = .ok (.aload_n 0, 1) := by decide +kernel
theorem dX7_undo_1 : decode cX7_undo 1 = .ok (.getfield 19, 3) := by decide +kernel
theorem dX7_undo_4 : decode cX7_undo 4 = .ok (.getfield 200, 3) := by decide +kernel
theorem dX7_undo_7 : decode cX7_undo 7 = .ok (.ifCond .ne 6, 3) := by decide +kernel
theorem dX7_undo_10 : decode cX7_undo 10 = .ok (.bipush (-3), 2) := by decide +kernel
theorem dX7_undo_12 : decode cX7_undo 12 = .ok (.ireturn, 1) := by decide +kernel
theorem dX7_undo_13 : decode cX7_undo 13 = .ok (.aload_n 0, 1) := by decide +kernel
theorem dX7_undo_14 : decode cX7_undo 14 = .ok (.getfield 19, 3) := by decide +kernel
theorem dX7_undo_17 : decode cX7_undo 17 = .ok (.aload_n 0, 1) := by decide +kernel
theorem dX7_undo_18 : decode cX7_undo 18 = .ok (.getfield 10, 3) := by decide +kernel
theorem dX7_undo_21 : decode cX7_undo 21 = .ok (.invokevirtual 203, 3) := by decide +kernel
theorem dX7_undo_24 : decode cX7_undo 24 = .ok (.ireturn, 1) := by decide +kernel
theorem dX7_digest_0 : decode cX7_digest 0 = .ok (.ldc2_w 207, 3) := by decide +kernel
theorem dX7_digest_3 : decode cX7_digest 3 = .ok (.aload_n 0, 1) := by decide +kernel
theorem dX7_digest_4 : decode cX7_digest 4 = .ok (.getfield 10, 3) := by decide +kernel
theorem dX7_digest_7 : decode cX7_digest 7 = .ok (.getfield 90, 3) := by decide +kernel
theorem dX7_digest_10 : decode cX7_digest 10 = .ok (.i2l, 1) := by decide +kernel
theorem dX7_digest_11 : decode cX7_digest 11 = .ok (.ladd, 1) := by decide +kernel
theorem dX7_digest_12 : decode cX7_digest 12 = .ok (.lstore_n 1, 1) := by decide +kernel
theorem dX7_digest_13 : decode cX7_digest 13 = .ok (.ldc2_w 209, 3) := by decide +kernel
theorem dX7_digest_16 : decode cX7_digest 16 = .ok (.lload_n 1, 1) := by decide +kernel
theorem dX7_digest_17 : decode cX7_digest 17 = .ok (.lmul, 1) := by decide +kernel
theorem dX7_digest_18 : decode cX7_digest 18 = .ok (.aload_n 0, 1) := by decide +kernel
theorem dX7_digest_19 : decode cX7_digest 19 = .ok (.getfield 10, 3) := by decide +kernel
theorem dX7_digest_22 : decode cX7_digest 22 = .ok (.getfield 94, 3) := by decide +kernel
theorem dX7_digest_25 : decode cX7_digest 25 = .ok (.getfield 98, 3) := by decide +kernel
theorem dX7_digest_28 : decode cX7_digest 28 = .ok (.i2l, 1) := by decide +kernel
theorem dX7_digest_29 : decode cX7_digest 29 = .ok (.ladd, 1) := by decide +kernel
theorem dX7_digest_30 : decode cX7_digest 30 = .ok (.lstore_n 1, 1) := by decide +kernel
theorem dX7_digest_31 : decode cX7_digest 31 = .ok (.aload_n 0, 1) := by decide +kernel
theorem dX7_digest_32 : decode cX7_digest 32 = .ok (.lload_n 1, 1) := by decide +kernel
theorem dX7_digest_33 : decode cX7_digest 33 = .ok (.invokevirtual 211, 3) := by decide +kernel
theorem dX7_digest_36 : decode cX7_digest 36 = .ok (.lstore_n 1, 1) := by decide +kernel
theorem dX7_digest_37 : decode cX7_digest 37 = .ok (.lload_n 1, 1) := by decide +kernel
theorem dX7_digest_38 : decode cX7_digest 38 = .ok (.aload_n 0, 1) := by decide +kernel
theorem dX7_digest_39 : decode cX7_digest 39 = .ok (.getfield 10, 3) := by decide +kernel
theorem dX7_digest_42 : decode cX7_digest 42 = .ok (.getfield 116, 3) := by decide +kernel
theorem dX7_digest_45 : decode cX7_digest 45 = .ok (.invokestatic 215, 3) := by decide +kernel
theorem dX7_digest_48 : decode cX7_digest 48 = .ok (.lstore_n 1, 1) := by decide +kernel
theorem dX7_digest_49 : decode cX7_digest 49 = .ok (.lload_n 1, 1) := by decide +kernel
theorem dX7_digest_50 : decode cX7_digest 50 = .ok (.aload_n 0, 1) := by decide +kernel
theorem dX7_digest_51 : decode cX7_digest 51 = .ok (.getfield 10, 3) := by decide +kernel
theorem dX7_digest_54 : decode cX7_digest 54 = .ok (.getfield 124, 3) := by decide +kernel
theorem dX7_digest_57 : decode cX7_digest 57 = .ok (.invokestatic 215, 3) := by decide +kernel
theorem dX7_digest_60 : decode cX7_digest 60 = .ok (.lstore_n 1, 1) := by decide +kernel
theorem dX7_digest_61 : decode cX7_digest 61 = .ok (.aload_n 0, 1) := by decide +kernel
theorem dX7_digest_62 : decode cX7_digest 62 = .ok (.lload_n 1, 1) := by decide +kernel
theorem dX7_digest_63 : decode cX7_digest 63 = .ok (.invokevirtual 219, 3) := by decide +kernel
theorem dX7_digest_66 : decode cX7_digest 66 = .ok (.lstore_n 1, 1) := by decide +kernel
theorem dX7_digest_67 : decode cX7_digest 67 = .ok (.aload_n 0, 1) := by decide +kernel
theorem dX7_digest_68 : decode cX7_digest 68 = .ok (.lload_n 1, 1) := by decide +kernel
theorem dX7_digest_69 : decode cX7_digest 69 = .ok (.invokevirtual 222, 3) := by decide +kernel
theorem dX7_digest_72 : decode cX7_digest 72 = .ok (.lstore_n 1, 1) := by decide +kernel
theorem dX7_digest_73 : decode cX7_digest 73 = .ok (.iconst 0, 1) := by decide +kernel
theorem dX7_digest_74 : decode cX7_digest 74 = .ok (.istore_n 3, 1) := by decide +kernel
theorem dX7_digest_75 : decode cX7_digest 75 = .ok (.iload_n 3, 1) := by decide +kernel
theorem dX7_digest_76 : decode cX7_digest 76 = .ok (.iconst 5, 1) := by decide +kernel
theorem dX7_digest_77 : decode cX7_digest 77 = .ok (.if_icmp .gt 21, 3) := by decide +kernel
theorem dX7_digest_80 : decode cX7_digest 80 = .ok (.ldc2_w 209, 3) := by decide +kernel
theorem dX7_digest_83 : decode cX7_digest 83 = .ok (.lload_n 1, 1) := by decide +kernel
theorem dX7_digest_84 : decode cX7_digest 84 = .ok (.lmul, 1) := by decide +kernel
theorem dX7_digest_85 : decode cX7_digest 85 = .ok (.aload_n 0, 1) := by decide +kernel
theorem dX7_digest_86 : decode cX7_digest 86 = .ok (.iload_n 3, 1) := by decide +kernel
theorem dX7_digest_87 : decode cX7_digest 87 = .ok (.invokevirtual 225, 3) := by decide +kernel
theorem dX7_digest_90 : decode cX7_digest 90 = .ok (.ladd, 1) := by decide +kernel
theorem dX7_digest_91 : decode cX7_digest 91 = .ok (.lstore_n 1, 1) := by decide +kernel
theorem dX7_digest_92 : decode cX7_digest 92 = .ok (.iinc 3 1, 3) := by decide +kernel
theorem dX7_digest_95 : decode cX7_digest 95 = .ok (.goto (-20), 3) := by decide +kernel
theorem dX7_digest_98 : decode cX7_digest 98 = .ok (.lload_n 1, 1) := by decide +kernel
theorem dX7_digest_99 : decode cX7_digest 99 = .ok (.lreturn, 1) := by decide +kernel
theorem dX7_keptUnlessError_0 : decode cX7_keptUnlessError 0 = .ok (.iload_n 1, 1) := by decide +kernel
theorem dX7_keptUnlessError_1 : decode cX7_keptUnlessError 1 = .ok (.ifCond .lt 10, 3) := by decide +kernel
theorem dX7_keptUnlessError_4 : decode cX7_keptUnlessError 4 = .ok (.aload_n 0, 1) := by decide +kernel
theorem dX7_keptUnlessError_5 : decode cX7_keptUnlessError 5 = .ok (.getfield 19, 3) := by decide +kernel
theorem dX7_keptUnlessError_8 : decode cX7_keptUnlessError 8 = .ok (.invokevirtual 84, 3) := by decide +kernel
theorem dX7_keptUnlessError_11 : decode cX7_keptUnlessError 11 = .ok (.iload_n 1, 1) := by decide +kernel
theorem dX7_keptUnlessError_12 : decode cX7_keptUnlessError 12 = .ok (.ireturn, 1) := by decide +kernel
theorem dX7_aboutRow_0 : decode cX7_aboutRow 0 = .ok (.aload_n 0, 1) := by decide +kernel
theorem dX7_aboutRow_1 : decode cX7_aboutRow 1 = .ok (.iload_n 1, 1) := by decide +kernel
theorem dX7_aboutRow_2 : decode cX7_aboutRow 2 = .ok (.invokevirtual 228, 3) := by decide +kernel
theorem dX7_aboutRow_5 : decode cX7_aboutRow 5 = .ok (.istore_n 3, 1) := by decide +kernel
theorem dX7_aboutRow_6 : decode cX7_aboutRow 6 = .ok (.iload_n 3, 1) := by decide +kernel
theorem dX7_aboutRow_7 : decode cX7_aboutRow 7 = .ok (.ifCond .ge 5, 3) := by decide +kernel
theorem dX7_aboutRow_10 : decode cX7_aboutRow 10 = .ok (.iconst (-1), 1) := by decide +kernel
theorem dX7_aboutRow_11 : decode cX7_aboutRow 11 = .ok (.ireturn, 1) := by decide +kernel
theorem dX7_aboutRow_12 : decode cX7_aboutRow 12 = .ok (.iload_n 2, 1) := by decide +kernel
theorem dX7_aboutRow_13 : decode cX7_aboutRow 13 = .ok (.ifCond .lt 8, 3) := by decide +kernel
theorem dX7_aboutRow_16 : decode cX7_aboutRow 16 = .ok (.iload_n 2, 1) := by decide +kernel
theorem dX7_aboutRow_17 : decode cX7_aboutRow 17 = .ok (.iconst 2, 1) := by decide +kernel
theorem dX7_aboutRow_18 : decode cX7_aboutRow 18 = .ok (.if_icmp .le 6, 3) := by decide +kernel
theorem dX7_aboutRow_21 : decode cX7_aboutRow 21 = .ok (.bipush (-2), 2) := by decide +kernel
theorem dX7_aboutRow_23 : decode cX7_aboutRow 23 = .ok (.ireturn, 1) := by decide +kernel
theorem dX7_aboutRow_24 : decode cX7_aboutRow 24 = .ok (.aload_n 0, 1) := by decide +kernel
theorem dX7_aboutRow_25 : decode cX7_aboutRow 25 = .ok (.iload_n 3, 1) := by decide +kernel
theorem dX7_aboutRow_26 : decode cX7_aboutRow 26 = .ok (.iconst 1, 1) := by decide +kernel
theorem dX7_aboutRow_27 : decode cX7_aboutRow 27 = .ok (.iload_n 2, 1) := by decide +kernel
theorem dX7_aboutRow_28 : decode cX7_aboutRow 28 = .ok (.iadd, 1) := by decide +kernel
theorem dX7_aboutRow_29 : decode cX7_aboutRow 29 = .ok (.invokevirtual 229, 3) := by decide +kernel
theorem dX7_aboutRow_32 : decode cX7_aboutRow 32 = .ok (.ireturn, 1) := by decide +kernel
theorem dX7_isAmount_0 : decode cX7_isAmount 0 = .ok (.iload_n 0, 1) := by decide +kernel
theorem dX7_isAmount_1 : decode cX7_isAmount 1 = .ok (.iconst 1, 1) := by decide +kernel
theorem dX7_isAmount_2 : decode cX7_isAmount 2 = .ok (.if_icmp .lt 13, 3) := by decide +kernel
theorem dX7_isAmount_5 : decode cX7_isAmount 5 = .ok (.iload_n 0, 1) := by decide +kernel
theorem dX7_isAmount_6 : decode cX7_isAmount 6 = .ok (.ldc 230, 2) := by decide +kernel
theorem dX7_isAmount_8 : decode cX7_isAmount 8 = .ok (.if_icmp .gt 7, 3) := by decide +kernel
theorem dX7_isAmount_11 : decode cX7_isAmount 11 = .ok (.iconst 1, 1) := by decide +kernel
theorem dX7_isAmount_12 : decode cX7_isAmount 12 = .ok (.goto 4, 3) := by decide +kernel
theorem dX7_isAmount_15 : decode cX7_isAmount 15 = .ok (.iconst 0, 1) := by decide +kernel
theorem dX7_isAmount_16 : decode cX7_isAmount 16 = .ok (.ireturn, 1) := by decide +kernel
theorem dX7_nextCreditDay_0 : decode cX7_nextCreditDay 0 = .ok (.iload_n 0, 1) := by decide +kernel
theorem dX7_nextCreditDay_1 : decode cX7_nextCreditDay 1 = .ok (.iload_n 0, 1) := by decide +kernel
theorem dX7_nextCreditDay_2 : decode cX7_nextCreditDay 2 = .ok (.bipush 30, 2) := by decide +kernel
theorem dX7_nextCreditDay_4 : decode cX7_nextCreditDay 4 = .ok (.irem, 1) := by decide +kernel
theorem dX7_nextCreditDay_5 : decode cX7_nextCreditDay 5 = .ok (.isub, 1) := by decide +kernel
theorem dX7_nextCreditDay_6 : decode cX7_nextCreditDay 6 = .ok (.bipush 30, 2) := by decide +kernel
theorem dX7_nextCreditDay_8 : decode cX7_nextCreditDay 8 = .ok (.iadd, 1) := by decide +kernel
theorem dX7_nextCreditDay_9 : decode cX7_nextCreditDay 9 = .ok (.ireturn, 1) := by decide +kernel
theorem dX7_carryOutOrder_0 : decode cX7_carryOutOrder 0 = .ok (.aload_n 0, 1) := by decide +kernel
theorem dX7_carryOutOrder_1 : decode cX7_carryOutOrder 1 = .ok (.getfield 26, 3) := by decide +kernel
theorem dX7_carryOutOrder_4 : decode cX7_carryOutOrder 4 = .ok (.getfield 231, 3) := by decide +kernel
theorem dX7_carryOutOrder_7 : decode cX7_carryOutOrder 7 = .ok (.tableswitch 219 98 116 #[165, 219, 204, 219, 219, 219, 219, 219, 219, 219, 219, 219, 219, 219, 112, 219, 89, 188, 135], 89) := by decide +kernel
theorem dX7_carryOutOrder_96 : decode cX7_carryOutOrder 96 = .ok (.aload_n 0, 1) := by decide +kernel
theorem dX7_carryOutOrder_97 : decode cX7_carryOutOrder 97 = .ok (.getfield 10, 3) := by decide +kernel
theorem dX7_carryOutOrder_100 : decode cX7_carryOutOrder 100 = .ok (.aload_n 0, 1) := by decide +kernel
theorem dX7_carryOutOrder_101 : decode cX7_carryOutOrder 101 = .ok (.getfield 26, 3) := by decide +kernel
theorem dX7_carryOutOrder_104 : decode cX7_carryOutOrder 104 = .ok (.getfield 235, 3) := by decide +kernel
theorem dX7_carryOutOrder_107 : decode cX7_carryOutOrder 107 = .ok (.aload_n 0, 1) := by decide +kernel
theorem dX7_carryOutOrder_108 : decode cX7_carryOutOrder 108 = .ok (.getfield 26, 3) := by decide +kernel
theorem dX7_carryOutOrder_111 : decode cX7_carryOutOrder 111 = .ok (.getfield 238, 3) := by decide +kernel
theorem dX7_carryOutOrder_114 : decode cX7_carryOutOrder 114 = .ok (.invokevirtual 58, 3) := by decide +kernel
theorem dX7_carryOutOrder_117 : decode cX7_carryOutOrder 117 = .ok (.i2l, 1) := by decide +kernel
theorem dX7_carryOutOrder_118 : decode cX7_carryOutOrder 118 = .ok (.lreturn, 1) := by decide +kernel
theorem dX7_carryOutOrder_119 : decode cX7_carryOutOrder 119 = .ok (.aload_n 0, 1) := by decide +kernel
theorem dX7_carryOutOrder_120 : decode cX7_carryOutOrder 120 = .ok (.getfield 10, 3) := by decide +kernel
theorem dX7_carryOutOrder_123 : decode cX7_carryOutOrder 123 = .ok (.aload_n 0, 1) := by decide +kernel
theorem dX7_carryOutOrder_124 : decode cX7_carryOutOrder 124 = .ok (.getfield 26, 3) := by decide +kernel
theorem dX7_carryOutOrder_127 : decode cX7_carryOutOrder 127 = .ok (.getfield 235, 3) := by decide +kernel
theorem dX7_carryOutOrder_130 : decode cX7_carryOutOrder 130 = .ok (.aload_n 0, 1) := by decide +kernel
theorem dX7_carryOutOrder_131 : decode cX7_carryOutOrder 131 = .ok (.getfield 26, 3) := by decide +kernel
theorem dX7_carryOutOrder_134 : decode cX7_carryOutOrder 134 = .ok (.getfield 238, 3) := by decide +kernel
theorem dX7_carryOutOrder_137 : decode cX7_carryOutOrder 137 = .ok (.invokevirtual 62, 3) := by decide +kernel
theorem dX7_carryOutOrder_140 : decode cX7_carryOutOrder 140 = .ok (.i2l, 1) := by decide +kernel
theorem dX7_carryOutOrder_141 : decode cX7_carryOutOrder 141 = .ok (.lreturn, 1) := by decide +kernel
theorem dX7_carryOutOrder_142 : decode cX7_carryOutOrder 142 = .ok (.aload_n 0, 1) := by decide +kernel
theorem dX7_carryOutOrder_143 : decode cX7_carryOutOrder 143 = .ok (.getfield 10, 3) := by decide +kernel
theorem dX7_carryOutOrder_146 : decode cX7_carryOutOrder 146 = .ok (.aload_n 0, 1) := by decide +kernel
theorem dX7_carryOutOrder_147 : decode cX7_carryOutOrder 147 = .ok (.getfield 26, 3) := by decide +kernel
theorem dX7_carryOutOrder_150 : decode cX7_carryOutOrder 150 = .ok (.getfield 235, 3) := by decide +kernel
theorem dX7_carryOutOrder_153 : decode cX7_carryOutOrder 153 = .ok (.aload_n 0, 1) := by decide +kernel
theorem dX7_carryOutOrder_154 : decode cX7_carryOutOrder 154 = .ok (.getfield 26, 3) := by decide +kernel
theorem dX7_carryOutOrder_157 : decode cX7_carryOutOrder 157 = .ok (.getfield 238, 3) := by decide +kernel
theorem dX7_carryOutOrder_160 : decode cX7_carryOutOrder 160 = .ok (.aload_n 0, 1) := by decide +kernel
theorem dX7_carryOutOrder_161 : decode cX7_carryOutOrder 161 = .ok (.getfield 26, 3) := by decide +kernel
theorem dX7_carryOutOrder_164 : decode cX7_carryOutOrder 164 = .ok (.getfield 241, 3) := by decide +kernel
theorem dX7_carryOutOrder_167 : decode cX7_carryOutOrder 167 = .ok (.invokevirtual 65, 3) := by decide +kernel
theorem dX7_carryOutOrder_170 : decode cX7_carryOutOrder 170 = .ok (.i2l, 1) := by decide +kernel
theorem dX7_carryOutOrder_171 : decode cX7_carryOutOrder 171 = .ok (.lreturn, 1) := by decide +kernel
theorem dX7_carryOutOrder_172 : decode cX7_carryOutOrder 172 = .ok (.aload_n 0, 1) := by decide +kernel
theorem dX7_carryOutOrder_173 : decode cX7_carryOutOrder 173 = .ok (.getfield 10, 3) := by decide +kernel
theorem dX7_carryOutOrder_176 : decode cX7_carryOutOrder 176 = .ok (.aload_n 0, 1) := by decide +kernel
