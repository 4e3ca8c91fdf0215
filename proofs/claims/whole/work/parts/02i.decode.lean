theorem dX8_bill_2 : decode cX8_bill 2 = .ok (.iload_n 2, 1) := by decide +kernel
theorem dX8_bill_3 : decode cX8_bill 3 = .ok (.invokevirtual 129, 3) := by decide +kernel
theorem dX8_bill_6 : decode cX8_bill 6 = .ok (.istore_n 3, 1) := by decide +kernel
theorem dX8_bill_7 : decode cX8_bill 7 = .ok (.iload_n 3, 1) := by decide +kernel
theorem dX8_bill_8 : decode cX8_bill 8 = .ok (.ifCond .ge 5, 3) := by decide +kernel
theorem dX8_bill_11 : decode cX8_bill 11 = .ok (.iload_n 3, 1) := by decide +kernel
theorem dX8_bill_12 : decode cX8_bill 12 = .ok (.ireturn, 1) := by decide +kernel
theorem dX8_bill_13 : decode cX8_bill 13 = .ok (.aload_n 0, 1) := by decide +kernel
theorem dX8_bill_14 : decode cX8_bill 14 = .ok (.invokevirtual 72, 3) := by decide +kernel
theorem dX8_bill_17 : decode cX8_bill 17 = .ok (.aload_n 0, 1) := by decide +kernel
theorem dX8_bill_18 : decode cX8_bill 18 = .ok (.iload_n 1, 1) := by decide +kernel
theorem dX8_bill_19 : decode cX8_bill 19 = .ok (.iload_n 2, 1) := by decide +kernel
theorem dX8_bill_20 : decode cX8_bill 20 = .ok (.invokevirtual 132, 3) := by decide +kernel
theorem dX8_bill_23 : decode cX8_bill 23 = .ok (.ireturn, 1) := by decide +kernel
theorem dX8_whyNotSettled_0 : decode cX8_whyNotSettled 0 = .ok (.aload_n 0, 1) := by decide +kernel
theorem dX8_whyNotSettled_1 : decode cX8_whyNotSettled 1 = .ok (.iload_n 1, 1) := by decide +kernel
theorem dX8_whyNotSettled_2 : decode cX8_whyNotSettled 2 = .ok (.invokevirtual 135, 3) := by decide +kernel
theorem dX8_whyNotSettled_5 : decode cX8_whyNotSettled 5 = .ok (.istore_n 2, 1) := by decide +kernel
theorem dX8_whyNotSettled_6 : decode cX8_whyNotSettled 6 = .ok (.iload_n 2, 1) := by decide +kernel
theorem dX8_whyNotSettled_7 : decode cX8_whyNotSettled 7 = .ok (.bipush (-6), 2) := by decide +kernel
theorem dX8_whyNotSettled_9 : decode cX8_whyNotSettled 9 = .ok (.if_icmp .ne 7, 3) := by decide +kernel
theorem dX8_whyNotSettled_12 : decode cX8_whyNotSettled 12 = .ok (.iconst (-1), 1) := by decide +kernel
theorem dX8_whyNotSettled_13 : decode cX8_whyNotSettled 13 = .ok (.goto 26, 3) := by decide +kernel
theorem dX8_whyNotSettled_16 : decode cX8_whyNotSettled 16 = .ok (.aload_n 0, 1) := by decide +kernel
theorem dX8_whyNotSettled_17 : decode cX8_whyNotSettled 17 = .ok (.aload_n 0, 1) := by decide +kernel
theorem dX8_whyNotSettled_18 : decode cX8_whyNotSettled 18 = .ok (.aload_n 0, 1) := by decide +kernel
theorem dX8_whyNotSettled_19 : decode cX8_whyNotSettled 19 = .ok (.iload_n 2, 1) := by decide +kernel
theorem dX8_whyNotSettled_20 : decode cX8_whyNotSettled 20 = .ok (.iconst 1, 1) := by decide +kernel
theorem dX8_whyNotSettled_21 : decode cX8_whyNotSettled 21 = .ok (.invokevirtual 48, 3) := by decide +kernel
theorem dX8_whyNotSettled_24 : decode cX8_whyNotSettled 24 = .ok (.invokevirtual 75, 3) := by decide +kernel
theorem dX8_whyNotSettled_27 : decode cX8_whyNotSettled 27 = .ok (.invokevirtual 103, 3) := by decide +kernel
theorem dX8_whyNotSettled_30 : decode cX8_whyNotSettled 30 = .ok (.ifCond .ne 8, 3) := by decide +kernel
theorem dX8_whyNotSettled_33 : decode cX8_whyNotSettled 33 = .ok (.bipush (-3), 2) := by decide +kernel
theorem dX8_whyNotSettled_35 : decode cX8_whyNotSettled 35 = .ok (.goto 4, 3) := by decide +kernel
theorem dX8_whyNotSettled_38 : decode cX8_whyNotSettled 38 = .ok (.iconst 0, 1) := by decide +kernel
theorem dX8_whyNotSettled_39 : decode cX8_whyNotSettled 39 = .ok (.ireturn, 1) := by decide +kernel
theorem dX8_settles_0 : decode cX8_settles 0 = .ok (.aload_n 0, 1) := by decide +kernel
theorem dX8_settles_1 : decode cX8_settles 1 = .ok (.iload_n 1, 1) := by decide +kernel
theorem dX8_settles_2 : decode cX8_settles 2 = .ok (.invokevirtual 135, 3) := by decide +kernel
theorem dX8_settles_5 : decode cX8_settles 5 = .ok (.istore_n 2, 1) := by decide +kernel
theorem dX8_settles_6 : decode cX8_settles 6 = .ok (.aload_n 0, 1) := by decide +kernel
theorem dX8_settles_7 : decode cX8_settles 7 = .ok (.aload_n 0, 1) := by decide +kernel
theorem dX8_settles_8 : decode cX8_settles 8 = .ok (.iload_n 2, 1) := by decide +kernel
theorem dX8_settles_9 : decode cX8_settles 9 = .ok (.iconst 1, 1) := by decide +kernel
theorem dX8_settles_10 : decode cX8_settles 10 = .ok (.invokevirtual 48, 3) := by decide +kernel
theorem dX8_settles_13 : decode cX8_settles 13 = .ok (.invokevirtual 75, 3) := by decide +kernel
theorem dX8_settles_16 : decode cX8_settles 16 = .ok (.istore_n 3, 1) := by decide +kernel
theorem dX8_settles_17 : decode cX8_settles 17 = .ok (.aload_n 0, 1) := by decide +kernel
theorem dX8_settles_18 : decode cX8_settles 18 = .ok (.iload_n 2, 1) := by decide +kernel
theorem dX8_settles_19 : decode cX8_settles 19 = .ok (.iconst 2, 1) := by decide +kernel
theorem dX8_settles_20 : decode cX8_settles 20 = .ok (.invokevirtual 48, 3) := by decide +kernel
theorem dX8_settles_23 : decode cX8_settles 23 = .ok (.aload_n 0, 1) := by decide +kernel
theorem dX8_settles_24 : decode cX8_settles 24 = .ok (.iload_n 3, 1) := by decide +kernel
theorem dX8_settles_25 : decode cX8_settles 25 = .ok (.invokevirtual 103, 3) := by decide +kernel
theorem dX8_settles_28 : decode cX8_settles 28 = .ok (.if_icmp .ge 12, 3) := by decide +kernel
theorem dX8_settles_31 : decode cX8_settles 31 = .ok (.aload_n 0, 1) := by decide +kernel
theorem dX8_settles_32 : decode cX8_settles 32 = .ok (.iload_n 2, 1) := by decide +kernel
theorem dX8_settles_33 : decode cX8_settles 33 = .ok (.iconst 2, 1) := by decide +kernel
theorem dX8_settles_34 : decode cX8_settles 34 = .ok (.invokevirtual 48, 3) := by decide +kernel
theorem dX8_settles_37 : decode cX8_settles 37 = .ok (.goto 8, 3) := by decide +kernel
theorem dX8_settles_40 : decode cX8_settles 40 = .ok (.aload_n 0, 1) := by decide +kernel
theorem dX8_settles_41 : decode cX8_settles 41 = .ok (.iload_n 3, 1) := by decide +kernel
theorem dX8_settles_42 : decode cX8_settles 42 = .ok (.invokevirtual 103, 3) := by decide +kernel
theorem dX8_settles_45 : decode cX8_settles 45 = .ok (.istore 4, 2) := by decide +kernel
theorem dX8_settles_47 : decode cX8_settles 47 = .ok (.aload_n 0, 1) := by decide +kernel
theorem dX8_settles_48 : decode cX8_settles 48 = .ok (.iload_n 3, 1) := by decide +kernel
theorem dX8_settles_49 : decode cX8_settles 49 = .ok (.iload 4, 2) := by decide +kernel
theorem dX8_settles_51 : decode cX8_settles 51 = .ok (.ineg, 1) := by decide +kernel
theorem dX8_settles_52 : decode cX8_settles 52 = .ok (.invokevirtual 90, 3) := by decide +kernel
theorem dX8_settles_55 : decode cX8_settles 55 = .ok (.pop, 1) := by decide +kernel
theorem dX8_settles_56 : decode cX8_settles 56 = .ok (.aload_n 0, 1) := by decide +kernel
theorem dX8_settles_57 : decode cX8_settles 57 = .ok (.getfield 13, 3) := by decide +kernel
theorem dX8_settles_60 : decode cX8_settles 60 = .ok (.bipush 12, 2) := by decide +kernel
theorem dX8_settles_62 : decode cX8_settles 62 = .ok (.dup2, 1) := by decide +kernel
theorem dX8_settles_63 : decode cX8_settles 63 = .ok (.laload, 1) := by decide +kernel
theorem dX8_settles_64 : decode cX8_settles 64 = .ok (.iload 4, 2) := by decide +kernel
theorem dX8_settles_66 : decode cX8_settles 66 = .ok (.i2l, 1) := by decide +kernel
theorem dX8_settles_67 : decode cX8_settles 67 = .ok (.ladd, 1) := by decide +kernel
theorem dX8_settles_68 : decode cX8_settles 68 = .ok (.lastore, 1) := by decide +kernel
theorem dX8_settles_69 : decode cX8_settles 69 = .ok (.aload_n 0, 1) := by decide +kernel
theorem dX8_settles_70 : decode cX8_settles 70 = .ok (.getfield 7, 3) := by decide +kernel
theorem dX8_settles_73 : decode cX8_settles 73 = .ok (.bipush 108, 2) := by decide +kernel
theorem dX8_settles_75 : decode cX8_settles 75 = .ok (.iconst 4, 1) := by decide +kernel
theorem dX8_settles_76 : decode cX8_settles 76 = .ok (.iload_n 2, 1) := by decide +kernel
theorem dX8_settles_77 : decode cX8_settles 77 = .ok (.imul, 1) := by decide +kernel
theorem dX8_settles_78 : decode cX8_settles 78 = .ok (.iadd, 1) := by decide +kernel
theorem dX8_settles_79 : decode cX8_settles 79 = .ok (.iconst 2, 1) := by decide +kernel
theorem dX8_settles_80 : decode cX8_settles 80 = .ok (.iadd, 1) := by decide +kernel
theorem dX8_settles_81 : decode cX8_settles 81 = .ok (.dup2, 1) := by decide +kernel
theorem dX8_settles_82 : decode cX8_settles 82 = .ok (.iaload, 1) := by decide +kernel
theorem dX8_settles_83 : decode cX8_settles 83 = .ok (.iload 4, 2) := by decide +kernel
theorem dX8_settles_85 : decode cX8_settles 85 = .ok (.isub, 1) := by decide +kernel
theorem dX8_settles_86 : decode cX8_settles 86 = .ok (.iastore, 1) := by decide +kernel
theorem dX8_settles_87 : decode cX8_settles 87 = .ok (.aload_n 0, 1) := by decide +kernel
theorem dX8_settles_88 : decode cX8_settles 88 = .ok (.getfield 7, 3) := by decide +kernel
theorem dX8_settles_91 : decode cX8_settles 91 = .ok (.bipush 108, 2) := by decide +kernel
theorem dX8_settles_93 : decode cX8_settles 93 = .ok (.iconst 4, 1) := by decide +kernel
theorem dX8_settles_94 : decode cX8_settles 94 = .ok (.iload_n 2, 1) := by decide +kernel
theorem dX8_settles_95 : decode cX8_settles 95 = .ok (.imul, 1) := by decide +kernel
theorem dX8_settles_96 : decode cX8_settles 96 = .ok (.iadd, 1) := by decide +kernel
theorem dX8_settles_97 : decode cX8_settles 97 = .ok (.iconst 3, 1) := by decide +kernel
theorem dX8_settles_98 : decode cX8_settles 98 = .ok (.iadd, 1) := by decide +kernel
theorem dX8_settles_99 : decode cX8_settles 99 = .ok (.dup2, 1) := by decide +kernel
theorem dX8_settles_100 : decode cX8_settles 100 = .ok (.iaload, 1) := by decide +kernel
theorem dX8_settles_101 : decode cX8_settles 101 = .ok (.iload 4, 2) := by decide +kernel
theorem dX8_settles_103 : decode cX8_settles 103 = .ok (.iadd, 1) := by decide +kernel
theorem dX8_settles_104 : decode cX8_settles 104 = .ok (.iastore, 1) := by decide +kernel
theorem dX8_settles_105 : decode cX8_settles 105 = .ok (.aload_n 0, 1) := by decide +kernel
theorem dX8_settles_106 : decode cX8_settles 106 = .ok (.iconst 4, 1) := by decide +kernel
theorem dX8_settles_107 : decode cX8_settles 107 = .ok (.aload_n 0, 1) := by decide +kernel
theorem dX8_settles_108 : decode cX8_settles 108 = .ok (.iload_n 3, 1) := by decide +kernel
theorem dX8_settles_109 : decode cX8_settles 109 = .ok (.iconst 0, 1) := by decide +kernel
theorem dX8_settles_110 : decode cX8_settles 110 = .ok (.invokevirtual 34, 3) := by decide +kernel
theorem dX8_settles_113 : decode cX8_settles 113 = .ok (.iconst 0, 1) := by decide +kernel
theorem dX8_settles_114 : decode cX8_settles 114 = .ok (.iload 4, 2) := by decide +kernel
theorem dX8_settles_116 : decode cX8_settles 116 = .ok (.invokevirtual 93, 3) := by decide +kernel
theorem dX8_settles_119 : decode cX8_settles 119 = .ok (.pop, 1) := by decide +kernel
theorem dX8_settles_120 : decode cX8_settles 120 = .ok (.aload_n 0, 1) := by decide +kernel
theorem dX8_settles_121 : decode cX8_settles 121 = .ok (.iload_n 2, 1) := by decide +kernel
theorem dX8_settles_122 : decode cX8_settles 122 = .ok (.iconst 2, 1) := by decide +kernel
theorem dX8_settles_123 : decode cX8_settles 123 = .ok (.invokevirtual 48, 3) := by decide +kernel
theorem dX8_settles_126 : decode cX8_settles 126 = .ok (.ifCond .ne 28, 3) := by decide +kernel
theorem dX8_settles_129 : decode cX8_settles 129 = .ok (.aload_n 0, 1) := by decide +kernel
theorem dX8_settles_130 : decode cX8_settles 130 = .ok (.bipush 108, 2) := by decide +kernel
theorem dX8_settles_132 : decode cX8_settles 132 = .ok (.iload_n 2, 1) := by decide +kernel
theorem dX8_settles_133 : decode cX8_settles 133 = .ok (.aload_n 0, 1) := by decide +kernel
theorem dX8_settles_134 : decode cX8_settles 134 = .ok (.getfield 7, 3) := by decide +kernel
theorem dX8_settles_137 : decode cX8_settles 137 = .ok (.bipush 7, 2) := by decide +kernel
theorem dX8_settles_139 : decode cX8_settles 139 = .ok (.iaload, 1) := by decide +kernel
theorem dX8_settles_140 : decode cX8_settles 140 = .ok (.invokevirtual 119, 3) := by decide +kernel
theorem dX8_settles_143 : decode cX8_settles 143 = .ok (.aload_n 0, 1) := by decide +kernel
theorem dX8_settles_144 : decode cX8_settles 144 = .ok (.getfield 7, 3) := by decide +kernel
theorem dX8_settles_147 : decode cX8_settles 147 = .ok (.bipush 7, 2) := by decide +kernel
theorem dX8_settles_149 : decode cX8_settles 149 = .ok (.dup2, 1) := by decide +kernel
theorem dX8_settles_150 : decode cX8_settles 150 = .ok (.iaload, 1) := by decide +kernel
theorem dX8_settles_151 : decode cX8_settles 151 = .ok (.iconst 1, 1) := by decide +kernel
theorem dX8_settles_152 : decode cX8_settles 152 = .ok (.isub, 1) := by decide +kernel
theorem dX8_settles_153 : decode cX8_settles 153 = .ok (.iastore, 1) := by decide +kernel
theorem dX8_settles_154 : decode cX8_settles 154 = .ok (.iload 4, 2) := by decide +kernel
theorem dX8_settles_156 : decode cX8_settles 156 = .ok (.ireturn, 1) := by decide +kernel
theorem dX8_settle_0 : decode cX8_settle 0 = .ok (.aload_n 0, 1) := by decide +kernel
theorem dX8_settle_1 : decode cX8_settle 1 = .ok (.iload_n 1, 1) := by decide +kernel
theorem dX8_settle_2 : decode cX8_settle 2 = .ok (.invokevirtual 138, 3) := by decide +kernel
theorem dX8_settle_5 : decode cX8_settle 5 = .ok (.istore_n 2, 1) := by decide +kernel
theorem dX8_settle_6 : decode cX8_settle 6 = .ok (.iload_n 2, 1) := by decide +kernel
theorem dX8_settle_7 : decode cX8_settle 7 = .ok (.ifCond .ge 5, 3) := by decide +kernel
theorem dX8_settle_10 : decode cX8_settle 10 = .ok (.iload_n 2, 1) := by decide +kernel
theorem dX8_settle_11 : decode cX8_settle 11 = .ok (.ireturn, 1) := by decide +kernel
theorem dX8_settle_12 : decode cX8_settle 12 = .ok (.aload_n 0, 1) := by decide +kernel
theorem dX8_settle_13 : decode cX8_settle 13 = .ok (.invokevirtual 72, 3) := by decide +kernel
theorem dX8_settle_16 : decode cX8_settle 16 = .ok (.aload_n 0, 1) := by decide +kernel
theorem dX8_settle_17 : decode cX8_settle 17 = .ok (.iload_n 1, 1) := by decide +kernel
theorem dX8_settle_18 : decode cX8_settle 18 = .ok (.invokevirtual 141, 3) := by decide +kernel
theorem dX8_settle_21 : decode cX8_settle 21 = .ok (.ireturn, 1) := by decide +kernel
theorem dX8_dayEnds_0 : decode cX8_dayEnds 0 = .ok (.aload_n 0, 1) := by decide +kernel
theorem dX8_dayEnds_1 : decode cX8_dayEnds 1 = .ok (.getfield 144, 3) := by decide +kernel
theorem dX8_dayEnds_4 : decode cX8_dayEnds 4 = .ok (.aload_n 0, 1) := by decide +kernel
theorem dX8_dayEnds_5 : decode cX8_dayEnds 5 = .ok (.getfield 7, 3) := by decide +kernel
theorem dX8_dayEnds_8 : decode cX8_dayEnds 8 = .ok (.iconst 1, 1) := by decide +kernel
theorem dX8_dayEnds_9 : decode cX8_dayEnds 9 = .ok (.iaload, 1) := by decide +kernel
theorem dX8_dayEnds_10 : decode cX8_dayEnds 10 = .ok (.if_icmp .ge 11, 3) := by decide +kernel
theorem dX8_dayEnds_13 : decode cX8_dayEnds 13 = .ok (.aload_n 0, 1) := by decide +kernel
theorem dX8_dayEnds_14 : decode cX8_dayEnds 14 = .ok (.getfield 144, 3) := by decide +kernel
theorem dX8_dayEnds_17 : decode cX8_dayEnds 17 = .ok (.i2l, 1) := by decide +kernel
theorem dX8_dayEnds_18 : decode cX8_dayEnds 18 = .ok (.goto 10, 3) := by decide +kernel
theorem dX8_dayEnds_21 : decode cX8_dayEnds 21 = .ok (.aload_n 0, 1) := by decide +kernel
theorem dX8_dayEnds_22 : decode cX8_dayEnds 22 = .ok (.getfield 7, 3) := by decide +kernel
theorem dX8_dayEnds_25 : decode cX8_dayEnds 25 = .ok (.iconst 1, 1) := by decide +kernel
theorem dX8_dayEnds_26 : decode cX8_dayEnds 26 = .ok (.iaload, 1) := by decide +kernel
theorem dX8_dayEnds_27 : decode cX8_dayEnds 27 = .ok (.i2l, 1) := by decide +kernel
theorem dX8_dayEnds_28 : decode cX8_dayEnds 28 = .ok (.lstore_n 2, 1) := by decide +kernel
theorem dX8_dayEnds_29 : decode cX8_dayEnds 29 = .ok (.aload_n 0, 1) := by decide +kernel
theorem dX8_dayEnds_30 : decode cX8_dayEnds 30 = .ok (.dup, 1) := by decide +kernel
theorem dX8_dayEnds_31 : decode cX8_dayEnds 31 = .ok (.getfield 147, 3) := by decide +kernel
theorem dX8_dayEnds_34 : decode cX8_dayEnds 34 = .ok (.aload_n 0, 1) := by decide +kernel
theorem dX8_dayEnds_35 : decode cX8_dayEnds 35 = .ok (.getfield 7, 3) := by decide +kernel
theorem dX8_dayEnds_38 : decode cX8_dayEnds 38 = .ok (.iconst 2, 1) := by decide +kernel
theorem dX8_dayEnds_39 : decode cX8_dayEnds 39 = .ok (.iaload, 1) := by decide +kernel
theorem dX8_dayEnds_40 : decode cX8_dayEnds 40 = .ok (.i2l, 1) := by decide +kernel
theorem dX8_dayEnds_41 : decode cX8_dayEnds 41 = .ok (.lload_n 2, 1) := by decide +kernel
theorem dX8_dayEnds_42 : decode cX8_dayEnds 42 = .ok (.lmul, 1) := by decide +kernel
theorem dX8_dayEnds_43 : decode cX8_dayEnds 43 = .ok (.aload_n 0, 1) := by decide +kernel
theorem dX8_dayEnds_44 : decode cX8_dayEnds 44 = .ok (.getfield 7, 3) := by decide +kernel
theorem dX8_dayEnds_47 : decode cX8_dayEnds 47 = .ok (.iconst 3, 1) := by decide +kernel
theorem dX8_dayEnds_48 : decode cX8_dayEnds 48 = .ok (.iaload, 1) := by decide +kernel
theorem dX8_dayEnds_49 : decode cX8_dayEnds 49 = .ok (.i2l, 1) := by decide +kernel
theorem dX8_dayEnds_50 : decode cX8_dayEnds 50 = .ok (.aload_n 0, 1) := by decide +kernel
theorem dX8_dayEnds_51 : decode cX8_dayEnds 51 = .ok (.getfield 144, 3) := by decide +kernel
theorem dX8_dayEnds_54 : decode cX8_dayEnds 54 = .ok (.i2l, 1) := by decide +kernel
theorem dX8_dayEnds_55 : decode cX8_dayEnds 55 = .ok (.lload_n 2, 1) := by decide +kernel
theorem dX8_dayEnds_56 : decode cX8_dayEnds 56 = .ok (.lsub, 1) := by decide +kernel
theorem dX8_dayEnds_57 : decode cX8_dayEnds 57 = .ok (.lmul, 1) := by decide +kernel
theorem dX8_dayEnds_58 : decode cX8_dayEnds 58 = .ok (.ladd, 1) := by decide +kernel
theorem dX8_dayEnds_59 : decode cX8_dayEnds 59 = .ok (.ladd, 1) := by decide +kernel
theorem dX8_dayEnds_60 : decode cX8_dayEnds 60 = .ok (.putfield 147, 3) := by decide +kernel
theorem dX8_dayEnds_63 : decode cX8_dayEnds 63 = .ok (.iload_n 1, 1) := by decide +kernel
theorem dX8_dayEnds_64 : decode cX8_dayEnds 64 = .ok (.bipush 30, 2) := by decide +kernel
theorem dX8_dayEnds_66 : decode cX8_dayEnds 66 = .ok (.irem, 1) := by decide +kernel
theorem dX8_dayEnds_67 : decode cX8_dayEnds 67 = .ok (.ifCond .eq 5, 3) := by decide +kernel
theorem dX8_dayEnds_70 : decode cX8_dayEnds 70 = .ok (.iconst 0, 1) := by decide +kernel
theorem dX8_dayEnds_71 : decode cX8_dayEnds 71 = .ok (.ireturn, 1) := by decide +kernel
theorem dX8_dayEnds_72 : decode cX8_dayEnds 72 = .ok (.ldc 71, 2) := by decide +kernel
theorem dX8_dayEnds_74 : decode cX8_dayEnds 74 = .ok (.aload_n 0, 1) := by decide +kernel
theorem dX8_dayEnds_75 : decode cX8_dayEnds 75 = .ok (.getfield 144, 3) := by decide +kernel
theorem dX8_dayEnds_78 : decode cX8_dayEnds 78 = .ok (.isub, 1) := by decide +kernel
theorem dX8_dayEnds_79 : decode cX8_dayEnds 79 = .ok (.i2l, 1) := by decide +kernel
theorem dX8_dayEnds_80 : decode cX8_dayEnds 80 = .ok (.lstore 4, 2) := by decide +kernel
theorem dX8_dayEnds_82 : decode cX8_dayEnds 82 = .ok (.aload_n 0, 1) := by decide +kernel
theorem dX8_dayEnds_83 : decode cX8_dayEnds 83 = .ok (.getfield 147, 3) := by decide +kernel
theorem dX8_dayEnds_86 : decode cX8_dayEnds 86 = .ok (.ldc2_w 151, 3) := by decide +kernel
theorem dX8_dayEnds_89 : decode cX8_dayEnds 89 = .ok (.ldiv, 1) := by decide +kernel
theorem dX8_dayEnds_90 : decode cX8_dayEnds 90 = .ok (.lload 4, 2) := by decide +kernel
theorem dX8_dayEnds_92 : decode cX8_dayEnds 92 = .ok (.lcmp, 1) := by decide +kernel
theorem dX8_dayEnds_93 : decode cX8_dayEnds 93 = .ok (.ifCond .ge 14, 3) := by decide +kernel
theorem dX8_dayEnds_96 : decode cX8_dayEnds 96 = .ok (.aload_n 0, 1) := by decide +kernel
theorem dX8_dayEnds_97 : decode cX8_dayEnds 97 = .ok (.getfield 147, 3) := by decide +kernel
theorem dX8_dayEnds_100 : decode cX8_dayEnds 100 = .ok (.ldc2_w 151, 3) := by decide +kernel
theorem dX8_dayEnds_103 : decode cX8_dayEnds 103 = .ok (.ldiv, 1) := by decide +kernel
theorem dX8_dayEnds_104 : decode cX8_dayEnds 104 = .ok (.goto 5, 3) := by decide +kernel
theorem dX8_dayEnds_107 : decode cX8_dayEnds 107 = .ok (.lload 4, 2) := by decide +kernel
theorem dX8_dayEnds_109 : decode cX8_dayEnds 109 = .ok (.lstore 6, 2) := by decide +kernel
theorem dX8_dayEnds_111 : decode cX8_dayEnds 111 = .ok (.lload 6, 2) := by decide +kernel
theorem dX8_dayEnds_113 : decode cX8_dayEnds 113 = .ok (.lconst 0, 1) := by decide +kernel
theorem dX8_dayEnds_114 : decode cX8_dayEnds 114 = .ok (.lcmp, 1) := by decide +kernel
theorem dX8_dayEnds_115 : decode cX8_dayEnds 115 = .ok (.ifCond .eq 16, 3) := by decide +kernel
theorem dX8_dayEnds_118 : decode cX8_dayEnds 118 = .ok (.lload 6, 2) := by decide +kernel
theorem dX8_dayEnds_120 : decode cX8_dayEnds 120 = .ok (.aload_n 0, 1) := by decide +kernel
theorem dX8_dayEnds_121 : decode cX8_dayEnds 121 = .ok (.getfield 7, 3) := by decide +kernel
theorem dX8_dayEnds_124 : decode cX8_dayEnds 124 = .ok (.iconst 4, 1) := by decide +kernel
theorem dX8_dayEnds_125 : decode cX8_dayEnds 125 = .ok (.iaload, 1) := by decide +kernel
theorem dX8_dayEnds_126 : decode cX8_dayEnds 126 = .ok (.i2l, 1) := by decide +kernel
theorem dX8_dayEnds_127 : decode cX8_dayEnds 127 = .ok (.lcmp, 1) := by decide +kernel
theorem dX8_dayEnds_128 : decode cX8_dayEnds 128 = .ok (.ifCond .ge 5, 3) := by decide +kernel
theorem dX8_dayEnds_131 : decode cX8_dayEnds 131 = .ok (.iconst 0, 1) := by decide +kernel
theorem dX8_dayEnds_132 : decode cX8_dayEnds 132 = .ok (.ireturn, 1) := by decide +kernel
theorem dX8_dayEnds_133 : decode cX8_dayEnds 133 = .ok (.aload_n 0, 1) := by decide +kernel
theorem dX8_dayEnds_134 : decode cX8_dayEnds 134 = .ok (.dup, 1) := by decide +kernel
theorem dX8_dayEnds_135 : decode cX8_dayEnds 135 = .ok (.getfield 144, 3) := by decide +kernel
theorem dX8_dayEnds_138 : decode cX8_dayEnds 138 = .ok (.lload 6, 2) := by decide +kernel
theorem dX8_dayEnds_140 : decode cX8_dayEnds 140 = .ok (.l2i, 1) := by decide +kernel
theorem dX8_dayEnds_141 : decode cX8_dayEnds 141 = .ok (.iadd, 1) := by decide +kernel
theorem dX8_dayEnds_142 : decode cX8_dayEnds 142 = .ok (.putfield 144, 3) := by decide +kernel
theorem dX8_dayEnds_145 : decode cX8_dayEnds 145 = .ok (.aload_n 0, 1) := by decide +kernel
theorem dX8_dayEnds_146 : decode cX8_dayEnds 146 = .ok (.dup, 1) := by decide +kernel
theorem dX8_dayEnds_147 : decode cX8_dayEnds 147 = .ok (.getfield 147, 3) := by decide +kernel
theorem dX8_dayEnds_150 : decode cX8_dayEnds 150 = .ok (.ldc2_w 151, 3) := by decide +kernel
theorem dX8_dayEnds_153 : decode cX8_dayEnds 153 = .ok (.lload 6, 2) := by decide +kernel
theorem dX8_dayEnds_155 : decode cX8_dayEnds 155 = .ok (.lmul, 1) := by decide +kernel
theorem dX8_dayEnds_156 : decode cX8_dayEnds 156 = .ok (.lsub, 1) := by decide +kernel
theorem dX8_dayEnds_157 : decode cX8_dayEnds 157 = .ok (.putfield 147, 3) := by decide +kernel
theorem dX8_dayEnds_160 : decode cX8_dayEnds 160 = .ok (.lload 6, 2) := by decide +kernel
theorem dX8_dayEnds_162 : decode cX8_dayEnds 162 = .ok (.l2i, 1) := by decide +kernel
theorem dX8_dayEnds_163 : decode cX8_dayEnds 163 = .ok (.ireturn, 1) := by decide +kernel
theorem dX8_thinks_0 : decode cX8_thinks 0 = .ok (.aload_n 0, 1) := by decide +kernel
theorem dX8_thinks_1 : decode cX8_thinks 1 = .ok (.aload_n 0, 1) := by decide +kernel
theorem dX8_thinks_2 : decode cX8_thinks 2 = .ok (.iload_n 1, 1) := by decide +kernel
theorem dX8_thinks_3 : decode cX8_thinks 3 = .ok (.iconst 1, 1) := by decide +kernel
theorem dX8_thinks_4 : decode cX8_thinks 4 = .ok (.invokevirtual 34, 3) := by decide +kernel
theorem dX8_thinks_7 : decode cX8_thinks 7 = .ok (.putfield 144, 3) := by decide +kernel
theorem dX8_thinks_10 : decode cX8_thinks 10 = .ok (.aload_n 0, 1) := by decide +kernel
theorem dX8_thinks_11 : decode cX8_thinks 11 = .ok (.aload_n 0, 1) := by decide +kernel
theorem dX8_thinks_12 : decode cX8_thinks 12 = .ok (.getfield 13, 3) := by decide +kernel
theorem dX8_thinks_15 : decode cX8_thinks 15 = .ok (.iload_n 1, 1) := by decide +kernel
theorem dX8_thinks_16 : decode cX8_thinks 16 = .ok (.laload, 1) := by decide +kernel
theorem dX8_thinks_17 : decode cX8_thinks 17 = .ok (.putfield 147, 3) := by decide +kernel
theorem dX8_thinks_20 : decode cX8_thinks 20 = .ok (.return_, 1) := by decide +kernel
theorem dX8_passesDay_0 : decode cX8_passesDay 0 = .ok (.lconst 0, 1) := by decide +kernel
theorem dX8_passesDay_1 : decode cX8_passesDay 1 = .ok (.lstore_n 1, 1) := by decide +kernel
theorem dX8_passesDay_2 : decode cX8_passesDay 2 = .ok (.aload_n 0, 1) := by decide +kernel
theorem dX8_passesDay_3 : decode cX8_passesDay 3 = .ok (.getfield 7, 3) := by decide +kernel
theorem dX8_passesDay_6 : decode cX8_passesDay 6 = .ok (.iconst 0, 1) := by decide +kernel
theorem dX8_passesDay_7 : decode cX8_passesDay 7 = .ok (.dup2, 1) := by decide +kernel
theorem dX8_passesDay_8 : decode cX8_passesDay 8 = .ok (.iaload, 1) := by decide +kernel
theorem dX8_passesDay_9 : decode cX8_passesDay 9 = .ok (.iconst 1, 1) := by decide +kernel
theorem dX8_passesDay_10 : decode cX8_passesDay 10 = .ok (.iadd, 1) := by decide +kernel
theorem dX8_passesDay_11 : decode cX8_passesDay 11 = .ok (.iastore, 1) := by decide +kernel
theorem dX8_passesDay_12 : decode cX8_passesDay 12 = .ok (.iconst 0, 1) := by decide +kernel
theorem dX8_passesDay_13 : decode cX8_passesDay 13 = .ok (.istore_n 3, 1) := by decide +kernel
theorem dX8_passesDay_14 : decode cX8_passesDay 14 = .ok (.iload_n 3, 1) := by decide +kernel
theorem dX8_passesDay_15 : decode cX8_passesDay 15 = .ok (.aload_n 0, 1) := by decide +kernel
theorem dX8_passesDay_16 : decode cX8_passesDay 16 = .ok (.getfield 7, 3) := by decide +kernel
theorem dX8_passesDay_19 : decode cX8_passesDay 19 = .ok (.iconst 5, 1) := by decide +kernel
theorem dX8_passesDay_20 : decode cX8_passesDay 20 = .ok (.iaload, 1) := by decide +kernel
theorem dX8_passesDay_21 : decode cX8_passesDay 21 = .ok (.if_icmp .ge 72, 3) := by decide +kernel
theorem dX8_passesDay_24 : decode cX8_passesDay 24 = .ok (.aload_n 0, 1) := by decide +kernel
theorem dX8_passesDay_25 : decode cX8_passesDay 25 = .ok (.iload_n 3, 1) := by decide +kernel
theorem dX8_passesDay_26 : decode cX8_passesDay 26 = .ok (.invokevirtual 153, 3) := by decide +kernel
theorem dX8_passesDay_29 : decode cX8_passesDay 29 = .ok (.aload_n 0, 1) := by decide +kernel
theorem dX8_passesDay_30 : decode cX8_passesDay 30 = .ok (.aload_n 0, 1) := by decide +kernel
theorem dX8_passesDay_31 : decode cX8_passesDay 31 = .ok (.getfield 7, 3) := by decide +kernel
theorem dX8_passesDay_34 : decode cX8_passesDay 34 = .ok (.iconst 0, 1) := by decide +kernel
theorem dX8_passesDay_35 : decode cX8_passesDay 35 = .ok (.iaload, 1) := by decide +kernel
theorem dX8_passesDay_36 : decode cX8_passesDay 36 = .ok (.invokevirtual 156, 3) := by decide +kernel
theorem dX8_passesDay_39 : decode cX8_passesDay 39 = .ok (.istore 4, 2) := by decide +kernel
theorem dX8_passesDay_41 : decode cX8_passesDay 41 = .ok (.aload_n 0, 1) := by decide +kernel
theorem dX8_passesDay_42 : decode cX8_passesDay 42 = .ok (.iload_n 3, 1) := by decide +kernel
theorem dX8_passesDay_43 : decode cX8_passesDay 43 = .ok (.iconst 1, 1) := by decide +kernel
theorem dX8_passesDay_44 : decode cX8_passesDay 44 = .ok (.aload_n 0, 1) := by decide +kernel
theorem dX8_passesDay_45 : decode cX8_passesDay 45 = .ok (.getfield 144, 3) := by decide +kernel
theorem dX8_passesDay_48 : decode cX8_passesDay 48 = .ok (.invokevirtual 63, 3) := by decide +kernel
theorem dX8_passesDay_51 : decode cX8_passesDay 51 = .ok (.aload_n 0, 1) := by decide +kernel
theorem dX8_passesDay_52 : decode cX8_passesDay 52 = .ok (.getfield 13, 3) := by decide +kernel
theorem dX8_passesDay_55 : decode cX8_passesDay 55 = .ok (.iload_n 3, 1) := by decide +kernel
theorem dX8_passesDay_56 : decode cX8_passesDay 56 = .ok (.aload_n 0, 1) := by decide +kernel
theorem dX8_passesDay_57 : decode cX8_passesDay 57 = .ok (.getfield 147, 3) := by decide +kernel
theorem dX8_passesDay_60 : decode cX8_passesDay 60 = .ok (.lastore, 1) := by decide +kernel
theorem dX8_passesDay_61 : decode cX8_passesDay 61 = .ok (.iload 4, 2) := by decide +kernel
theorem dX8_passesDay_63 : decode cX8_passesDay 63 = .ok (.ifCond .le 24, 3) := by decide +kernel
theorem dX8_passesDay_66 : decode cX8_passesDay 66 = .ok (.aload_n 0, 1) := by decide +kernel
theorem dX8_passesDay_67 : decode cX8_passesDay 67 = .ok (.iconst 5, 1) := by decide +kernel
theorem dX8_passesDay_68 : decode cX8_passesDay 68 = .ok (.aload_n 0, 1) := by decide +kernel
theorem dX8_passesDay_69 : decode cX8_passesDay 69 = .ok (.iload_n 3, 1) := by decide +kernel
theorem dX8_passesDay_70 : decode cX8_passesDay 70 = .ok (.iconst 0, 1) := by decide +kernel
theorem dX8_passesDay_71 : decode cX8_passesDay 71 = .ok (.invokevirtual 34, 3) := by decide +kernel
theorem dX8_passesDay_74 : decode cX8_passesDay 74 = .ok (.iconst 0, 1) := by decide +kernel
theorem dX8_passesDay_75 : decode cX8_passesDay 75 = .ok (.iload 4, 2) := by decide +kernel
theorem dX8_passesDay_77 : decode cX8_passesDay 77 = .ok (.invokevirtual 93, 3) := by decide +kernel
theorem dX8_passesDay_80 : decode cX8_passesDay 80 = .ok (.pop, 1) := by decide +kernel
theorem dX8_passesDay_81 : decode cX8_passesDay 81 = .ok (.lload_n 1, 1) := by decide +kernel
theorem dX8_passesDay_82 : decode cX8_passesDay 82 = .ok (.iload 4, 2) := by decide +kernel
theorem dX8_passesDay_84 : decode cX8_passesDay 84 = .ok (.i2l, 1) := by decide +kernel
theorem dX8_passesDay_85 : decode cX8_passesDay 85 = .ok (.ladd, 1) := by decide +kernel
theorem dX8_passesDay_86 : decode cX8_passesDay 86 = .ok (.lstore_n 1, 1) := by decide +kernel
theorem dX8_passesDay_87 : decode cX8_passesDay 87 = .ok (.iinc 3 1, 3) := by decide +kernel
theorem dX8_passesDay_90 : decode cX8_passesDay 90 = .ok (.goto (-76), 3) := by decide +kernel
theorem dX8_passesDay_93 : decode cX8_passesDay 93 = .ok (.aload_n 0, 1) := by decide +kernel
theorem dX8_passesDay_94 : decode cX8_passesDay 94 = .ok (.getfield 13, 3) := by decide +kernel
theorem dX8_passesDay_97 : decode cX8_passesDay 97 = .ok (.bipush 13, 2) := by decide +kernel
theorem dX8_passesDay_99 : decode cX8_passesDay 99 = .ok (.dup2, 1) := by decide +kernel
theorem dX8_passesDay_100 : decode cX8_passesDay 100 = .ok (.laload, 1) := by decide +kernel
theorem dX8_passesDay_101 : decode cX8_passesDay 101 = .ok (.lload_n 1, 1) := by decide +kernel
theorem dX8_passesDay_102 : decode cX8_passesDay 102 = .ok (.ladd, 1) := by decide +kernel
theorem dX8_passesDay_103 : decode cX8_passesDay 103 = .ok (.lastore, 1) := by decide +kernel
theorem dX8_passesDay_104 : decode cX8_passesDay 104 = .ok (.aload_n 0, 1) := by decide +kernel
theorem dX8_passesDay_105 : decode cX8_passesDay 105 = .ok (.getfield 7, 3) := by decide +kernel
theorem dX8_passesDay_108 : decode cX8_passesDay 108 = .ok (.bipush 6, 2) := by decide +kernel
theorem dX8_passesDay_110 : decode cX8_passesDay 110 = .ok (.iaload, 1) := by decide +kernel
theorem dX8_passesDay_111 : decode cX8_passesDay 111 = .ok (.iconst 1, 1) := by decide +kernel
theorem dX8_passesDay_112 : decode cX8_passesDay 112 = .ok (.isub, 1) := by decide +kernel
theorem dX8_passesDay_113 : decode cX8_passesDay 113 = .ok (.istore_n 3, 1) := by decide +kernel
theorem dX8_passesDay_114 : decode cX8_passesDay 114 = .ok (.iload_n 3, 1) := by decide +kernel
theorem dX8_passesDay_115 : decode cX8_passesDay 115 = .ok (.ifCond .lt 29, 3) := by decide +kernel
theorem dX8_passesDay_118 : decode cX8_passesDay 118 = .ok (.aload_n 0, 1) := by decide +kernel
theorem dX8_passesDay_119 : decode cX8_passesDay 119 = .ok (.getfield 7, 3) := by decide +kernel
theorem dX8_passesDay_122 : decode cX8_passesDay 122 = .ok (.iconst 0, 1) := by decide +kernel
theorem dX8_passesDay_123 : decode cX8_passesDay 123 = .ok (.iaload, 1) := by decide +kernel
theorem dX8_passesDay_124 : decode cX8_passesDay 124 = .ok (.aload_n 0, 1) := by decide +kernel
theorem dX8_passesDay_125 : decode cX8_passesDay 125 = .ok (.iload_n 3, 1) := by decide +kernel
theorem dX8_passesDay_126 : decode cX8_passesDay 126 = .ok (.iconst 3, 1) := by decide +kernel
theorem dX8_passesDay_127 : decode cX8_passesDay 127 = .ok (.invokevirtual 38, 3) := by decide +kernel
theorem dX8_passesDay_130 : decode cX8_passesDay 130 = .ok (.if_icmp .le 8, 3) := by decide +kernel
theorem dX8_passesDay_133 : decode cX8_passesDay 133 = .ok (.aload_n 0, 1) := by decide +kernel
theorem dX8_passesDay_134 : decode cX8_passesDay 134 = .ok (.iload_n 3, 1) := by decide +kernel
theorem dX8_passesDay_135 : decode cX8_passesDay 135 = .ok (.invokevirtual 125, 3) := by decide +kernel
theorem dX8_passesDay_138 : decode cX8_passesDay 138 = .ok (.iinc 3 (-1), 3) := by decide +kernel
theorem dX8_passesDay_141 : decode cX8_passesDay 141 = .ok (.goto (-27), 3) := by decide +kernel
theorem dX8_passesDay_144 : decode cX8_passesDay 144 = .ok (.lload_n 1, 1) := by decide +kernel
theorem dX8_passesDay_145 : decode cX8_passesDay 145 = .ok (.lreturn, 1) := by decide +kernel
theorem dX8_whyNotPassed_0 : decode cX8_whyNotPassed 0 = .ok (.iload_n 1, 1) := by decide +kernel
theorem dX8_whyNotPassed_1 : decode cX8_whyNotPassed 1 = .ok (.iconst 1, 1) := by decide +kernel
theorem dX8_whyNotPassed_2 : decode cX8_whyNotPassed 2 = .ok (.sipush 400, 3) := by decide +kernel
theorem dX8_whyNotPassed_5 : decode cX8_whyNotPassed 5 = .ok (.invokestatic 67, 3) := by decide +kernel
theorem dX8_whyNotPassed_8 : decode cX8_whyNotPassed 8 = .ok (.ifCond .ne 8, 3) := by decide +kernel
theorem dX8_whyNotPassed_11 : decode cX8_whyNotPassed 11 = .ok (.bipush (-2), 2) := by decide +kernel
theorem dX8_whyNotPassed_13 : decode cX8_whyNotPassed 13 = .ok (.goto 23, 3) := by decide +kernel
theorem dX8_whyNotPassed_16 : decode cX8_whyNotPassed 16 = .ok (.aload_n 0, 1) := by decide +kernel
theorem dX8_whyNotPassed_17 : decode cX8_whyNotPassed 17 = .ok (.getfield 7, 3) := by decide +kernel
theorem dX8_whyNotPassed_20 : decode cX8_whyNotPassed 20 = .ok (.iconst 0, 1) := by decide +kernel
theorem dX8_whyNotPassed_21 : decode cX8_whyNotPassed 21 = .ok (.iaload, 1) := by decide +kernel
theorem dX8_whyNotPassed_22 : decode cX8_whyNotPassed 22 = .ok (.iload_n 1, 1) := by decide +kernel
theorem dX8_whyNotPassed_23 : decode cX8_whyNotPassed 23 = .ok (.iadd, 1) := by decide +kernel
theorem dX8_whyNotPassed_24 : decode cX8_whyNotPassed 24 = .ok (.sipush 9999, 3) := by decide +kernel
theorem dX8_whyNotPassed_27 : decode cX8_whyNotPassed 27 = .ok (.if_icmp .le 8, 3) := by decide +kernel
theorem dX8_whyNotPassed_30 : decode cX8_whyNotPassed 30 = .ok (.bipush (-4), 2) := by decide +kernel
theorem dX8_whyNotPassed_32 : decode cX8_whyNotPassed 32 = .ok (.goto 4, 3) := by decide +kernel
theorem dX8_whyNotPassed_35 : decode cX8_whyNotPassed 35 = .ok (.iconst 0, 1) := by decide +kernel
theorem dX8_whyNotPassed_36 : decode cX8_whyNotPassed 36 = .ok (.ireturn, 1) := by decide +kernel
theorem dX8_passes_0 : decode cX8_passes 0 = .ok (.lconst 0, 1) := by decide +kernel
theorem dX8_passes_1 : decode cX8_passes 1 = .ok (.lstore_n 2, 1) := by decide +kernel
theorem dX8_passes_2 : decode cX8_passes 2 = .ok (.iconst 0, 1) := by decide +kernel
theorem dX8_passes_3 : decode cX8_passes 3 = .ok (.istore 4, 2) := by decide +kernel
theorem dX8_passes_5 : decode cX8_passes 5 = .ok (.iload 4, 2) := by decide +kernel
theorem dX8_passes_7 : decode cX8_passes 7 = .ok (.iload_n 1, 1) := by decide +kernel
theorem dX8_passes_8 : decode cX8_passes 8 = .ok (.if_icmp .ge 16, 3) := by decide +kernel
theorem dX8_passes_11 : decode cX8_passes 11 = .ok (.lload_n 2, 1) := by decide +kernel
theorem dX8_passes_12 : decode cX8_passes 12 = .ok (.aload_n 0, 1) := by decide +kernel
theorem dX8_passes_13 : decode cX8_passes 13 = .ok (.invokevirtual 159, 3) := by decide +kernel
theorem dX8_passes_16 : decode cX8_passes 16 = .ok (.ladd, 1) := by decide +kernel
theorem dX8_passes_17 : decode cX8_passes 17 = .ok (.lstore_n 2, 1) := by decide +kernel
theorem dX8_passes_18 : decode cX8_passes 18 = .ok (.iinc 4 1, 3) := by decide +kernel
theorem dX8_passes_21 : decode cX8_passes 21 = .ok (.goto (-16), 3) := by decide +kernel
theorem dX8_passes_24 : decode cX8_passes 24 = .ok (.lload_n 2, 1) := by decide +kernel
theorem dX8_passes_25 : decode cX8_passes 25 = .ok (.lreturn, 1) := by decide +kernel
theorem dX8_pass_0 : decode cX8_pass 0 = .ok (.aload_n 0, 1) := by decide +kernel
theorem dX8_pass_1 : decode cX8_pass 1 = .ok (.iload_n 1, 1) := by decide +kernel
theorem dX8_pass_2 : decode cX8_pass 2 = .ok (.invokevirtual 163, 3) := by decide +kernel
theorem dX8_pass_5 : decode cX8_pass 5 = .ok (.istore_n 2, 1) := by decide +kernel
theorem dX8_pass_6 : decode cX8_pass 6 = .ok (.iload_n 2, 1) := by decide +kernel
theorem dX8_pass_7 : decode cX8_pass 7 = .ok (.ifCond .ge 6, 3) := by decide +kernel
theorem dX8_pass_10 : decode cX8_pass 10 = .ok (.iload_n 2, 1) := by decide +kernel
theorem dX8_pass_11 : decode cX8_pass 11 = .ok (.i2l, 1) := by decide +kernel
theorem dX8_pass_12 : decode cX8_pass 12 = .ok (.lreturn, 1) := by decide +kernel
theorem dX8_pass_13 : decode cX8_pass 13 = .ok (.aload_n 0, 1) := by decide +kernel
theorem dX8_pass_14 : decode cX8_pass 14 = .ok (.invokevirtual 72, 3) := by decide +kernel
theorem dX8_pass_17 : decode cX8_pass 17 = .ok (.aload_n 0, 1) := by decide +kernel
theorem dX8_pass_18 : decode cX8_pass 18 = .ok (.iload_n 1, 1) := by decide +kernel
theorem dX8_pass_19 : decode cX8_pass 19 = .ok (.invokevirtual 166, 3) := by decide +kernel
theorem dX8_pass_22 : decode cX8_pass 22 = .ok (.lreturn, 1) := by decide +kernel
theorem dX8_giver_0 : decode cX8_giver 0 = .ok (.aload_n 0, 1) := by decide +kernel
theorem dX8_giver_1 : decode cX8_giver 1 = .ok (.iload_n 1, 1) := by decide +kernel
theorem dX8_giver_2 : decode cX8_giver 2 = .ok (.iconst 1, 1) := by decide +kernel
theorem dX8_giver_3 : decode cX8_giver 3 = .ok (.invokevirtual 170, 3) := by decide +kernel
theorem dX8_giver_6 : decode cX8_giver 6 = .ok (.istore_n 2, 1) := by decide +kernel
theorem dX8_giver_7 : decode cX8_giver 7 = .ok (.iload_n 2, 1) := by decide +kernel
theorem dX8_giver_8 : decode cX8_giver 8 = .ok (.iconst 1, 1) := by decide +kernel
theorem dX8_giver_9 : decode cX8_giver 9 = .ok (.if_icmp .ne 12, 3) := by decide +kernel
theorem dX8_giver_12 : decode cX8_giver 12 = .ok (.aload_n 0, 1) := by decide +kernel
theorem dX8_giver_13 : decode cX8_giver 13 = .ok (.iload_n 1, 1) := by decide +kernel
theorem dX8_giver_14 : decode cX8_giver 14 = .ok (.iconst 2, 1) := by decide +kernel
theorem dX8_giver_15 : decode cX8_giver 15 = .ok (.invokevirtual 170, 3) := by decide +kernel
theorem dX8_giver_18 : decode cX8_giver 18 = .ok (.goto 18, 3) := by decide +kernel
theorem dX8_giver_21 : decode cX8_giver 21 = .ok (.iload_n 2, 1) := by decide +kernel
theorem dX8_giver_22 : decode cX8_giver 22 = .ok (.iconst 3, 1) := by decide +kernel
theorem dX8_giver_23 : decode cX8_giver 23 = .ok (.if_icmp .ne 12, 3) := by decide +kernel
theorem dX8_giver_26 : decode cX8_giver 26 = .ok (.aload_n 0, 1) := by decide +kernel
theorem dX8_giver_27 : decode cX8_giver 27 = .ok (.iload_n 1, 1) := by decide +kernel
theorem dX8_giver_28 : decode cX8_giver 28 = .ok (.iconst 3, 1) := by decide +kernel
theorem dX8_giver_29 : decode cX8_giver 29 = .ok (.invokevirtual 170, 3) := by decide +kernel
theorem dX8_giver_32 : decode cX8_giver 32 = .ok (.goto 4, 3) := by decide +kernel
theorem dX8_giver_35 : decode cX8_giver 35 = .ok (.iconst 0, 1) := by decide +kernel
theorem dX8_giver_36 : decode cX8_giver 36 = .ok (.ireturn, 1) := by decide +kernel
theorem dX8_taker_0 : decode cX8_taker 0 = .ok (.aload_n 0, 1) := by decide +kernel
theorem dX8_taker_1 : decode cX8_taker 1 = .ok (.iload_n 1, 1) := by decide +kernel
theorem dX8_taker_2 : decode cX8_taker 2 = .ok (.iconst 1, 1) := by decide +kernel
theorem dX8_taker_3 : decode cX8_taker 3 = .ok (.invokevirtual 170, 3) := by decide +kernel
theorem dX8_taker_6 : decode cX8_taker 6 = .ok (.iconst 1, 1) := by decide +kernel
theorem dX8_taker_7 : decode cX8_taker 7 = .ok (.if_icmp .ne 7, 3) := by decide +kernel
theorem dX8_taker_10 : decode cX8_taker 10 = .ok (.iconst 0, 1) := by decide +kernel
theorem dX8_taker_11 : decode cX8_taker 11 = .ok (.goto 9, 3) := by decide +kernel
theorem dX8_taker_14 : decode cX8_taker 14 = .ok (.aload_n 0, 1) := by decide +kernel
theorem dX8_taker_15 : decode cX8_taker 15 = .ok (.iload_n 1, 1) := by decide +kernel
theorem dX8_taker_16 : decode cX8_taker 16 = .ok (.iconst 2, 1) := by decide +kernel
theorem dX8_taker_17 : decode cX8_taker 17 = .ok (.invokevirtual 170, 3) := by decide +kernel
theorem dX8_taker_20 : decode cX8_taker 20 = .ok (.ireturn, 1) := by decide +kernel
theorem dX8_whyNotReversed_0 : decode cX8_whyNotReversed 0 = .ok (.aload_n 0, 1) := by decide +kernel
theorem dX8_whyNotReversed_1 : decode cX8_whyNotReversed 1 = .ok (.iload_n 1, 1) := by decide +kernel
theorem dX8_whyNotReversed_2 : decode cX8_whyNotReversed 2 = .ok (.invokevirtual 173, 3) := by decide +kernel
theorem dX8_whyNotReversed_5 : decode cX8_whyNotReversed 5 = .ok (.ifCond .ne 5, 3) := by decide +kernel
theorem dX8_whyNotReversed_8 : decode cX8_whyNotReversed 8 = .ok (.iconst (-1), 1) := by decide +kernel
theorem dX8_whyNotReversed_9 : decode cX8_whyNotReversed 9 = .ok (.ireturn, 1) := by decide +kernel
theorem dX8_whyNotReversed_10 : decode cX8_whyNotReversed 10 = .ok (.aload_n 0, 1) := by decide +kernel
theorem dX8_whyNotReversed_11 : decode cX8_whyNotReversed 11 = .ok (.iload_n 1, 1) := by decide +kernel
theorem dX8_whyNotReversed_12 : decode cX8_whyNotReversed 12 = .ok (.invokevirtual 176, 3) := by decide +kernel
theorem dX8_whyNotReversed_15 : decode cX8_whyNotReversed 15 = .ok (.istore_n 2, 1) := by decide +kernel
theorem dX8_whyNotReversed_16 : decode cX8_whyNotReversed 16 = .ok (.aload_n 0, 1) := by decide +kernel
theorem dX8_whyNotReversed_17 : decode cX8_whyNotReversed 17 = .ok (.iload_n 1, 1) := by decide +kernel
theorem dX8_whyNotReversed_18 : decode cX8_whyNotReversed 18 = .ok (.invokevirtual 179, 3) := by decide +kernel
theorem dX8_whyNotReversed_21 : decode cX8_whyNotReversed 21 = .ok (.istore_n 3, 1) := by decide +kernel
theorem dX8_whyNotReversed_22 : decode cX8_whyNotReversed 22 = .ok (.aload_n 0, 1) := by decide +kernel
theorem dX8_whyNotReversed_23 : decode cX8_whyNotReversed 23 = .ok (.iload_n 1, 1) := by decide +kernel
theorem dX8_whyNotReversed_24 : decode cX8_whyNotReversed 24 = .ok (.iconst 1, 1) := by decide +kernel
theorem dX8_whyNotReversed_25 : decode cX8_whyNotReversed 25 = .ok (.invokevirtual 170, 3) := by decide +kernel
theorem dX8_whyNotReversed_28 : decode cX8_whyNotReversed 28 = .ok (.iconst 3, 1) := by decide +kernel
theorem dX8_whyNotReversed_29 : decode cX8_whyNotReversed 29 = .ok (.if_icmp .gt 42, 3) := by decide +kernel
theorem dX8_whyNotReversed_32 : decode cX8_whyNotReversed 32 = .ok (.aload_n 0, 1) := by decide +kernel
theorem dX8_whyNotReversed_33 : decode cX8_whyNotReversed 33 = .ok (.iload_n 1, 1) := by decide +kernel
theorem dX8_whyNotReversed_34 : decode cX8_whyNotReversed 34 = .ok (.bipush 6, 2) := by decide +kernel
theorem dX8_whyNotReversed_36 : decode cX8_whyNotReversed 36 = .ok (.invokevirtual 170, 3) := by decide +kernel
theorem dX8_whyNotReversed_39 : decode cX8_whyNotReversed 39 = .ok (.iconst 1, 1) := by decide +kernel
theorem dX8_whyNotReversed_40 : decode cX8_whyNotReversed 40 = .ok (.if_icmp .eq 31, 3) := by decide +kernel
theorem dX8_whyNotReversed_43 : decode cX8_whyNotReversed 43 = .ok (.iload_n 2, 1) := by decide +kernel
theorem dX8_whyNotReversed_44 : decode cX8_whyNotReversed 44 = .ok (.ifCond .le 13, 3) := by decide +kernel
theorem dX8_whyNotReversed_47 : decode cX8_whyNotReversed 47 = .ok (.aload_n 0, 1) := by decide +kernel
theorem dX8_whyNotReversed_48 : decode cX8_whyNotReversed 48 = .ok (.iload_n 2, 1) := by decide +kernel
theorem dX8_whyNotReversed_49 : decode cX8_whyNotReversed 49 = .ok (.invokevirtual 75, 3) := by decide +kernel
theorem dX8_whyNotReversed_52 : decode cX8_whyNotReversed 52 = .ok (.bipush (-6), 2) := by decide +kernel
theorem dX8_whyNotReversed_54 : decode cX8_whyNotReversed 54 = .ok (.if_icmp .eq 17, 3) := by decide +kernel
theorem dX8_whyNotReversed_57 : decode cX8_whyNotReversed 57 = .ok (.iload_n 3, 1) := by decide +kernel
theorem dX8_whyNotReversed_58 : decode cX8_whyNotReversed 58 = .ok (.ifCond .le 16, 3) := by decide +kernel
theorem dX8_whyNotReversed_61 : decode cX8_whyNotReversed 61 = .ok (.aload_n 0, 1) := by decide +kernel
theorem dX8_whyNotReversed_62 : decode cX8_whyNotReversed 62 = .ok (.iload_n 3, 1) := by decide +kernel
theorem dX8_whyNotReversed_63 : decode cX8_whyNotReversed 63 = .ok (.invokevirtual 75, 3) := by decide +kernel
theorem dX8_whyNotReversed_66 : decode cX8_whyNotReversed 66 = .ok (.bipush (-6), 2) := by decide +kernel
theorem dX8_whyNotReversed_68 : decode cX8_whyNotReversed 68 = .ok (.if_icmp .ne 6, 3) := by decide +kernel
theorem dX8_whyNotReversed_71 : decode cX8_whyNotReversed 71 = .ok (.bipush (-3), 2) := by decide +kernel
theorem dX8_whyNotReversed_73 : decode cX8_whyNotReversed 73 = .ok (.ireturn, 1) := by decide +kernel
theorem dX8_whyNotReversed_74 : decode cX8_whyNotReversed 74 = .ok (.aload_n 0, 1) := by decide +kernel
theorem dX8_whyNotReversed_75 : decode cX8_whyNotReversed 75 = .ok (.iload_n 1, 1) := by decide +kernel
theorem dX8_whyNotReversed_76 : decode cX8_whyNotReversed 76 = .ok (.iconst 4, 1) := by decide +kernel
theorem dX8_whyNotReversed_77 : decode cX8_whyNotReversed 77 = .ok (.invokevirtual 170, 3) := by decide +kernel
theorem dX8_whyNotReversed_80 : decode cX8_whyNotReversed 80 = .ok (.istore 4, 2) := by decide +kernel
theorem dX8_whyNotReversed_82 : decode cX8_whyNotReversed 82 = .ok (.iload_n 2, 1) := by decide +kernel
theorem dX8_whyNotReversed_83 : decode cX8_whyNotReversed 83 = .ok (.ifCond .le 20, 3) := by decide +kernel
theorem dX8_whyNotReversed_86 : decode cX8_whyNotReversed 86 = .ok (.aload_n 0, 1) := by decide +kernel
theorem dX8_whyNotReversed_87 : decode cX8_whyNotReversed 87 = .ok (.aload_n 0, 1) := by decide +kernel
theorem dX8_whyNotReversed_88 : decode cX8_whyNotReversed 88 = .ok (.iload_n 2, 1) := by decide +kernel
theorem dX8_whyNotReversed_89 : decode cX8_whyNotReversed 89 = .ok (.invokevirtual 75, 3) := by decide +kernel
theorem dX8_whyNotReversed_92 : decode cX8_whyNotReversed 92 = .ok (.invokevirtual 103, 3) := by decide +kernel
theorem dX8_whyNotReversed_95 : decode cX8_whyNotReversed 95 = .ok (.iload 4, 2) := by decide +kernel
theorem dX8_whyNotReversed_97 : decode cX8_whyNotReversed 97 = .ok (.if_icmp .ge 6, 3) := by decide +kernel
theorem dX8_whyNotReversed_100 : decode cX8_whyNotReversed 100 = .ok (.bipush (-3), 2) := by decide +kernel
theorem dX8_whyNotReversed_102 : decode cX8_whyNotReversed 102 = .ok (.ireturn, 1) := by decide +kernel
theorem dX8_whyNotReversed_103 : decode cX8_whyNotReversed 103 = .ok (.iload_n 3, 1) := by decide +kernel
theorem dX8_whyNotReversed_104 : decode cX8_whyNotReversed 104 = .ok (.ifCond .eq 17, 3) := by decide +kernel
theorem dX8_whyNotReversed_107 : decode cX8_whyNotReversed 107 = .ok (.aload_n 0, 1) := by decide +kernel
theorem dX8_whyNotReversed_108 : decode cX8_whyNotReversed 108 = .ok (.aload_n 0, 1) := by decide +kernel
theorem dX8_whyNotReversed_109 : decode cX8_whyNotReversed 109 = .ok (.iload_n 3, 1) := by decide +kernel
theorem dX8_whyNotReversed_110 : decode cX8_whyNotReversed 110 = .ok (.invokevirtual 75, 3) := by decide +kernel
theorem dX8_whyNotReversed_113 : decode cX8_whyNotReversed 113 = .ok (.iload 4, 2) := by decide +kernel
theorem dX8_whyNotReversed_115 : decode cX8_whyNotReversed 115 = .ok (.invokevirtual 86, 3) := by decide +kernel
theorem dX8_whyNotReversed_118 : decode cX8_whyNotReversed 118 = .ok (.ifCond .eq 7, 3) := by decide +kernel
theorem dX8_whyNotReversed_121 : decode cX8_whyNotReversed 121 = .ok (.iconst 0, 1) := by decide +kernel
theorem dX8_whyNotReversed_122 : decode cX8_whyNotReversed 122 = .ok (.goto 5, 3) := by decide +kernel
theorem dX8_whyNotReversed_125 : decode cX8_whyNotReversed 125 = .ok (.bipush (-4), 2) := by decide +kernel
theorem dX8_whyNotReversed_127 : decode cX8_whyNotReversed 127 = .ok (.ireturn, 1) := by decide +kernel
theorem dX8_reverse_0 : decode cX8_reverse 0 = .ok (.aload_n 0, 1) := by decide +kernel
theorem dX8_reverse_1 : decode cX8_reverse 1 = .ok (.iload_n 1, 1) := by decide +kernel
theorem dX8_reverse_2 : decode cX8_reverse 2 = .ok (.invokevirtual 182, 3) := by decide +kernel
theorem dX8_reverse_5 : decode cX8_reverse 5 = .ok (.istore_n 2, 1) := by decide +kernel
theorem dX8_reverse_6 : decode cX8_reverse 6 = .ok (.iload_n 2, 1) := by decide +kernel
theorem dX8_reverse_7 : decode cX8_reverse 7 = .ok (.ifCond .ge 5, 3) := by decide +kernel
theorem dX8_reverse_10 : decode cX8_reverse 10 = .ok (.iload_n 2, 1) := by decide +kernel
theorem dX8_reverse_11 : decode cX8_reverse 11 = .ok (.ireturn, 1) := by decide +kernel
theorem dX8_reverse_12 : decode cX8_reverse 12 = .ok (.aload_n 0, 1) := by decide +kernel
theorem dX8_reverse_13 : decode cX8_reverse 13 = .ok (.invokevirtual 72, 3) := by decide +kernel
theorem dX8_reverse_16 : decode cX8_reverse 16 = .ok (.aload_n 0, 1) := by decide +kernel
theorem dX8_reverse_17 : decode cX8_reverse 17 = .ok (.iload_n 1, 1) := by decide +kernel
theorem dX8_reverse_18 : decode cX8_reverse 18 = .ok (.invokevirtual 176, 3) := by decide +kernel
theorem dX8_reverse_21 : decode cX8_reverse 21 = .ok (.istore_n 3, 1) := by decide +kernel
theorem dX8_reverse_22 : decode cX8_reverse 22 = .ok (.aload_n 0, 1) := by decide +kernel
theorem dX8_reverse_23 : decode cX8_reverse 23 = .ok (.iload_n 1, 1) := by decide +kernel
theorem dX8_reverse_24 : decode cX8_reverse 24 = .ok (.invokevirtual 179, 3) := by decide +kernel
theorem dX8_reverse_27 : decode cX8_reverse 27 = .ok (.istore 4, 2) := by decide +kernel
theorem dX8_reverse_29 : decode cX8_reverse 29 = .ok (.aload_n 0, 1) := by decide +kernel
theorem dX8_reverse_30 : decode cX8_reverse 30 = .ok (.iload_n 1, 1) := by decide +kernel
theorem dX8_reverse_31 : decode cX8_reverse 31 = .ok (.iconst 4, 1) := by decide +kernel
theorem dX8_reverse_32 : decode cX8_reverse 32 = .ok (.invokevirtual 170, 3) := by decide +kernel
theorem dX8_reverse_35 : decode cX8_reverse 35 = .ok (.istore 5, 2) := by decide +kernel
theorem dX8_reverse_37 : decode cX8_reverse 37 = .ok (.iload_n 3, 1) := by decide +kernel
theorem dX8_reverse_38 : decode cX8_reverse 38 = .ok (.ifCond .le 16, 3) := by decide +kernel
theorem dX8_reverse_41 : decode cX8_reverse 41 = .ok (.aload_n 0, 1) := by decide +kernel
theorem dX8_reverse_42 : decode cX8_reverse 42 = .ok (.aload_n 0, 1) := by decide +kernel
theorem dX8_reverse_43 : decode cX8_reverse 43 = .ok (.iload_n 3, 1) := by decide +kernel
theorem dX8_reverse_44 : decode cX8_reverse 44 = .ok (.invokevirtual 75, 3) := by decide +kernel
theorem dX8_reverse_47 : decode cX8_reverse 47 = .ok (.iload 5, 2) := by decide +kernel
theorem dX8_reverse_49 : decode cX8_reverse 49 = .ok (.ineg, 1) := by decide +kernel
theorem dX8_reverse_50 : decode cX8_reverse 50 = .ok (.invokevirtual 90, 3) := by decide +kernel
theorem dX8_reverse_53 : decode cX8_reverse 53 = .ok (.pop, 1) := by decide +kernel
theorem dX8_reverse_54 : decode cX8_reverse 54 = .ok (.iload 4, 2) := by decide +kernel
theorem dX8_reverse_56 : decode cX8_reverse 56 = .ok (.ifCond .le 16, 3) := by decide +kernel
theorem dX8_reverse_59 : decode cX8_reverse 59 = .ok (.aload_n 0, 1) := by decide +kernel
theorem dX8_reverse_60 : decode cX8_reverse 60 = .ok (.aload_n 0, 1) := by decide +kernel
theorem dX8_reverse_61 : decode cX8_reverse 61 = .ok (.iload 4, 2) := by decide +kernel
theorem dX8_reverse_63 : decode cX8_reverse 63 = .ok (.invokevirtual 75, 3) := by decide +kernel
theorem dX8_reverse_66 : decode cX8_reverse 66 = .ok (.iload 5, 2) := by decide +kernel
theorem dX8_reverse_68 : decode cX8_reverse 68 = .ok (.invokevirtual 90, 3) := by decide +kernel
theorem dX8_reverse_71 : decode cX8_reverse 71 = .ok (.pop, 1) := by decide +kernel
theorem dX8_reverse_72 : decode cX8_reverse 72 = .ok (.aload_n 0, 1) := by decide +kernel
theorem dX8_reverse_73 : decode cX8_reverse 73 = .ok (.getfield 13, 3) := by decide +kernel
theorem dX8_reverse_76 : decode cX8_reverse 76 = .ok (.bipush 14, 2) := by decide +kernel
theorem dX8_reverse_78 : decode cX8_reverse 78 = .ok (.dup2, 1) := by decide +kernel
theorem dX8_reverse_79 : decode cX8_reverse 79 = .ok (.laload, 1) := by decide +kernel
theorem dX8_reverse_80 : decode cX8_reverse 80 = .ok (.aload_n 0, 1) := by decide +kernel
theorem dX8_reverse_81 : decode cX8_reverse 81 = .ok (.iload_n 1, 1) := by decide +kernel
theorem dX8_reverse_82 : decode cX8_reverse 82 = .ok (.iconst 1, 1) := by decide +kernel
theorem dX8_reverse_83 : decode cX8_reverse 83 = .ok (.invokevirtual 170, 3) := by decide +kernel
theorem dX8_reverse_86 : decode cX8_reverse 86 = .ok (.iconst 1, 1) := by decide +kernel
theorem dX8_reverse_87 : decode cX8_reverse 87 = .ok (.if_icmp .ne 9, 3) := by decide +kernel
theorem dX8_reverse_90 : decode cX8_reverse 90 = .ok (.iload 5, 2) := by decide +kernel
theorem dX8_reverse_92 : decode cX8_reverse 92 = .ok (.i2l, 1) := by decide +kernel
theorem dX8_reverse_93 : decode cX8_reverse 93 = .ok (.goto 4, 3) := by decide +kernel
theorem dX8_reverse_96 : decode cX8_reverse 96 = .ok (.lconst 0, 1) := by decide +kernel
theorem dX8_reverse_97 : decode cX8_reverse 97 = .ok (.lsub, 1) := by decide +kernel
theorem dX8_reverse_98 : decode cX8_reverse 98 = .ok (.lastore, 1) := by decide +kernel
theorem dX8_reverse_99 : decode cX8_reverse 99 = .ok (.aload_n 0, 1) := by decide +kernel
theorem dX8_reverse_100 : decode cX8_reverse 100 = .ok (.getfield 13, 3) := by decide +kernel
theorem dX8_reverse_103 : decode cX8_reverse 103 = .ok (.bipush 15, 2) := by decide +kernel
theorem dX8_reverse_105 : decode cX8_reverse 105 = .ok (.dup2, 1) := by decide +kernel
theorem dX8_reverse_106 : decode cX8_reverse 106 = .ok (.laload, 1) := by decide +kernel
theorem dX8_reverse_107 : decode cX8_reverse 107 = .ok (.aload_n 0, 1) := by decide +kernel
theorem dX8_reverse_108 : decode cX8_reverse 108 = .ok (.iload_n 1, 1) := by decide +kernel
theorem dX8_reverse_109 : decode cX8_reverse 109 = .ok (.iconst 1, 1) := by decide +kernel
theorem dX8_reverse_110 : decode cX8_reverse 110 = .ok (.invokevirtual 170, 3) := by decide +kernel
theorem dX8_reverse_113 : decode cX8_reverse 113 = .ok (.iconst 2, 1) := by decide +kernel
theorem dX8_reverse_114 : decode cX8_reverse 114 = .ok (.if_icmp .ne 9, 3) := by decide +kernel
theorem dX8_reverse_117 : decode cX8_reverse 117 = .ok (.iload 5, 2) := by decide +kernel
theorem dX8_reverse_119 : decode cX8_reverse 119 = .ok (.i2l, 1) := by decide +kernel
theorem dX8_reverse_120 : decode cX8_reverse 120 = .ok (.goto 4, 3) := by decide +kernel
theorem dX8_reverse_123 : decode cX8_reverse 123 = .ok (.lconst 0, 1) := by decide +kernel
theorem dX8_reverse_124 : decode cX8_reverse 124 = .ok (.lsub, 1) := by decide +kernel
theorem dX8_reverse_125 : decode cX8_reverse 125 = .ok (.lastore, 1) := by decide +kernel
theorem dX8_reverse_126 : decode cX8_reverse 126 = .ok (.aload_n 0, 1) := by decide +kernel
theorem dX8_reverse_127 : decode cX8_reverse 127 = .ok (.getfield 7, 3) := by decide +kernel
theorem dX8_reverse_130 : decode cX8_reverse 130 = .ok (.sipush 168, 3) := by decide +kernel
theorem dX8_reverse_133 : decode cX8_reverse 133 = .ok (.bipush 7, 2) := by decide +kernel
theorem dX8_reverse_135 : decode cX8_reverse 135 = .ok (.iload_n 1, 1) := by decide +kernel
theorem dX8_reverse_136 : decode cX8_reverse 136 = .ok (.iconst 1, 1) := by decide +kernel
theorem dX8_reverse_137 : decode cX8_reverse 137 = .ok (.isub, 1) := by decide +kernel
theorem dX8_reverse_138 : decode cX8_reverse 138 = .ok (.bipush 24, 2) := by decide +kernel
theorem dX8_reverse_140 : decode cX8_reverse 140 = .ok (.irem, 1) := by decide +kernel
theorem dX8_reverse_141 : decode cX8_reverse 141 = .ok (.imul, 1) := by decide +kernel
theorem dX8_reverse_142 : decode cX8_reverse 142 = .ok (.iadd, 1) := by decide +kernel
theorem dX8_reverse_143 : decode cX8_reverse 143 = .ok (.bipush 6, 2) := by decide +kernel
theorem dX8_reverse_145 : decode cX8_reverse 145 = .ok (.iadd, 1) := by decide +kernel
theorem dX8_reverse_146 : decode cX8_reverse 146 = .ok (.iconst 1, 1) := by decide +kernel
theorem dX8_reverse_147 : decode cX8_reverse 147 = .ok (.iastore, 1) := by decide +kernel
theorem dX8_reverse_148 : decode cX8_reverse 148 = .ok (.aload_n 0, 1) := by decide +kernel
theorem dX8_reverse_149 : decode cX8_reverse 149 = .ok (.bipush 6, 2) := by decide +kernel
theorem dX8_reverse_151 : decode cX8_reverse 151 = .ok (.aload_n 0, 1) := by decide +kernel
theorem dX8_reverse_152 : decode cX8_reverse 152 = .ok (.iload_n 1, 1) := by decide +kernel
theorem dX8_reverse_153 : decode cX8_reverse 153 = .ok (.iconst 2, 1) := by decide +kernel
theorem dX8_reverse_154 : decode cX8_reverse 154 = .ok (.invokevirtual 170, 3) := by decide +kernel
theorem dX8_reverse_157 : decode cX8_reverse 157 = .ok (.aload_n 0, 1) := by decide +kernel
theorem dX8_reverse_158 : decode cX8_reverse 158 = .ok (.iload_n 1, 1) := by decide +kernel
theorem dX8_reverse_159 : decode cX8_reverse 159 = .ok (.iconst 3, 1) := by decide +kernel
theorem dX8_reverse_160 : decode cX8_reverse 160 = .ok (.invokevirtual 170, 3) := by decide +kernel
theorem dX8_reverse_163 : decode cX8_reverse 163 = .ok (.iload 5, 2) := by decide +kernel
theorem dX8_reverse_165 : decode cX8_reverse 165 = .ok (.invokevirtual 93, 3) := by decide +kernel
theorem dX8_reverse_168 : decode cX8_reverse 168 = .ok (.ireturn, 1) := by decide +kernel
theorem dX8_day_0 : decode cX8_day 0 = .ok (.aload_n 0, 1) := by decide +kernel
theorem dX8_day_1 : decode cX8_day 1 = .ok (.getfield 7, 3) := by decide +kernel
theorem dX8_day_4 : decode cX8_day 4 = .ok (.iconst 0, 1) := by decide +kernel
theorem dX8_day_5 : decode cX8_day 5 = .ok (.iaload, 1) := by decide +kernel
theorem dX8_day_6 : decode cX8_day 6 = .ok (.ireturn, 1) := by decide +kernel
theorem dX8_clients_0 : decode cX8_clients 0 = .ok (.aload_n 0, 1) := by decide +kernel
theorem dX8_clients_1 : decode cX8_clients 1 = .ok (.getfield 7, 3) := by decide +kernel
theorem dX8_clients_4 : decode cX8_clients 4 = .ok (.iconst 5, 1) := by decide +kernel
theorem dX8_clients_5 : decode cX8_clients 5 = .ok (.iaload, 1) := by decide +kernel
theorem dX8_clients_6 : decode cX8_clients 6 = .ok (.ireturn, 1) := by decide +kernel
theorem dX8_staysAhead_0 : decode cX8_staysAhead 0 = .ok (.iload_n 3, 1) := by decide +kernel
theorem dX8_staysAhead_1 : decode cX8_staysAhead 1 = .ok (.iconst 1, 1) := by decide +kernel
theorem dX8_staysAhead_2 : decode cX8_staysAhead 2 = .ok (.if_icmp .ne 26, 3) := by decide +kernel
theorem dX8_staysAhead_5 : decode cX8_staysAhead 5 = .ok (.aload_n 0, 1) := by decide +kernel
theorem dX8_staysAhead_6 : decode cX8_staysAhead 6 = .ok (.iload_n 1, 1) := by decide +kernel
theorem dX8_staysAhead_7 : decode cX8_staysAhead 7 = .ok (.iconst 1, 1) := by decide +kernel
theorem dX8_staysAhead_8 : decode cX8_staysAhead 8 = .ok (.invokevirtual 34, 3) := by decide +kernel
theorem dX8_staysAhead_11 : decode cX8_staysAhead 11 = .ok (.aload_n 0, 1) := by decide +kernel
theorem dX8_staysAhead_12 : decode cX8_staysAhead 12 = .ok (.iload_n 2, 1) := by decide +kernel
theorem dX8_staysAhead_13 : decode cX8_staysAhead 13 = .ok (.iconst 1, 1) := by decide +kernel
theorem dX8_staysAhead_14 : decode cX8_staysAhead 14 = .ok (.invokevirtual 34, 3) := by decide +kernel
theorem dX8_staysAhead_17 : decode cX8_staysAhead 17 = .ok (.if_icmp .lt 7, 3) := by decide +kernel
theorem dX8_staysAhead_20 : decode cX8_staysAhead 20 = .ok (.iconst 1, 1) := by decide +kernel
theorem dX8_staysAhead_21 : decode cX8_staysAhead 21 = .ok (.goto 53, 3) := by decide +kernel
theorem dX8_staysAhead_24 : decode cX8_staysAhead 24 = .ok (.iconst 0, 1) := by decide +kernel
theorem dX8_staysAhead_25 : decode cX8_staysAhead 25 = .ok (.goto 49, 3) := by decide +kernel
theorem dX8_staysAhead_28 : decode cX8_staysAhead 28 = .ok (.iload_n 3, 1) := by decide +kernel
theorem dX8_staysAhead_29 : decode cX8_staysAhead 29 = .ok (.iconst 2, 1) := by decide +kernel
theorem dX8_staysAhead_30 : decode cX8_staysAhead 30 = .ok (.if_icmp .ne 24, 3) := by decide +kernel
theorem dX8_staysAhead_33 : decode cX8_staysAhead 33 = .ok (.aload_n 0, 1) := by decide +kernel
theorem dX8_staysAhead_34 : decode cX8_staysAhead 34 = .ok (.iload_n 1, 1) := by decide +kernel
theorem dX8_staysAhead_35 : decode cX8_staysAhead 35 = .ok (.invokevirtual 103, 3) := by decide +kernel
theorem dX8_staysAhead_38 : decode cX8_staysAhead 38 = .ok (.aload_n 0, 1) := by decide +kernel
theorem dX8_staysAhead_39 : decode cX8_staysAhead 39 = .ok (.iload_n 2, 1) := by decide +kernel
theorem dX8_staysAhead_40 : decode cX8_staysAhead 40 = .ok (.invokevirtual 103, 3) := by decide +kernel
theorem dX8_staysAhead_43 : decode cX8_staysAhead 43 = .ok (.if_icmp .gt 7, 3) := by decide +kernel
theorem dX8_staysAhead_46 : decode cX8_staysAhead 46 = .ok (.iconst 1, 1) := by decide +kernel
theorem dX8_staysAhead_47 : decode cX8_staysAhead 47 = .ok (.goto 27, 3) := by decide +kernel
theorem dX8_staysAhead_50 : decode cX8_staysAhead 50 = .ok (.iconst 0, 1) := by decide +kernel
theorem dX8_staysAhead_51 : decode cX8_staysAhead 51 = .ok (.goto 23, 3) := by decide +kernel
theorem dX8_staysAhead_54 : decode cX8_staysAhead 54 = .ok (.aload_n 0, 1) := by decide +kernel
theorem dX8_staysAhead_55 : decode cX8_staysAhead 55 = .ok (.iload_n 1, 1) := by decide +kernel
theorem dX8_staysAhead_56 : decode cX8_staysAhead 56 = .ok (.iconst 2, 1) := by decide +kernel
theorem dX8_staysAhead_57 : decode cX8_staysAhead 57 = .ok (.invokevirtual 34, 3) := by decide +kernel
theorem dX8_staysAhead_60 : decode cX8_staysAhead 60 = .ok (.aload_n 0, 1) := by decide +kernel
theorem dX8_staysAhead_61 : decode cX8_staysAhead 61 = .ok (.iload_n 2, 1) := by decide +kernel
theorem dX8_staysAhead_62 : decode cX8_staysAhead 62 = .ok (.iconst 2, 1) := by decide +kernel
theorem dX8_staysAhead_63 : decode cX8_staysAhead 63 = .ok (.invokevirtual 34, 3) := by decide +kernel
theorem dX8_staysAhead_66 : decode cX8_staysAhead 66 = .ok (.if_icmp .gt 7, 3) := by decide +kernel
theorem dX8_staysAhead_69 : decode cX8_staysAhead 69 = .ok (.iconst 1, 1) := by decide +kernel
theorem dX8_staysAhead_70 : decode cX8_staysAhead 70 = .ok (.goto 4, 3) := by decide +kernel
theorem dX8_staysAhead_73 : decode cX8_staysAhead 73 = .ok (.iconst 0, 1) := by decide +kernel
theorem dX8_staysAhead_74 : decode cX8_staysAhead 74 = .ok (.ireturn, 1) := by decide +kernel
theorem dX8_findRanks_0 : decode cX8_findRanks 0 = .ok (.iconst 0, 1) := by decide +kernel
theorem dX8_findRanks_1 : decode cX8_findRanks 1 = .ok (.istore_n 2, 1) := by decide +kernel
theorem dX8_findRanks_2 : decode cX8_findRanks 2 = .ok (.iload_n 2, 1) := by decide +kernel
theorem dX8_findRanks_3 : decode cX8_findRanks 3 = .ok (.aload_n 0, 1) := by decide +kernel
theorem dX8_findRanks_4 : decode cX8_findRanks 4 = .ok (.getfield 7, 3) := by decide +kernel
theorem dX8_findRanks_7 : decode cX8_findRanks 7 = .ok (.iconst 5, 1) := by decide +kernel
theorem dX8_findRanks_8 : decode cX8_findRanks 8 = .ok (.iaload, 1) := by decide +kernel
theorem dX8_findRanks_9 : decode cX8_findRanks 9 = .ok (.if_icmp .ge 63, 3) := by decide +kernel
theorem dX8_findRanks_12 : decode cX8_findRanks 12 = .ok (.iload_n 2, 1) := by decide +kernel
theorem dX8_findRanks_13 : decode cX8_findRanks 13 = .ok (.istore_n 3, 1) := by decide +kernel
theorem dX8_findRanks_14 : decode cX8_findRanks 14 = .ok (.iload_n 1, 1) := by decide +kernel
theorem dX8_findRanks_15 : decode cX8_findRanks 15 = .ok (.ifCond .le 44, 3) := by decide +kernel
theorem dX8_findRanks_18 : decode cX8_findRanks 18 = .ok (.iload_n 3, 1) := by decide +kernel
theorem dX8_findRanks_19 : decode cX8_findRanks 19 = .ok (.ifCond .le 40, 3) := by decide +kernel
theorem dX8_findRanks_22 : decode cX8_findRanks 22 = .ok (.aload_n 0, 1) := by decide +kernel
theorem dX8_findRanks_23 : decode cX8_findRanks 23 = .ok (.aload_n 0, 1) := by decide +kernel
theorem dX8_findRanks_24 : decode cX8_findRanks 24 = .ok (.getfield 26, 3) := by decide +kernel
theorem dX8_findRanks_27 : decode cX8_findRanks 27 = .ok (.iload_n 3, 1) := by decide +kernel
theorem dX8_findRanks_28 : decode cX8_findRanks 28 = .ok (.iconst 1, 1) := by decide +kernel
theorem dX8_findRanks_29 : decode cX8_findRanks 29 = .ok (.isub, 1) := by decide +kernel
theorem dX8_findRanks_30 : decode cX8_findRanks 30 = .ok (.iaload, 1) := by decide +kernel
theorem dX8_findRanks_31 : decode cX8_findRanks 31 = .ok (.iload_n 2, 1) := by decide +kernel
theorem dX8_findRanks_32 : decode cX8_findRanks 32 = .ok (.iload_n 1, 1) := by decide +kernel
theorem dX8_findRanks_33 : decode cX8_findRanks 33 = .ok (.invokevirtual 185, 3) := by decide +kernel
theorem dX8_findRanks_36 : decode cX8_findRanks 36 = .ok (.ifCond .ne 23, 3) := by decide +kernel
theorem dX8_findRanks_39 : decode cX8_findRanks 39 = .ok (.aload_n 0, 1) := by decide +kernel
theorem dX8_findRanks_40 : decode cX8_findRanks 40 = .ok (.getfield 26, 3) := by decide +kernel
theorem dX8_findRanks_43 : decode cX8_findRanks 43 = .ok (.iload_n 3, 1) := by decide +kernel
theorem dX8_findRanks_44 : decode cX8_findRanks 44 = .ok (.aload_n 0, 1) := by decide +kernel
theorem dX8_findRanks_45 : decode cX8_findRanks 45 = .ok (.getfield 26, 3) := by decide +kernel
theorem dX8_findRanks_48 : decode cX8_findRanks 48 = .ok (.iload_n 3, 1) := by decide +kernel
theorem dX8_findRanks_49 : decode cX8_findRanks 49 = .ok (.iconst 1, 1) := by decide +kernel
theorem dX8_findRanks_50 : decode cX8_findRanks 50 = .ok (.isub, 1) := by decide +kernel
theorem dX8_findRanks_51 : decode cX8_findRanks 51 = .ok (.iaload, 1) := by decide +kernel
theorem dX8_findRanks_52 : decode cX8_findRanks 52 = .ok (.iastore, 1) := by decide +kernel
theorem dX8_findRanks_53 : decode cX8_findRanks 53 = .ok (.iinc 3 (-1), 3) := by decide +kernel
theorem dX8_findRanks_56 : decode cX8_findRanks 56 = .ok (.goto (-42), 3) := by decide +kernel
theorem dX8_findRanks_59 : decode cX8_findRanks 59 = .ok (.aload_n 0, 1) := by decide +kernel
theorem dX8_findRanks_60 : decode cX8_findRanks 60 = .ok (.getfield 26, 3) := by decide +kernel
theorem dX8_findRanks_63 : decode cX8_findRanks 63 = .ok (.iload_n 3, 1) := by decide +kernel
theorem dX8_findRanks_64 : decode cX8_findRanks 64 = .ok (.iload_n 2, 1) := by decide +kernel
theorem dX8_findRanks_65 : decode cX8_findRanks 65 = .ok (.iastore, 1) := by decide +kernel
theorem dX8_findRanks_66 : decode cX8_findRanks 66 = .ok (.iinc 2 1, 3) := by decide +kernel
theorem dX8_findRanks_69 : decode cX8_findRanks 69 = .ok (.goto (-67), 3) := by decide +kernel
theorem dX8_findRanks_72 : decode cX8_findRanks 72 = .ok (.return_, 1) := by decide +kernel
theorem dX8_ranked_0 : decode cX8_ranked 0 = .ok (.iload_n 1, 1) := by decide +kernel
theorem dX8_ranked_1 : decode cX8_ranked 1 = .ok (.iconst 0, 1) := by decide +kernel
theorem dX8_ranked_2 : decode cX8_ranked 2 = .ok (.iconst 3, 1) := by decide +kernel
theorem dX8_ranked_3 : decode cX8_ranked 3 = .ok (.invokestatic 67, 3) := by decide +kernel
theorem dX8_ranked_6 : decode cX8_ranked 6 = .ok (.ifCond .ne 6, 3) := by decide +kernel
theorem dX8_ranked_9 : decode cX8_ranked 9 = .ok (.bipush (-2), 2) := by decide +kernel
theorem dX8_ranked_11 : decode cX8_ranked 11 = .ok (.ireturn, 1) := by decide +kernel
theorem dX8_ranked_12 : decode cX8_ranked 12 = .ok (.iload_n 2, 1) := by decide +kernel
theorem dX8_ranked_13 : decode cX8_ranked 13 = .ok (.iconst 0, 1) := by decide +kernel
theorem dX8_ranked_14 : decode cX8_ranked 14 = .ok (.aload_n 0, 1) := by decide +kernel
theorem dX8_ranked_15 : decode cX8_ranked 15 = .ok (.getfield 7, 3) := by decide +kernel
theorem dX8_ranked_18 : decode cX8_ranked 18 = .ok (.iconst 5, 1) := by decide +kernel
theorem dX8_ranked_19 : decode cX8_ranked 19 = .ok (.iaload, 1) := by decide +kernel
theorem dX8_ranked_20 : decode cX8_ranked 20 = .ok (.iconst 1, 1) := by decide +kernel
theorem dX8_ranked_21 : decode cX8_ranked 21 = .ok (.isub, 1) := by decide +kernel
theorem dX8_ranked_22 : decode cX8_ranked 22 = .ok (.invokestatic 67, 3) := by decide +kernel
theorem dX8_ranked_25 : decode cX8_ranked 25 = .ok (.ifCond .ne 5, 3) := by decide +kernel
theorem dX8_ranked_28 : decode cX8_ranked 28 = .ok (.iconst (-1), 1) := by decide +kernel
theorem dX8_ranked_29 : decode cX8_ranked 29 = .ok (.ireturn, 1) := by decide +kernel
theorem dX8_ranked_30 : decode cX8_ranked 30 = .ok (.aload_n 0, 1) := by decide +kernel
theorem dX8_ranked_31 : decode cX8_ranked 31 = .ok (.iload_n 1, 1) := by decide +kernel
theorem dX8_ranked_32 : decode cX8_ranked 32 = .ok (.invokevirtual 188, 3) := by decide +kernel
theorem dX8_ranked_35 : decode cX8_ranked 35 = .ok (.aload_n 0, 1) := by decide +kernel
theorem dX8_ranked_36 : decode cX8_ranked 36 = .ok (.aload_n 0, 1) := by decide +kernel
theorem dX8_ranked_37 : decode cX8_ranked 37 = .ok (.getfield 26, 3) := by decide +kernel
theorem dX8_ranked_40 : decode cX8_ranked 40 = .ok (.iload_n 2, 1) := by decide +kernel
theorem dX8_ranked_41 : decode cX8_ranked 41 = .ok (.iaload, 1) := by decide +kernel
theorem dX8_ranked_42 : decode cX8_ranked 42 = .ok (.iconst 0, 1) := by decide +kernel
theorem dX8_ranked_43 : decode cX8_ranked 43 = .ok (.invokevirtual 34, 3) := by decide +kernel
theorem dX8_ranked_46 : decode cX8_ranked 46 = .ok (.ireturn, 1) := by decide +kernel
theorem dX8_restOf_0 : decode cX8_restOf 0 = .ok (.iconst 0, 1) := by decide +kernel
theorem dX8_restOf_1 : decode cX8_restOf 1 = .ok (.istore_n 2, 1) := by decide +kernel
theorem dX8_restOf_2 : decode cX8_restOf 2 = .ok (.iconst 0, 1) := by decide +kernel
theorem dX8_restOf_3 : decode cX8_restOf 3 = .ok (.istore_n 3, 1) := by decide +kernel
theorem dX8_restOf_4 : decode cX8_restOf 4 = .ok (.iload_n 3, 1) := by decide +kernel
theorem dX8_restOf_5 : decode cX8_restOf 5 = .ok (.aload_n 0, 1) := by decide +kernel
theorem dX8_restOf_6 : decode cX8_restOf 6 = .ok (.getfield 7, 3) := by decide +kernel
theorem dX8_restOf_9 : decode cX8_restOf 9 = .ok (.bipush 7, 2) := by decide +kernel
theorem dX8_restOf_11 : decode cX8_restOf 11 = .ok (.iaload, 1) := by decide +kernel
theorem dX8_restOf_12 : decode cX8_restOf 12 = .ok (.if_icmp .ge 32, 3) := by decide +kernel
theorem dX8_restOf_15 : decode cX8_restOf 15 = .ok (.iload_n 2, 1) := by decide +kernel
theorem dX8_restOf_16 : decode cX8_restOf 16 = .ok (.aload_n 0, 1) := by decide +kernel
theorem dX8_restOf_17 : decode cX8_restOf 17 = .ok (.iload_n 3, 1) := by decide +kernel
theorem dX8_restOf_18 : decode cX8_restOf 18 = .ok (.iconst 1, 1) := by decide +kernel
theorem dX8_restOf_19 : decode cX8_restOf 19 = .ok (.invokevirtual 48, 3) := by decide +kernel
theorem dX8_restOf_22 : decode cX8_restOf 22 = .ok (.iload_n 1, 1) := by decide +kernel
theorem dX8_restOf_23 : decode cX8_restOf 23 = .ok (.if_icmp .ne 12, 3) := by decide +kernel
theorem dX8_restOf_26 : decode cX8_restOf 26 = .ok (.aload_n 0, 1) := by decide +kernel
theorem dX8_restOf_27 : decode cX8_restOf 27 = .ok (.iload_n 3, 1) := by decide +kernel
theorem dX8_restOf_28 : decode cX8_restOf 28 = .ok (.iconst 2, 1) := by decide +kernel
theorem dX8_restOf_29 : decode cX8_restOf 29 = .ok (.invokevirtual 48, 3) := by decide +kernel
theorem dX8_restOf_32 : decode cX8_restOf 32 = .ok (.goto 4, 3) := by decide +kernel
theorem dX8_restOf_35 : decode cX8_restOf 35 = .ok (.iconst 0, 1) := by decide +kernel
theorem dX8_restOf_36 : decode cX8_restOf 36 = .ok (.iadd, 1) := by decide +kernel
theorem dX8_restOf_37 : decode cX8_restOf 37 = .ok (.istore_n 2, 1) := by decide +kernel
theorem dX8_restOf_38 : decode cX8_restOf 38 = .ok (.iinc 3 1, 3) := by decide +kernel
theorem dX8_restOf_41 : decode cX8_restOf 41 = .ok (.goto (-37), 3) := by decide +kernel
theorem dX8_restOf_44 : decode cX8_restOf 44 = .ok (.iload_n 2, 1) := by decide +kernel
theorem dX8_restOf_45 : decode cX8_restOf 45 = .ok (.ireturn, 1) := by decide +kernel
theorem dX8_holdsOf_0 : decode cX8_holdsOf 0 = .ok (.iconst 0, 1) := by decide +kernel
theorem dX8_holdsOf_1 : decode cX8_holdsOf 1 = .ok (.istore_n 2, 1) := by decide +kernel
theorem dX8_holdsOf_2 : decode cX8_holdsOf 2 = .ok (.iconst 0, 1) := by decide +kernel
theorem dX8_holdsOf_3 : decode cX8_holdsOf 3 = .ok (.istore_n 3, 1) := by decide +kernel
theorem dX8_holdsOf_4 : decode cX8_holdsOf 4 = .ok (.iload_n 3, 1) := by decide +kernel
theorem dX8_holdsOf_5 : decode cX8_holdsOf 5 = .ok (.aload_n 0, 1) := by decide +kernel
theorem dX8_holdsOf_6 : decode cX8_holdsOf 6 = .ok (.getfield 7, 3) := by decide +kernel
theorem dX8_holdsOf_9 : decode cX8_holdsOf 9 = .ok (.bipush 6, 2) := by decide +kernel
theorem dX8_holdsOf_11 : decode cX8_holdsOf 11 = .ok (.iaload, 1) := by decide +kernel
theorem dX8_holdsOf_12 : decode cX8_holdsOf 12 = .ok (.if_icmp .ge 27, 3) := by decide +kernel
theorem dX8_holdsOf_15 : decode cX8_holdsOf 15 = .ok (.iload_n 2, 1) := by decide +kernel
theorem dX8_holdsOf_16 : decode cX8_holdsOf 16 = .ok (.aload_n 0, 1) := by decide +kernel
theorem dX8_holdsOf_17 : decode cX8_holdsOf 17 = .ok (.iload_n 3, 1) := by decide +kernel
theorem dX8_holdsOf_18 : decode cX8_holdsOf 18 = .ok (.iconst 1, 1) := by decide +kernel
theorem dX8_holdsOf_19 : decode cX8_holdsOf 19 = .ok (.invokevirtual 38, 3) := by decide +kernel
theorem dX8_holdsOf_22 : decode cX8_holdsOf 22 = .ok (.iload_n 1, 1) := by decide +kernel
theorem dX8_holdsOf_23 : decode cX8_holdsOf 23 = .ok (.if_icmp .ne 7, 3) := by decide +kernel
theorem dX8_holdsOf_26 : decode cX8_holdsOf 26 = .ok (.iconst 1, 1) := by decide +kernel
theorem dX8_holdsOf_27 : decode cX8_holdsOf 27 = .ok (.goto 4, 3) := by decide +kernel
theorem dX8_holdsOf_30 : decode cX8_holdsOf 30 = .ok (.iconst 0, 1) := by decide +kernel
theorem dX8_holdsOf_31 : decode cX8_holdsOf 31 = .ok (.iadd, 1) := by decide +kernel
theorem dX8_holdsOf_32 : decode cX8_holdsOf 32 = .ok (.istore_n 2, 1) := by decide +kernel
theorem dX8_holdsOf_33 : decode cX8_holdsOf 33 = .ok (.iinc 3 1, 3) := by decide +kernel
theorem dX8_holdsOf_36 : decode cX8_holdsOf 36 = .ok (.goto (-32), 3) := by decide +kernel
theorem dX8_holdsOf_39 : decode cX8_holdsOf 39 = .ok (.iload_n 2, 1) := by decide +kernel
theorem dX8_holdsOf_40 : decode cX8_holdsOf 40 = .ok (.ireturn, 1) := by decide +kernel
theorem dX8_ofClient_0 : decode cX8_ofClient 0 = .ok (.iload_n 2, 1) := by decide +kernel
theorem dX8_ofClient_1 : decode cX8_ofClient 1 = .ok (.tableswitch 125 0 6 #[43, 50, 56, 62, 96, 107, 114], 43) := by decide +kernel
theorem dX8_ofClient_44 : decode cX8_ofClient 44 = .ok (.aload_n 0, 1) := by decide +kernel
theorem dX8_ofClient_45 : decode cX8_ofClient 45 = .ok (.iload_n 1, 1) := by decide +kernel
theorem dX8_ofClient_46 : decode cX8_ofClient 46 = .ok (.iconst 1, 1) := by decide +kernel
theorem dX8_ofClient_47 : decode cX8_ofClient 47 = .ok (.invokevirtual 34, 3) := by decide +kernel
theorem dX8_ofClient_50 : decode cX8_ofClient 50 = .ok (.ireturn, 1) := by decide +kernel
theorem dX8_ofClient_51 : decode cX8_ofClient 51 = .ok (.aload_n 0, 1) := by decide +kernel
theorem dX8_ofClient_52 : decode cX8_ofClient 52 = .ok (.iload_n 1, 1) := by decide +kernel
theorem dX8_ofClient_53 : decode cX8_ofClient 53 = .ok (.invokevirtual 44, 3) := by decide +kernel
theorem dX8_ofClient_56 : decode cX8_ofClient 56 = .ok (.ireturn, 1) := by decide +kernel
theorem dX8_ofClient_57 : decode cX8_ofClient 57 = .ok (.aload_n 0, 1) := by decide +kernel
theorem dX8_ofClient_58 : decode cX8_ofClient 58 = .ok (.iload_n 1, 1) := by decide +kernel
theorem dX8_ofClient_59 : decode cX8_ofClient 59 = .ok (.invokevirtual 103, 3) := by decide +kernel
theorem dX8_ofClient_62 : decode cX8_ofClient 62 = .ok (.ireturn, 1) := by decide +kernel
theorem dX8_ofClient_63 : decode cX8_ofClient 63 = .ok (.aload_n 0, 1) := by decide +kernel
theorem dX8_ofClient_64 : decode cX8_ofClient 64 = .ok (.getfield 13, 3) := by decide +kernel
theorem dX8_ofClient_67 : decode cX8_ofClient 67 = .ok (.iload_n 1, 1) := by decide +kernel
theorem dX8_ofClient_68 : decode cX8_ofClient 68 = .ok (.laload, 1) := by decide +kernel
theorem dX8_ofClient_69 : decode cX8_ofClient 69 = .ok (.ldc2_w 151, 3) := by decide +kernel
theorem dX8_ofClient_72 : decode cX8_ofClient 72 = .ok (.ldiv, 1) := by decide +kernel
theorem dX8_ofClient_73 : decode cX8_ofClient 73 = .ok (.ldc2_w 191, 3) := by decide +kernel
theorem dX8_ofClient_76 : decode cX8_ofClient 76 = .ok (.lcmp, 1) := by decide +kernel
theorem dX8_ofClient_77 : decode cX8_ofClient 77 = .ok (.ifCond .le 8, 3) := by decide +kernel
theorem dX8_ofClient_80 : decode cX8_ofClient 80 = .ok (.ldc 71, 2) := by decide +kernel
theorem dX8_ofClient_82 : decode cX8_ofClient 82 = .ok (.goto 14, 3) := by decide +kernel
theorem dX8_ofClient_85 : decode cX8_ofClient 85 = .ok (.aload_n 0, 1) := by decide +kernel
theorem dX8_ofClient_86 : decode cX8_ofClient 86 = .ok (.getfield 13, 3) := by decide +kernel
theorem dX8_ofClient_89 : decode cX8_ofClient 89 = .ok (.iload_n 1, 1) := by decide +kernel
theorem dX8_ofClient_90 : decode cX8_ofClient 90 = .ok (.laload, 1) := by decide +kernel
theorem dX8_ofClient_91 : decode cX8_ofClient 91 = .ok (.ldc2_w 151, 3) := by decide +kernel
theorem dX8_ofClient_94 : decode cX8_ofClient 94 = .ok (.ldiv, 1) := by decide +kernel
theorem dX8_ofClient_95 : decode cX8_ofClient 95 = .ok (.l2i, 1) := by decide +kernel
theorem dX8_ofClient_96 : decode cX8_ofClient 96 = .ok (.ireturn, 1) := by decide +kernel
theorem dX8_ofClient_97 : decode cX8_ofClient 97 = .ok (.aload_n 0, 1) := by decide +kernel
theorem dX8_ofClient_98 : decode cX8_ofClient 98 = .ok (.aload_n 0, 1) := by decide +kernel
theorem dX8_ofClient_99 : decode cX8_ofClient 99 = .ok (.iload_n 1, 1) := by decide +kernel
theorem dX8_ofClient_100 : decode cX8_ofClient 100 = .ok (.iconst 0, 1) := by decide +kernel
theorem dX8_ofClient_101 : decode cX8_ofClient 101 = .ok (.invokevirtual 34, 3) := by decide +kernel
theorem dX8_ofClient_104 : decode cX8_ofClient 104 = .ok (.invokevirtual 193, 3) := by decide +kernel
theorem dX8_ofClient_107 : decode cX8_ofClient 107 = .ok (.ireturn, 1) := by decide +kernel
theorem dX8_ofClient_108 : decode cX8_ofClient 108 = .ok (.aload_n 0, 1) := by decide +kernel
theorem dX8_ofClient_109 : decode cX8_ofClient 109 = .ok (.iload_n 1, 1) := by decide +kernel
theorem dX8_ofClient_110 : decode cX8_ofClient 110 = .ok (.iconst 2, 1) := by decide +kernel
theorem dX8_ofClient_111 : decode cX8_ofClient 111 = .ok (.invokevirtual 34, 3) := by decide +kernel
theorem dX8_ofClient_114 : decode cX8_ofClient 114 = .ok (.ireturn, 1) := by decide +kernel
theorem dX8_ofClient_115 : decode cX8_ofClient 115 = .ok (.aload_n 0, 1) := by decide +kernel
theorem dX8_ofClient_116 : decode cX8_ofClient 116 = .ok (.aload_n 0, 1) := by decide +kernel
theorem dX8_ofClient_117 : decode cX8_ofClient 117 = .ok (.iload_n 1, 1) := by decide +kernel
theorem dX8_ofClient_118 : decode cX8_ofClient 118 = .ok (.iconst 0, 1) := by decide +kernel
theorem dX8_ofClient_119 : decode cX8_ofClient 119 = .ok (.invokevirtual 34, 3) := by decide +kernel
theorem dX8_ofClient_122 : decode cX8_ofClient 122 = .ok (.invokevirtual 196, 3) := by decide +kernel
theorem dX8_ofClient_125 : decode cX8_ofClient 125 = .ok (.ireturn, 1) := by decide +kernel
theorem dX8_ofClient_126 : decode cX8_ofClient 126 = .ok (.aload_n 0, 1) := by decide +kernel
theorem dX8_ofClient_127 : decode cX8_ofClient 127 = .ok (.aload_n 0, 1) := by decide +kernel
theorem dX8_ofClient_128 : decode cX8_ofClient 128 = .ok (.iload_n 1, 1) := by decide +kernel
theorem dX8_ofClient_129 : decode cX8_ofClient 129 = .ok (.iconst 0, 1) := by decide +kernel
theorem dX8_ofClient_130 : decode cX8_ofClient 130 = .ok (.invokevirtual 34, 3) := by decide +kernel
theorem dX8_ofClient_133 : decode cX8_ofClient 133 = .ok (.invokevirtual 78, 3) := by decide +kernel
theorem dX8_ofClient_136 : decode cX8_ofClient 136 = .ok (.ireturn, 1) := by decide +kernel
theorem dX8_of_0 : decode cX8_of 0 = .ok (.aload_n 0, 1) := by decide +kernel
theorem dX8_of_1 : decode cX8_of 1 = .ok (.iload_n 1, 1) := by decide +kernel
theorem dX8_of_2 : decode cX8_of 2 = .ok (.invokevirtual 75, 3) := by decide +kernel
theorem dX8_of_5 : decode cX8_of 5 = .ok (.istore_n 3, 1) := by decide +kernel
theorem dX8_of_6 : decode cX8_of 6 = .ok (.iload_n 3, 1) := by decide +kernel
theorem dX8_of_7 : decode cX8_of 7 = .ok (.bipush (-6), 2) := by decide +kernel
theorem dX8_of_9 : decode cX8_of 9 = .ok (.if_icmp .ne 5, 3) := by decide +kernel
theorem dX8_of_12 : decode cX8_of 12 = .ok (.iconst (-1), 1) := by decide +kernel
theorem dX8_of_13 : decode cX8_of 13 = .ok (.ireturn, 1) := by decide +kernel
theorem dX8_of_14 : decode cX8_of 14 = .ok (.iload_n 2, 1) := by decide +kernel
theorem dX8_of_15 : decode cX8_of 15 = .ok (.iconst 0, 1) := by decide +kernel
theorem dX8_of_16 : decode cX8_of 16 = .ok (.bipush 7, 2) := by decide +kernel
theorem dX8_of_18 : decode cX8_of 18 = .ok (.invokestatic 67, 3) := by decide +kernel
theorem dX8_of_21 : decode cX8_of 21 = .ok (.ifCond .eq 12, 3) := by decide +kernel
theorem dX8_of_24 : decode cX8_of 24 = .ok (.aload_n 0, 1) := by decide +kernel
theorem dX8_of_25 : decode cX8_of 25 = .ok (.iload_n 3, 1) := by decide +kernel
theorem dX8_of_26 : decode cX8_of 26 = .ok (.iload_n 2, 1) := by decide +kernel
theorem dX8_of_27 : decode cX8_of 27 = .ok (.invokevirtual 199, 3) := by decide +kernel
theorem dX8_of_30 : decode cX8_of 30 = .ok (.goto 5, 3) := by decide +kernel
theorem dX8_of_33 : decode cX8_of 33 = .ok (.bipush (-2), 2) := by decide +kernel
theorem dX8_of_35 : decode cX8_of 35 = .ok (.ireturn, 1) := by decide +kernel
theorem dX8_holdOf_0 : decode cX8_holdOf 0 = .ok (.aload_n 0, 1) := by decide +kernel
theorem dX8_holdOf_1 : decode cX8_holdOf 1 = .ok (.iload_n 1, 1) := by decide +kernel
theorem dX8_holdOf_2 : decode cX8_holdOf 2 = .ok (.invokevirtual 122, 3) := by decide +kernel
theorem dX8_holdOf_5 : decode cX8_holdOf 5 = .ok (.istore_n 3, 1) := by decide +kernel
theorem dX8_holdOf_6 : decode cX8_holdOf 6 = .ok (.iload_n 3, 1) := by decide +kernel
theorem dX8_holdOf_7 : decode cX8_holdOf 7 = .ok (.bipush (-6), 2) := by decide +kernel
theorem dX8_holdOf_9 : decode cX8_holdOf 9 = .ok (.if_icmp .ne 5, 3) := by decide +kernel
theorem dX8_holdOf_12 : decode cX8_holdOf 12 = .ok (.iconst (-1), 1) := by decide +kernel
theorem dX8_holdOf_13 : decode cX8_holdOf 13 = .ok (.ireturn, 1) := by decide +kernel
theorem dX8_holdOf_14 : decode cX8_holdOf 14 = .ok (.iload_n 2, 1) := by decide +kernel
theorem dX8_holdOf_15 : decode cX8_holdOf 15 = .ok (.iconst 0, 1) := by decide +kernel
theorem dX8_holdOf_16 : decode cX8_holdOf 16 = .ok (.iconst 2, 1) := by decide +kernel
theorem dX8_holdOf_17 : decode cX8_holdOf 17 = .ok (.invokestatic 67, 3) := by decide +kernel
theorem dX8_holdOf_20 : decode cX8_holdOf 20 = .ok (.ifCond .eq 14, 3) := by decide +kernel
theorem dX8_holdOf_23 : decode cX8_holdOf 23 = .ok (.aload_n 0, 1) := by decide +kernel
theorem dX8_holdOf_24 : decode cX8_holdOf 24 = .ok (.iload_n 3, 1) := by decide +kernel
theorem dX8_holdOf_25 : decode cX8_holdOf 25 = .ok (.iconst 1, 1) := by decide +kernel
theorem dX8_holdOf_26 : decode cX8_holdOf 26 = .ok (.iload_n 2, 1) := by decide +kernel
theorem dX8_holdOf_27 : decode cX8_holdOf 27 = .ok (.iadd, 1) := by decide +kernel
theorem dX8_holdOf_28 : decode cX8_holdOf 28 = .ok (.invokevirtual 38, 3) := by decide +kernel
theorem dX8_holdOf_31 : decode cX8_holdOf 31 = .ok (.goto 5, 3) := by decide +kernel
theorem dX8_holdOf_34 : decode cX8_holdOf 34 = .ok (.bipush (-2), 2) := by decide +kernel
theorem dX8_holdOf_36 : decode cX8_holdOf 36 = .ok (.ireturn, 1) := by decide +kernel
theorem dX8_billOf_0 : decode cX8_billOf 0 = .ok (.aload_n 0, 1) := by decide +kernel
theorem dX8_billOf_1 : decode cX8_billOf 1 = .ok (.iload_n 1, 1) := by decide +kernel
theorem dX8_billOf_2 : decode cX8_billOf 2 = .ok (.invokevirtual 135, 3) := by decide +kernel
theorem dX8_billOf_5 : decode cX8_billOf 5 = .ok (.istore_n 3, 1) := by decide +kernel
theorem dX8_billOf_6 : decode cX8_billOf 6 = .ok (.iload_n 3, 1) := by decide +kernel
theorem dX8_billOf_7 : decode cX8_billOf 7 = .ok (.bipush (-6), 2) := by decide +kernel
theorem dX8_billOf_9 : decode cX8_billOf 9 = .ok (.if_icmp .ne 5, 3) := by decide +kernel
theorem dX8_billOf_12 : decode cX8_billOf 12 = .ok (.iconst (-1), 1) := by decide +kernel
theorem dX8_billOf_13 : decode cX8_billOf 13 = .ok (.ireturn, 1) := by decide +kernel
theorem dX8_billOf_14 : decode cX8_billOf 14 = .ok (.iload_n 2, 1) := by decide +kernel
theorem dX8_billOf_15 : decode cX8_billOf 15 = .ok (.iconst 0, 1) := by decide +kernel
theorem dX8_billOf_16 : decode cX8_billOf 16 = .ok (.iconst 2, 1) := by decide +kernel
theorem dX8_billOf_17 : decode cX8_billOf 17 = .ok (.invokestatic 67, 3) := by decide +kernel
theorem dX8_billOf_20 : decode cX8_billOf 20 = .ok (.ifCond .eq 14, 3) := by decide +kernel
theorem dX8_billOf_23 : decode cX8_billOf 23 = .ok (.aload_n 0, 1) := by decide +kernel
theorem dX8_billOf_24 : decode cX8_billOf 24 = .ok (.iload_n 3, 1) := by decide +kernel
theorem dX8_billOf_25 : decode cX8_billOf 25 = .ok (.iconst 1, 1) := by decide +kernel
theorem dX8_billOf_26 : decode cX8_billOf 26 = .ok (.iload_n 2, 1) := by decide +kernel
theorem dX8_billOf_27 : decode cX8_billOf 27 = .ok (.iadd, 1) := by decide +kernel
theorem dX8_billOf_28 : decode cX8_billOf 28 = .ok (.invokevirtual 48, 3) := by decide +kernel
theorem dX8_billOf_31 : decode cX8_billOf 31 = .ok (.goto 5, 3) := by decide +kernel
theorem dX8_billOf_34 : decode cX8_billOf 34 = .ok (.bipush (-2), 2) := by decide +kernel
theorem dX8_billOf_36 : decode cX8_billOf 36 = .ok (.ireturn, 1) := by decide +kernel
theorem dX8_entries_0 : decode cX8_entries 0 = .ok (.aload_n 0, 1) := by decide +kernel
theorem dX8_entries_1 : decode cX8_entries 1 = .ok (.getfield 7, 3) := by decide +kernel
theorem dX8_entries_4 : decode cX8_entries 4 = .ok (.bipush 10, 2) := by decide +kernel
theorem dX8_entries_6 : decode cX8_entries 6 = .ok (.iaload, 1) := by decide +kernel
theorem dX8_entries_7 : decode cX8_entries 7 = .ok (.ireturn, 1) := by decide +kernel
theorem dX8_entry_0 : decode cX8_entry 0 = .ok (.aload_n 0, 1) := by decide +kernel
theorem dX8_entry_1 : decode cX8_entry 1 = .ok (.iload_n 1, 1) := by decide +kernel
theorem dX8_entry_2 : decode cX8_entry 2 = .ok (.invokevirtual 173, 3) := by decide +kernel
theorem dX8_entry_5 : decode cX8_entry 5 = .ok (.ifCond .ne 5, 3) := by decide +kernel
theorem dX8_entry_8 : decode cX8_entry 8 = .ok (.iconst (-1), 1) := by decide +kernel
theorem dX8_entry_9 : decode cX8_entry 9 = .ok (.ireturn, 1) := by decide +kernel
theorem dX8_entry_10 : decode cX8_entry 10 = .ok (.iload_n 2, 1) := by decide +kernel
theorem dX8_entry_11 : decode cX8_entry 11 = .ok (.iconst 0, 1) := by decide +kernel
theorem dX8_entry_12 : decode cX8_entry 12 = .ok (.bipush 6, 2) := by decide +kernel
theorem dX8_entry_14 : decode cX8_entry 14 = .ok (.invokestatic 67, 3) := by decide +kernel
theorem dX8_entry_17 : decode cX8_entry 17 = .ok (.ifCond .eq 12, 3) := by decide +kernel
theorem dX8_entry_20 : decode cX8_entry 20 = .ok (.aload_n 0, 1) := by decide +kernel
theorem dX8_entry_21 : decode cX8_entry 21 = .ok (.iload_n 1, 1) := by decide +kernel
theorem dX8_entry_22 : decode cX8_entry 22 = .ok (.iload_n 2, 1) := by decide +kernel
theorem dX8_entry_23 : decode cX8_entry 23 = .ok (.invokevirtual 170, 3) := by decide +kernel
theorem dX8_entry_26 : decode cX8_entry 26 = .ok (.goto 5, 3) := by decide +kernel
theorem dX8_entry_29 : decode cX8_entry 29 = .ok (.bipush (-2), 2) := by decide +kernel
theorem dX8_entry_31 : decode cX8_entry 31 = .ok (.ireturn, 1) := by decide +kernel
theorem dX8_sumOf_0 : decode cX8_sumOf 0 = .ok (.iload_n 1, 1) := by decide +kernel
theorem dX8_sumOf_1 : decode cX8_sumOf 1 = .ok (.iconst 2, 1) := by decide +kernel
theorem dX8_sumOf_2 : decode cX8_sumOf 2 = .ok (.if_icmp .lt 15, 3) := by decide +kernel
theorem dX8_sumOf_5 : decode cX8_sumOf 5 = .ok (.aload_n 0, 1) := by decide +kernel
theorem dX8_sumOf_6 : decode cX8_sumOf 6 = .ok (.getfield 13, 3) := by decide +kernel
theorem dX8_sumOf_9 : decode cX8_sumOf 9 = .ok (.bipush 12, 2) := by decide +kernel
theorem dX8_sumOf_11 : decode cX8_sumOf 11 = .ok (.iload_n 1, 1) := by decide +kernel
theorem dX8_sumOf_12 : decode cX8_sumOf 12 = .ok (.iadd, 1) := by decide +kernel
theorem dX8_sumOf_13 : decode cX8_sumOf 13 = .ok (.iconst 2, 1) := by decide +kernel
theorem dX8_sumOf_14 : decode cX8_sumOf 14 = .ok (.isub, 1) := by decide +kernel
theorem dX8_sumOf_15 : decode cX8_sumOf 15 = .ok (.laload, 1) := by decide +kernel
theorem dX8_sumOf_16 : decode cX8_sumOf 16 = .ok (.lreturn, 1) := by decide +kernel
theorem dX8_sumOf_17 : decode cX8_sumOf 17 = .ok (.lconst 0, 1) := by decide +kernel
theorem dX8_sumOf_18 : decode cX8_sumOf 18 = .ok (.lstore_n 2, 1) := by decide +kernel
theorem dX8_sumOf_19 : decode cX8_sumOf 19 = .ok (.iconst 0, 1) := by decide +kernel
theorem dX8_sumOf_20 : decode cX8_sumOf 20 = .ok (.istore 4, 2) := by decide +kernel
theorem dX8_sumOf_22 : decode cX8_sumOf 22 = .ok (.iload 4, 2) := by decide +kernel
theorem dX8_sumOf_24 : decode cX8_sumOf 24 = .ok (.aload_n 0, 1) := by decide +kernel
theorem dX8_sumOf_25 : decode cX8_sumOf 25 = .ok (.getfield 7, 3) := by decide +kernel
theorem dX8_sumOf_28 : decode cX8_sumOf 28 = .ok (.iconst 5, 1) := by decide +kernel
theorem dX8_sumOf_29 : decode cX8_sumOf 29 = .ok (.iaload, 1) := by decide +kernel
theorem dX8_sumOf_30 : decode cX8_sumOf 30 = .ok (.if_icmp .ge 34, 3) := by decide +kernel
theorem dX8_sumOf_33 : decode cX8_sumOf 33 = .ok (.lload_n 2, 1) := by decide +kernel
theorem dX8_sumOf_34 : decode cX8_sumOf 34 = .ok (.iload_n 1, 1) := by decide +kernel
theorem dX8_sumOf_35 : decode cX8_sumOf 35 = .ok (.ifCond .ne 14, 3) := by decide +kernel
theorem dX8_sumOf_38 : decode cX8_sumOf 38 = .ok (.aload_n 0, 1) := by decide +kernel
theorem dX8_sumOf_39 : decode cX8_sumOf 39 = .ok (.iload 4, 2) := by decide +kernel
theorem dX8_sumOf_41 : decode cX8_sumOf 41 = .ok (.iconst 1, 1) := by decide +kernel
theorem dX8_sumOf_42 : decode cX8_sumOf 42 = .ok (.invokevirtual 34, 3) := by decide +kernel
theorem dX8_sumOf_45 : decode cX8_sumOf 45 = .ok (.i2l, 1) := by decide +kernel
theorem dX8_sumOf_46 : decode cX8_sumOf 46 = .ok (.goto 10, 3) := by decide +kernel
theorem dX8_sumOf_49 : decode cX8_sumOf 49 = .ok (.aload_n 0, 1) := by decide +kernel
theorem dX8_sumOf_50 : decode cX8_sumOf 50 = .ok (.iload 4, 2) := by decide +kernel
theorem dX8_sumOf_52 : decode cX8_sumOf 52 = .ok (.invokevirtual 44, 3) := by decide +kernel
theorem dX8_sumOf_55 : decode cX8_sumOf 55 = .ok (.i2l, 1) := by decide +kernel
theorem dX8_sumOf_56 : decode cX8_sumOf 56 = .ok (.ladd, 1) := by decide +kernel
theorem dX8_sumOf_57 : decode cX8_sumOf 57 = .ok (.lstore_n 2, 1) := by decide +kernel
theorem dX8_sumOf_58 : decode cX8_sumOf 58 = .ok (.iinc 4 1, 3) := by decide +kernel
theorem dX8_sumOf_61 : decode cX8_sumOf 61 = .ok (.goto (-39), 3) := by decide +kernel
theorem dX8_sumOf_64 : decode cX8_sumOf 64 = .ok (.lload_n 2, 1) := by decide +kernel
theorem dX8_sumOf_65 : decode cX8_sumOf 65 = .ok (.lreturn, 1) := by decide +kernel
theorem dX8_sum_0 : decode cX8_sum 0 = .ok (.iload_n 1, 1) := by decide +kernel
theorem dX8_sum_1 : decode cX8_sum 1 = .ok (.iconst 0, 1) := by decide +kernel
theorem dX8_sum_2 : decode cX8_sum 2 = .ok (.iconst 5, 1) := by decide +kernel
theorem dX8_sum_3 : decode cX8_sum 3 = .ok (.invokestatic 67, 3) := by decide +kernel
theorem dX8_sum_6 : decode cX8_sum 6 = .ok (.ifCond .eq 11, 3) := by decide +kernel
theorem dX8_sum_9 : decode cX8_sum 9 = .ok (.aload_n 0, 1) := by decide +kernel
theorem dX8_sum_10 : decode cX8_sum 10 = .ok (.iload_n 1, 1) := by decide +kernel
theorem dX8_sum_11 : decode cX8_sum 11 = .ok (.invokevirtual 202, 3) := by decide +kernel
theorem dX8_sum_14 : decode cX8_sum 14 = .ok (.goto 6, 3) := by decide +kernel
theorem dX8_sum_17 : decode cX8_sum 17 = .ok (.ldc2_w 205, 3) := by decide +kernel
theorem dX8_sum_20 : decode cX8_sum 20 = .ok (.lreturn, 1) := by decide +kernel
theorem dX8_payableOn_0 : decode cX8_payableOn 0 = .ok (.aload_n 0, 1) := by decide +kernel
theorem dX8_payableOn_1 : decode cX8_payableOn 1 = .ok (.iload_n 1, 1) := by decide +kernel
theorem dX8_payableOn_2 : decode cX8_payableOn 2 = .ok (.invokevirtual 75, 3) := by decide +kernel
theorem dX8_payableOn_5 : decode cX8_payableOn 5 = .ok (.istore_n 3, 1) := by decide +kernel
theorem dX8_payableOn_6 : decode cX8_payableOn 6 = .ok (.iload_n 3, 1) := by decide +kernel
theorem dX8_payableOn_7 : decode cX8_payableOn 7 = .ok (.bipush (-6), 2) := by decide +kernel
theorem dX8_payableOn_9 : decode cX8_payableOn 9 = .ok (.if_icmp .ne 5, 3) := by decide +kernel
theorem dX8_payableOn_12 : decode cX8_payableOn 12 = .ok (.iconst (-1), 1) := by decide +kernel
theorem dX8_payableOn_13 : decode cX8_payableOn 13 = .ok (.ireturn, 1) := by decide +kernel
theorem dX8_payableOn_14 : decode cX8_payableOn 14 = .ok (.iload_n 2, 1) := by decide +kernel
theorem dX8_payableOn_15 : decode cX8_payableOn 15 = .ok (.invokestatic 82, 3) := by decide +kernel
theorem dX8_payableOn_18 : decode cX8_payableOn 18 = .ok (.ifCond .ne 6, 3) := by decide +kernel
theorem dX8_payableOn_21 : decode cX8_payableOn 21 = .ok (.bipush (-2), 2) := by decide +kernel
theorem dX8_payableOn_23 : decode cX8_payableOn 23 = .ok (.ireturn, 1) := by decide +kernel
theorem dX8_payableOn_24 : decode cX8_payableOn 24 = .ok (.aload_n 0, 1) := by decide +kernel
theorem dX8_payableOn_25 : decode cX8_payableOn 25 = .ok (.iload_n 3, 1) := by decide +kernel
theorem dX8_payableOn_26 : decode cX8_payableOn 26 = .ok (.invokevirtual 153, 3) := by decide +kernel
theorem dX8_payableOn_29 : decode cX8_payableOn 29 = .ok (.iconst 0, 1) := by decide +kernel
theorem dX8_payableOn_30 : decode cX8_payableOn 30 = .ok (.istore 4, 2) := by decide +kernel
theorem dX8_payableOn_32 : decode cX8_payableOn 32 = .ok (.iload 4, 2) := by decide +kernel
theorem dX8_payableOn_34 : decode cX8_payableOn 34 = .ok (.sipush 400, 3) := by decide +kernel
theorem dX8_payableOn_37 : decode cX8_payableOn 37 = .ok (.if_icmp .gt 51, 3) := by decide +kernel
theorem dX8_payableOn_40 : decode cX8_payableOn 40 = .ok (.aload_n 0, 1) := by decide +kernel
theorem dX8_payableOn_41 : decode cX8_payableOn 41 = .ok (.getfield 7, 3) := by decide +kernel
theorem dX8_payableOn_44 : decode cX8_payableOn 44 = .ok (.iconst 0, 1) := by decide +kernel
theorem dX8_payableOn_45 : decode cX8_payableOn 45 = .ok (.iaload, 1) := by decide +kernel
theorem dX8_payableOn_46 : decode cX8_payableOn 46 = .ok (.iload 4, 2) := by decide +kernel
theorem dX8_payableOn_48 : decode cX8_payableOn 48 = .ok (.iadd, 1) := by decide +kernel
theorem dX8_payableOn_49 : decode cX8_payableOn 49 = .ok (.istore 5, 2) := by decide +kernel
theorem dX8_payableOn_51 : decode cX8_payableOn 51 = .ok (.iload 4, 2) := by decide +kernel
theorem dX8_payableOn_53 : decode cX8_payableOn 53 = .ok (.ifCond .le 10, 3) := by decide +kernel
theorem dX8_payableOn_56 : decode cX8_payableOn 56 = .ok (.aload_n 0, 1) := by decide +kernel
theorem dX8_payableOn_57 : decode cX8_payableOn 57 = .ok (.iload 5, 2) := by decide +kernel
theorem dX8_payableOn_59 : decode cX8_payableOn 59 = .ok (.invokevirtual 156, 3) := by decide +kernel
theorem dX8_payableOn_62 : decode cX8_payableOn 62 = .ok (.pop, 1) := by decide +kernel
theorem dX8_payableOn_63 : decode cX8_payableOn 63 = .ok (.aload_n 0, 1) := by decide +kernel
theorem dX8_payableOn_64 : decode cX8_payableOn 64 = .ok (.getfield 144, 3) := by decide +kernel
theorem dX8_payableOn_67 : decode cX8_payableOn 67 = .ok (.aload_n 0, 1) := by decide +kernel
theorem dX8_payableOn_68 : decode cX8_payableOn 68 = .ok (.iload_n 1, 1) := by decide +kernel
theorem dX8_payableOn_69 : decode cX8_payableOn 69 = .ok (.iload 5, 2) := by decide +kernel
theorem dX8_payableOn_71 : decode cX8_payableOn 71 = .ok (.invokevirtual 41, 3) := by decide +kernel
theorem dX8_payableOn_74 : decode cX8_payableOn 74 = .ok (.isub, 1) := by decide +kernel
theorem dX8_payableOn_75 : decode cX8_payableOn 75 = .ok (.iload_n 2, 1) := by decide +kernel
theorem dX8_payableOn_76 : decode cX8_payableOn 76 = .ok (.if_icmp .lt 6, 3) := by decide +kernel
theorem dX8_payableOn_79 : decode cX8_payableOn 79 = .ok (.iload 5, 2) := by decide +kernel
theorem dX8_payableOn_81 : decode cX8_payableOn 81 = .ok (.ireturn, 1) := by decide +kernel
theorem dX8_payableOn_82 : decode cX8_payableOn 82 = .ok (.iinc 4 1, 3) := by decide +kernel
theorem dX8_payableOn_85 : decode cX8_payableOn 85 = .ok (.goto (-53), 3) := by decide +kernel
theorem dX8_payableOn_88 : decode cX8_payableOn 88 = .ok (.bipush (-6), 2) := by decide +kernel
theorem dX8_payableOn_90 : decode cX8_payableOn 90 = .ok (.ireturn, 1) := by decide +kernel
theorem dX8_interestIn_0 : decode cX8_interestIn 0 = .ok (.aload_n 0, 1) := by decide +kernel
theorem dX8_interestIn_1 : decode cX8_interestIn 1 = .ok (.iload_n 1, 1) := by decide +kernel
theorem dX8_interestIn_2 : decode cX8_interestIn 2 = .ok (.invokevirtual 75, 3) := by decide +kernel
theorem dX8_interestIn_5 : decode cX8_interestIn 5 = .ok (.istore_n 3, 1) := by decide +kernel
theorem dX8_interestIn_6 : decode cX8_interestIn 6 = .ok (.iload_n 3, 1) := by decide +kernel
theorem dX8_interestIn_7 : decode cX8_interestIn 7 = .ok (.bipush (-6), 2) := by decide +kernel
theorem dX8_interestIn_9 : decode cX8_interestIn 9 = .ok (.if_icmp .ne 5, 3) := by decide +kernel
theorem dX8_interestIn_12 : decode cX8_interestIn 12 = .ok (.iconst (-1), 1) := by decide +kernel
theorem dX8_interestIn_13 : decode cX8_interestIn 13 = .ok (.ireturn, 1) := by decide +kernel
theorem dX8_interestIn_14 : decode cX8_interestIn 14 = .ok (.iload_n 2, 1) := by decide +kernel
theorem dX8_interestIn_15 : decode cX8_interestIn 15 = .ok (.iconst 1, 1) := by decide +kernel
theorem dX8_interestIn_16 : decode cX8_interestIn 16 = .ok (.sipush 400, 3) := by decide +kernel
theorem dX8_interestIn_19 : decode cX8_interestIn 19 = .ok (.invokestatic 67, 3) := by decide +kernel
theorem dX8_interestIn_22 : decode cX8_interestIn 22 = .ok (.ifCond .ne 6, 3) := by decide +kernel
theorem dX8_interestIn_25 : decode cX8_interestIn 25 = .ok (.bipush (-2), 2) := by decide +kernel
theorem dX8_interestIn_27 : decode cX8_interestIn 27 = .ok (.ireturn, 1) := by decide +kernel
theorem dX8_interestIn_28 : decode cX8_interestIn 28 = .ok (.aload_n 0, 1) := by decide +kernel
theorem dX8_interestIn_29 : decode cX8_interestIn 29 = .ok (.iload_n 3, 1) := by decide +kernel
theorem dX8_interestIn_30 : decode cX8_interestIn 30 = .ok (.invokevirtual 153, 3) := by decide +kernel
theorem dX8_interestIn_33 : decode cX8_interestIn 33 = .ok (.iconst 0, 1) := by decide +kernel
theorem dX8_interestIn_34 : decode cX8_interestIn 34 = .ok (.istore 4, 2) := by decide +kernel
theorem dX8_interestIn_36 : decode cX8_interestIn 36 = .ok (.iconst 1, 1) := by decide +kernel
theorem dX8_interestIn_37 : decode cX8_interestIn 37 = .ok (.istore 5, 2) := by decide +kernel
theorem dX8_interestIn_39 : decode cX8_interestIn 39 = .ok (.iload 5, 2) := by decide +kernel
theorem dX8_interestIn_41 : decode cX8_interestIn 41 = .ok (.iload_n 2, 1) := by decide +kernel
theorem dX8_interestIn_42 : decode cX8_interestIn 42 = .ok (.if_icmp .gt 27, 3) := by decide +kernel
theorem dX8_interestIn_45 : decode cX8_interestIn 45 = .ok (.iload 4, 2) := by decide +kernel
theorem dX8_interestIn_47 : decode cX8_interestIn 47 = .ok (.aload_n 0, 1) := by decide +kernel
theorem dX8_interestIn_48 : decode cX8_interestIn 48 = .ok (.aload_n 0, 1) := by decide +kernel
theorem dX8_interestIn_49 : decode cX8_interestIn 49 = .ok (.getfield 7, 3) := by decide +kernel
theorem dX8_interestIn_52 : decode cX8_interestIn 52 = .ok (.iconst 0, 1) := by decide +kernel
theorem dX8_interestIn_53 : decode cX8_interestIn 53 = .ok (.iaload, 1) := by decide +kernel
theorem dX8_interestIn_54 : decode cX8_interestIn 54 = .ok (.iload 5, 2) := by decide +kernel
theorem dX8_interestIn_56 : decode cX8_interestIn 56 = .ok (.iadd, 1) := by decide +kernel
theorem dX8_interestIn_57 : decode cX8_interestIn 57 = .ok (.invokevirtual 156, 3) := by decide +kernel
theorem dX8_interestIn_60 : decode cX8_interestIn 60 = .ok (.iadd, 1) := by decide +kernel
theorem dX8_interestIn_61 : decode cX8_interestIn 61 = .ok (.istore 4, 2) := by decide +kernel
theorem dX8_interestIn_63 : decode cX8_interestIn 63 = .ok (.iinc 5 1, 3) := by decide +kernel
theorem dX8_interestIn_66 : decode cX8_interestIn 66 = .ok (.goto (-27), 3) := by decide +kernel
theorem dX8_interestIn_69 : decode cX8_interestIn 69 = .ok (.iload 4, 2) := by decide +kernel
theorem dX8_interestIn_71 : decode cX8_interestIn 71 = .ok (.ireturn, 1) := by decide +kernel
theorem dX8_type_0 : decode cX8_type 0 = .ok (.iload_n 1, 1) := by decide +kernel
theorem dX8_type_1 : decode cX8_type 1 = .ok (.bipush 33, 2) := by decide +kernel
theorem dX8_type_3 : decode cX8_type 3 = .ok (.bipush 126, 2) := by decide +kernel
theorem dX8_type_5 : decode cX8_type 5 = .ok (.invokestatic 67, 3) := by decide +kernel
theorem dX8_type_8 : decode cX8_type 8 = .ok (.ifCond .ne 6, 3) := by decide +kernel
theorem dX8_type_11 : decode cX8_type 11 = .ok (.bipush (-2), 2) := by decide +kernel
theorem dX8_type_13 : decode cX8_type 13 = .ok (.ireturn, 1) := by decide +kernel
theorem dX8_type_14 : decode cX8_type 14 = .ok (.aload_n 0, 1) := by decide +kernel
theorem dX8_type_15 : decode cX8_type 15 = .ok (.getfield 207, 3) := by decide +kernel
theorem dX8_type_18 : decode cX8_type 18 = .ok (.bipush 80, 2) := by decide +kernel
theorem dX8_type_20 : decode cX8_type 20 = .ok (.if_icmp .ne 6, 3) := by decide +kernel
theorem dX8_type_23 : decode cX8_type 23 = .ok (.bipush (-4), 2) := by decide +kernel
theorem dX8_type_25 : decode cX8_type 25 = .ok (.ireturn, 1) := by decide +kernel
theorem dX8_type_26 : decode cX8_type 26 = .ok (.aload_n 0, 1) := by decide +kernel
theorem dX8_type_27 : decode cX8_type 27 = .ok (.getfield 23, 3) := by decide +kernel
theorem dX8_type_30 : decode cX8_type 30 = .ok (.aload_n 0, 1) := by decide +kernel
theorem dX8_type_31 : decode cX8_type 31 = .ok (.getfield 207, 3) := by decide +kernel
theorem dX8_type_34 : decode cX8_type 34 = .ok (.iload_n 1, 1) := by decide +kernel
theorem dX8_type_35 : decode cX8_type 35 = .ok (.iastore, 1) := by decide +kernel
theorem dX8_type_36 : decode cX8_type 36 = .ok (.aload_n 0, 1) := by decide +kernel
theorem dX8_type_37 : decode cX8_type 37 = .ok (.dup, 1) := by decide +kernel
theorem dX8_type_38 : decode cX8_type 38 = .ok (.getfield 207, 3) := by decide +kernel
theorem dX8_type_41 : decode cX8_type 41 = .ok (.iconst 1, 1) := by decide +kernel
theorem dX8_type_42 : decode cX8_type 42 = .ok (.iadd, 1) := by decide +kernel
theorem dX8_type_43 : decode cX8_type 43 = .ok (.putfield 207, 3) := by decide +kernel
theorem dX8_type_46 : decode cX8_type 46 = .ok (.aload_n 0, 1) := by decide +kernel
theorem dX8_type_47 : decode cX8_type 47 = .ok (.getfield 207, 3) := by decide +kernel
theorem dX8_type_50 : decode cX8_type 50 = .ok (.ireturn, 1) := by decide +kernel
theorem dX8_clearText_0 : decode cX8_clearText 0 = .ok (.aload_n 0, 1) := by decide +kernel
theorem dX8_clearText_1 : decode cX8_clearText 1 = .ok (.getfield 207, 3) := by decide +kernel
theorem dX8_clearText_4 : decode cX8_clearText 4 = .ok (.istore_n 1, 1) := by decide +kernel
theorem dX8_clearText_5 : decode cX8_clearText 5 = .ok (.aload_n 0, 1) := by decide +kernel
theorem dX8_clearText_6 : decode cX8_clearText 6 = .ok (.iconst 0, 1) := by decide +kernel
theorem dX8_clearText_7 : decode cX8_clearText 7 = .ok (.putfield 207, 3) := by decide +kernel
theorem dX8_clearText_10 : decode cX8_clearText 10 = .ok (.iload_n 1, 1) := by decide +kernel
theorem dX8_clearText_11 : decode cX8_clearText 11 = .ok (.ireturn, 1) := by decide +kernel
theorem dX8_character_0 : decode cX8_character 0 = .ok (.iload_n 1, 1) := by decide +kernel
theorem dX8_character_1 : decode cX8_character 1 = .ok (.aload_n 0, 1) := by decide +kernel
theorem dX8_character_2 : decode cX8_character 2 = .ok (.getfield 207, 3) := by decide +kernel
theorem dX8_character_5 : decode cX8_character 5 = .ok (.if_icmp .ge 12, 3) := by decide +kernel
theorem dX8_character_8 : decode cX8_character 8 = .ok (.aload_n 0, 1) := by decide +kernel
theorem dX8_character_9 : decode cX8_character 9 = .ok (.getfield 23, 3) := by decide +kernel
theorem dX8_character_12 : decode cX8_character 12 = .ok (.iload_n 1, 1) := by decide +kernel
theorem dX8_character_13 : decode cX8_character 13 = .ok (.iaload, 1) := by decide +kernel
theorem dX8_character_14 : decode cX8_character 14 = .ok (.goto 4, 3) := by decide +kernel
theorem dX8_character_17 : decode cX8_character 17 = .ok (.iconst (-1), 1) := by decide +kernel
theorem dX8_character_18 : decode cX8_character 18 = .ok (.ireturn, 1) := by decide +kernel
theorem dX8_isNext_0 : decode cX8_isNext 0 = .ok (.aload_n 0, 1) := by decide +kernel
theorem dX8_isNext_1 : decode cX8_isNext 1 = .ok (.aload_n 0, 1) := by decide +kernel
theorem dX8_isNext_2 : decode cX8_isNext 2 = .ok (.getfield 210, 3) := by decide +kernel
theorem dX8_isNext_5 : decode cX8_isNext 5 = .ok (.invokevirtual 213, 3) := by decide +kernel
theorem dX8_isNext_8 : decode cX8_isNext 8 = .ok (.iload_n 1, 1) := by decide +kernel
theorem dX8_isNext_9 : decode cX8_isNext 9 = .ok (.if_icmp .ne 7, 3) := by decide +kernel
theorem dX8_isNext_12 : decode cX8_isNext 12 = .ok (.iconst 1, 1) := by decide +kernel
theorem dX8_isNext_13 : decode cX8_isNext 13 = .ok (.goto 4, 3) := by decide +kernel
theorem dX8_isNext_16 : decode cX8_isNext 16 = .ok (.iconst 0, 1) := by decide +kernel
theorem dX8_isNext_17 : decode cX8_isNext 17 = .ok (.istore_n 2, 1) := by decide +kernel
theorem dX8_isNext_18 : decode cX8_isNext 18 = .ok (.aload_n 0, 1) := by decide +kernel
theorem dX8_isNext_19 : decode cX8_isNext 19 = .ok (.dup, 1) := by decide +kernel
theorem dX8_isNext_20 : decode cX8_isNext 20 = .ok (.getfield 210, 3) := by decide +kernel
theorem dX8_isNext_23 : decode cX8_isNext 23 = .ok (.iload_n 2, 1) := by decide +kernel
theorem dX8_isNext_24 : decode cX8_isNext 24 = .ok (.ifCond .eq 7, 3) := by decide +kernel
theorem dX8_isNext_27 : decode cX8_isNext 27 = .ok (.iconst 1, 1) := by decide +kernel
theorem dX8_isNext_28 : decode cX8_isNext 28 = .ok (.goto 4, 3) := by decide +kernel
theorem dX8_isNext_31 : decode cX8_isNext 31 = .ok (.iconst 0, 1) := by decide +kernel
theorem dX8_isNext_32 : decode cX8_isNext 32 = .ok (.iadd, 1) := by decide +kernel
theorem dX8_isNext_33 : decode cX8_isNext 33 = .ok (.putfield 210, 3) := by decide +kernel
theorem dX8_isNext_36 : decode cX8_isNext 36 = .ok (.iload_n 2, 1) := by decide +kernel
theorem dX8_isNext_37 : decode cX8_isNext 37 = .ok (.ireturn, 1) := by decide +kernel
theorem dX8_readsNumber_0 : decode cX8_readsNumber 0 = .ok (.aload_n 0, 1) := by decide +kernel
theorem dX8_readsNumber_1 : decode cX8_readsNumber 1 = .ok (.iconst 0, 1) := by decide +kernel
theorem dX8_readsNumber_2 : decode cX8_readsNumber 2 = .ok (.putfield 216, 3) := by decide +kernel
theorem dX8_readsNumber_5 : decode cX8_readsNumber 5 = .ok (.iconst 0, 1) := by decide +kernel
theorem dX8_readsNumber_6 : decode cX8_readsNumber 6 = .ok (.istore_n 1, 1) := by decide +kernel
theorem dX8_readsNumber_7 : decode cX8_readsNumber 7 = .ok (.iload_n 1, 1) := by decide +kernel
theorem dX8_readsNumber_8 : decode cX8_readsNumber 8 = .ok (.bipush 6, 2) := by decide +kernel
theorem dX8_readsNumber_10 : decode cX8_readsNumber 10 = .ok (.if_icmp .ge 60, 3) := by decide +kernel
theorem dX8_readsNumber_13 : decode cX8_readsNumber 13 = .ok (.aload_n 0, 1) := by decide +kernel
theorem dX8_readsNumber_14 : decode cX8_readsNumber 14 = .ok (.aload_n 0, 1) := by decide +kernel
theorem dX8_readsNumber_15 : decode cX8_readsNumber 15 = .ok (.getfield 210, 3) := by decide +kernel
theorem dX8_readsNumber_18 : decode cX8_readsNumber 18 = .ok (.invokevirtual 213, 3) := by decide +kernel
theorem dX8_readsNumber_21 : decode cX8_readsNumber 21 = .ok (.bipush 48, 2) := by decide +kernel
theorem dX8_readsNumber_23 : decode cX8_readsNumber 23 = .ok (.bipush 57, 2) := by decide +kernel
theorem dX8_readsNumber_25 : decode cX8_readsNumber 25 = .ok (.invokestatic 67, 3) := by decide +kernel
theorem dX8_readsNumber_28 : decode cX8_readsNumber 28 = .ok (.ifCond .eq 42, 3) := by decide +kernel
theorem dX8_readsNumber_31 : decode cX8_readsNumber 31 = .ok (.aload_n 0, 1) := by decide +kernel
theorem dX8_readsNumber_32 : decode cX8_readsNumber 32 = .ok (.bipush 10, 2) := by decide +kernel
theorem dX8_readsNumber_34 : decode cX8_readsNumber 34 = .ok (.aload_n 0, 1) := by decide +kernel
theorem dX8_readsNumber_35 : decode cX8_readsNumber 35 = .ok (.getfield 216, 3) := by decide +kernel
theorem dX8_readsNumber_38 : decode cX8_readsNumber 38 = .ok (.imul, 1) := by decide +kernel
theorem dX8_readsNumber_39 : decode cX8_readsNumber 39 = .ok (.aload_n 0, 1) := by decide +kernel
theorem dX8_readsNumber_40 : decode cX8_readsNumber 40 = .ok (.aload_n 0, 1) := by decide +kernel
theorem dX8_readsNumber_41 : decode cX8_readsNumber 41 = .ok (.getfield 210, 3) := by decide +kernel
theorem dX8_readsNumber_44 : decode cX8_readsNumber 44 = .ok (.invokevirtual 213, 3) := by decide +kernel
theorem dX8_readsNumber_47 : decode cX8_readsNumber 47 = .ok (.iadd, 1) := by decide +kernel
theorem dX8_readsNumber_48 : decode cX8_readsNumber 48 = .ok (.bipush 48, 2) := by decide +kernel
theorem dX8_readsNumber_50 : decode cX8_readsNumber 50 = .ok (.isub, 1) := by decide +kernel
theorem dX8_readsNumber_51 : decode cX8_readsNumber 51 = .ok (.putfield 216, 3) := by decide +kernel
theorem dX8_readsNumber_54 : decode cX8_readsNumber 54 = .ok (.iinc 1 1, 3) := by decide +kernel
theorem dX8_readsNumber_57 : decode cX8_readsNumber 57 = .ok (.aload_n 0, 1) := by decide +kernel
theorem dX8_readsNumber_58 : decode cX8_readsNumber 58 = .ok (.dup, 1) := by decide +kernel
theorem dX8_readsNumber_59 : decode cX8_readsNumber 59 = .ok (.getfield 210, 3) := by decide +kernel
theorem dX8_readsNumber_62 : decode cX8_readsNumber 62 = .ok (.iconst 1, 1) := by decide +kernel
theorem dX8_readsNumber_63 : decode cX8_readsNumber 63 = .ok (.iadd, 1) := by decide +kernel
theorem dX8_readsNumber_64 : decode cX8_readsNumber 64 = .ok (.putfield 210, 3) := by decide +kernel
theorem dX8_readsNumber_67 : decode cX8_readsNumber 67 = .ok (.goto (-60), 3) := by decide +kernel
theorem dX8_readsNumber_70 : decode cX8_readsNumber 70 = .ok (.iload_n 1, 1) := by decide +kernel
theorem dX8_readsNumber_71 : decode cX8_readsNumber 71 = .ok (.ifCond .le 7, 3) := by decide +kernel
theorem dX8_readsNumber_74 : decode cX8_readsNumber 74 = .ok (.iconst 1, 1) := by decide +kernel
theorem dX8_readsNumber_75 : decode cX8_readsNumber 75 = .ok (.goto 4, 3) := by decide +kernel
theorem dX8_readsNumber_78 : decode cX8_readsNumber 78 = .ok (.iconst 0, 1) := by decide +kernel
theorem dX8_readsNumber_79 : decode cX8_readsNumber 79 = .ok (.ireturn, 1) := by decide +kernel
theorem dX8_readsOrder_0 : decode cX8_readsOrder 0 = .ok (.aload_n 0, 1) := by decide +kernel
theorem dX8_readsOrder_1 : decode cX8_readsOrder 1 = .ok (.aload_n 0, 1) := by decide +kernel
theorem dX8_readsOrder_2 : decode cX8_readsOrder 2 = .ok (.aload_n 0, 1) := by decide +kernel
theorem dX8_readsOrder_3 : decode cX8_readsOrder 3 = .ok (.getfield 210, 3) := by decide +kernel
theorem dX8_readsOrder_6 : decode cX8_readsOrder 6 = .ok (.invokevirtual 213, 3) := by decide +kernel
theorem dX8_readsOrder_9 : decode cX8_readsOrder 9 = .ok (.putfield 219, 3) := by decide +kernel
theorem dX8_readsOrder_12 : decode cX8_readsOrder 12 = .ok (.aload_n 0, 1) := by decide +kernel
theorem dX8_readsOrder_13 : decode cX8_readsOrder 13 = .ok (.getfield 219, 3) := by decide +kernel
theorem dX8_readsOrder_16 : decode cX8_readsOrder 16 = .ok (.bipush 114, 2) := by decide +kernel
theorem dX8_readsOrder_18 : decode cX8_readsOrder 18 = .ok (.if_icmp .eq 50, 3) := by decide +kernel
theorem dX8_readsOrder_21 : decode cX8_readsOrder 21 = .ok (.aload_n 0, 1) := by decide +kernel
theorem dX8_readsOrder_22 : decode cX8_readsOrder 22 = .ok (.getfield 219, 3) := by decide +kernel
theorem dX8_readsOrder_25 : decode cX8_readsOrder 25 = .ok (.bipush 112, 2) := by decide +kernel
theorem dX8_readsOrder_27 : decode cX8_readsOrder 27 = .ok (.if_icmp .eq 41, 3) := by decide +kernel
theorem dX8_readsOrder_30 : decode cX8_readsOrder 30 = .ok (.aload_n 0, 1) := by decide +kernel
theorem dX8_readsOrder_31 : decode cX8_readsOrder 31 = .ok (.getfield 219, 3) := by decide +kernel
theorem dX8_readsOrder_34 : decode cX8_readsOrder 34 = .ok (.bipush 116, 2) := by decide +kernel
theorem dX8_readsOrder_36 : decode cX8_readsOrder 36 = .ok (.if_icmp .eq 32, 3) := by decide +kernel
theorem dX8_readsOrder_39 : decode cX8_readsOrder 39 = .ok (.aload_n 0, 1) := by decide +kernel
theorem dX8_readsOrder_40 : decode cX8_readsOrder 40 = .ok (.getfield 219, 3) := by decide +kernel
theorem dX8_readsOrder_43 : decode cX8_readsOrder 43 = .ok (.bipush 98, 2) := by decide +kernel
theorem dX8_readsOrder_45 : decode cX8_readsOrder 45 = .ok (.if_icmp .eq 23, 3) := by decide +kernel
theorem dX8_readsOrder_48 : decode cX8_readsOrder 48 = .ok (.aload_n 0, 1) := by decide +kernel
theorem dX8_readsOrder_49 : decode cX8_readsOrder 49 = .ok (.getfield 219, 3) := by decide +kernel
theorem dX8_readsOrder_52 : decode cX8_readsOrder 52 = .ok (.bipush 115, 2) := by decide +kernel
theorem dX8_readsOrder_54 : decode cX8_readsOrder 54 = .ok (.if_icmp .eq 14, 3) := by decide +kernel
theorem dX8_readsOrder_57 : decode cX8_readsOrder 57 = .ok (.aload_n 0, 1) := by decide +kernel
theorem dX8_readsOrder_58 : decode cX8_readsOrder 58 = .ok (.getfield 219, 3) := by decide +kernel
theorem dX8_readsOrder_61 : decode cX8_readsOrder 61 = .ok (.bipush 100, 2) := by decide +kernel
theorem dX8_readsOrder_63 : decode cX8_readsOrder 63 = .ok (.if_icmp .eq 5, 3) := by decide +kernel
theorem dX8_readsOrder_66 : decode cX8_readsOrder 66 = .ok (.iconst 0, 1) := by decide +kernel
theorem dX8_readsOrder_67 : decode cX8_readsOrder 67 = .ok (.ireturn, 1) := by decide +kernel
theorem dX8_readsOrder_68 : decode cX8_readsOrder 68 = .ok (.aload_n 0, 1) := by decide +kernel
theorem dX8_readsOrder_69 : decode cX8_readsOrder 69 = .ok (.dup, 1) := by decide +kernel
theorem dX8_readsOrder_70 : decode cX8_readsOrder 70 = .ok (.getfield 210, 3) := by decide +kernel
theorem dX8_readsOrder_73 : decode cX8_readsOrder 73 = .ok (.iconst 1, 1) := by decide +kernel
theorem dX8_readsOrder_74 : decode cX8_readsOrder 74 = .ok (.iadd, 1) := by decide +kernel
theorem dX8_readsOrder_75 : decode cX8_readsOrder 75 = .ok (.putfield 210, 3) := by decide +kernel
theorem dX8_readsOrder_78 : decode cX8_readsOrder 78 = .ok (.aload_n 0, 1) := by decide +kernel
theorem dX8_readsOrder_79 : decode cX8_readsOrder 79 = .ok (.invokevirtual 222, 3) := by decide +kernel
theorem dX8_readsOrder_82 : decode cX8_readsOrder 82 = .ok (.istore_n 1, 1) := by decide +kernel
theorem dX8_readsOrder_83 : decode cX8_readsOrder 83 = .ok (.aload_n 0, 1) := by decide +kernel
theorem dX8_readsOrder_84 : decode cX8_readsOrder 84 = .ok (.aload_n 0, 1) := by decide +kernel
theorem dX8_readsOrder_85 : decode cX8_readsOrder 85 = .ok (.getfield 216, 3) := by decide +kernel
theorem dX8_readsOrder_88 : decode cX8_readsOrder 88 = .ok (.putfield 226, 3) := by decide +kernel
theorem dX8_readsOrder_91 : decode cX8_readsOrder 91 = .ok (.aload_n 0, 1) := by decide +kernel
theorem dX8_readsOrder_92 : decode cX8_readsOrder 92 = .ok (.getfield 219, 3) := by decide +kernel
theorem dX8_readsOrder_95 : decode cX8_readsOrder 95 = .ok (.bipush 115, 2) := by decide +kernel
theorem dX8_readsOrder_97 : decode cX8_readsOrder 97 = .ok (.if_icmp .eq 12, 3) := by decide +kernel
theorem dX8_readsOrder_100 : decode cX8_readsOrder 100 = .ok (.aload_n 0, 1) := by decide +kernel
theorem dX8_readsOrder_101 : decode cX8_readsOrder 101 = .ok (.getfield 219, 3) := by decide +kernel
theorem dX8_readsOrder_104 : decode cX8_readsOrder 104 = .ok (.bipush 100, 2) := by decide +kernel
theorem dX8_readsOrder_106 : decode cX8_readsOrder 106 = .ok (.if_icmp .ne 5, 3) := by decide +kernel
theorem dX8_readsOrder_109 : decode cX8_readsOrder 109 = .ok (.iload_n 1, 1) := by decide +kernel
theorem dX8_readsOrder_110 : decode cX8_readsOrder 110 = .ok (.ireturn, 1) := by decide +kernel
theorem dX8_readsOrder_111 : decode cX8_readsOrder 111 = .ok (.aload_n 0, 1) := by decide +kernel
theorem dX8_readsOrder_112 : decode cX8_readsOrder 112 = .ok (.getfield 219, 3) := by decide +kernel
theorem dX8_readsOrder_115 : decode cX8_readsOrder 115 = .ok (.bipush 116, 2) := by decide +kernel
theorem dX8_readsOrder_117 : decode cX8_readsOrder 117 = .ok (.if_icmp .ne 37, 3) := by decide +kernel
theorem dX8_readsOrder_120 : decode cX8_readsOrder 120 = .ok (.iload_n 1, 1) := by decide +kernel
theorem dX8_readsOrder_121 : decode cX8_readsOrder 121 = .ok (.ifCond .eq 23, 3) := by decide +kernel
theorem dX8_readsOrder_124 : decode cX8_readsOrder 124 = .ok (.aload_n 0, 1) := by decide +kernel
theorem dX8_readsOrder_125 : decode cX8_readsOrder 125 = .ok (.bipush 62, 2) := by decide +kernel
theorem dX8_readsOrder_127 : decode cX8_readsOrder 127 = .ok (.invokevirtual 229, 3) := by decide +kernel
theorem dX8_readsOrder_130 : decode cX8_readsOrder 130 = .ok (.ifCond .eq 14, 3) := by decide +kernel
theorem dX8_readsOrder_133 : decode cX8_readsOrder 133 = .ok (.aload_n 0, 1) := by decide +kernel
theorem dX8_readsOrder_134 : decode cX8_readsOrder 134 = .ok (.invokevirtual 222, 3) := by decide +kernel
theorem dX8_readsOrder_137 : decode cX8_readsOrder 137 = .ok (.ifCond .eq 7, 3) := by decide +kernel
theorem dX8_readsOrder_140 : decode cX8_readsOrder 140 = .ok (.iconst 1, 1) := by decide +kernel
theorem dX8_readsOrder_141 : decode cX8_readsOrder 141 = .ok (.goto 4, 3) := by decide +kernel
theorem dX8_readsOrder_144 : decode cX8_readsOrder 144 = .ok (.iconst 0, 1) := by decide +kernel
theorem dX8_readsOrder_145 : decode cX8_readsOrder 145 = .ok (.istore_n 1, 1) := by decide +kernel
theorem dX8_readsOrder_146 : decode cX8_readsOrder 146 = .ok (.aload_n 0, 1) := by decide +kernel
theorem dX8_readsOrder_147 : decode cX8_readsOrder 147 = .ok (.aload_n 0, 1) := by decide +kernel
theorem dX8_readsOrder_148 : decode cX8_readsOrder 148 = .ok (.getfield 216, 3) := by decide +kernel
theorem dX8_readsOrder_151 : decode cX8_readsOrder 151 = .ok (.putfield 232, 3) := by decide +kernel
theorem dX8_readsOrder_154 : decode cX8_readsOrder 154 = .ok (.iload_n 1, 1) := by decide +kernel
theorem dX8_readsOrder_155 : decode cX8_readsOrder 155 = .ok (.ifCond .eq 23, 3) := by decide +kernel
theorem dX8_readsOrder_158 : decode cX8_readsOrder 158 = .ok (.aload_n 0, 1) := by decide +kernel
theorem dX8_readsOrder_159 : decode cX8_readsOrder 159 = .ok (.bipush 58, 2) := by decide +kernel
theorem dX8_readsOrder_161 : decode cX8_readsOrder 161 = .ok (.invokevirtual 229, 3) := by decide +kernel
theorem dX8_readsOrder_164 : decode cX8_readsOrder 164 = .ok (.ifCond .eq 14, 3) := by decide +kernel
theorem dX8_readsOrder_167 : decode cX8_readsOrder 167 = .ok (.aload_n 0, 1) := by decide +kernel
theorem dX8_readsOrder_168 : decode cX8_readsOrder 168 = .ok (.invokevirtual 222, 3) := by decide +kernel
theorem dX8_readsOrder_171 : decode cX8_readsOrder 171 = .ok (.ifCond .eq 7, 3) := by decide +kernel
theorem dX8_readsOrder_174 : decode cX8_readsOrder 174 = .ok (.iconst 1, 1) := by decide +kernel
theorem dX8_readsOrder_175 : decode cX8_readsOrder 175 = .ok (.goto 4, 3) := by decide +kernel
theorem dX8_readsOrder_178 : decode cX8_readsOrder 178 = .ok (.iconst 0, 1) := by decide +kernel
theorem dX8_readsOrder_179 : decode cX8_readsOrder 179 = .ok (.istore_n 1, 1) := by decide +kernel
theorem dX8_readsOrder_180 : decode cX8_readsOrder 180 = .ok (.aload_n 0, 1) := by decide +kernel
theorem dX8_readsOrder_181 : decode cX8_readsOrder 181 = .ok (.aload_n 0, 1) := by decide +kernel
theorem dX8_readsOrder_182 : decode cX8_readsOrder 182 = .ok (.getfield 216, 3) := by decide +kernel
theorem dX8_readsOrder_185 : decode cX8_readsOrder 185 = .ok (.putfield 235, 3) := by decide +kernel
theorem dX8_readsOrder_188 : decode cX8_readsOrder 188 = .ok (.iload_n 1, 1) := by decide +kernel
theorem dX8_readsOrder_189 : decode cX8_readsOrder 189 = .ok (.ireturn, 1) := by decide +kernel
theorem dX8_findError_0 : decode cX8_findError 0 = .ok (.aload_n 0, 1) := by decide +kernel
theorem dX8_findError_1 : decode cX8_findError 1 = .ok (.iconst 0, 1) := by decide +kernel
theorem dX8_findError_2 : decode cX8_findError 2 = .ok (.putfield 210, 3) := by decide +kernel
theorem dX8_findError_5 : decode cX8_findError 5 = .ok (.aload_n 0, 1) := by decide +kernel
theorem dX8_findError_6 : decode cX8_findError 6 = .ok (.invokevirtual 238, 3) := by decide +kernel
theorem dX8_findError_9 : decode cX8_findError 9 = .ok (.ifCond .ne 8, 3) := by decide +kernel
theorem dX8_findError_12 : decode cX8_findError 12 = .ok (.aload_n 0, 1) := by decide +kernel
theorem dX8_findError_13 : decode cX8_findError 13 = .ok (.getfield 210, 3) := by decide +kernel
theorem dX8_findError_16 : decode cX8_findError 16 = .ok (.ireturn, 1) := by decide +kernel
theorem dX8_findError_17 : decode cX8_findError 17 = .ok (.aload_n 0, 1) := by decide +kernel
theorem dX8_findError_18 : decode cX8_findError 18 = .ok (.getfield 210, 3) := by decide +kernel
theorem dX8_findError_21 : decode cX8_findError 21 = .ok (.aload_n 0, 1) := by decide +kernel
theorem dX8_findError_22 : decode cX8_findError 22 = .ok (.getfield 207, 3) := by decide +kernel
theorem dX8_findError_25 : decode cX8_findError 25 = .ok (.if_icmp .ne 6, 3) := by decide +kernel
theorem dX8_findError_28 : decode cX8_findError 28 = .ok (.bipush (-6), 2) := by decide +kernel
theorem dX8_findError_30 : decode cX8_findError 30 = .ok (.ireturn, 1) := by decide +kernel
theorem dX8_findError_31 : decode cX8_findError 31 = .ok (.aload_n 0, 1) := by decide +kernel
theorem dX8_findError_32 : decode cX8_findError 32 = .ok (.bipush 59, 2) := by decide +kernel
theorem dX8_findError_34 : decode cX8_findError 34 = .ok (.invokevirtual 229, 3) := by decide +kernel
theorem dX8_findError_37 : decode cX8_findError 37 = .ok (.ifCond .ne (-32), 3) := by decide +kernel
theorem dX8_findError_40 : decode cX8_findError 40 = .ok (.aload_n 0, 1) := by decide +kernel
theorem dX8_findError_41 : decode cX8_findError 41 = .ok (.getfield 210, 3) := by decide +kernel
theorem dX8_findError_44 : decode cX8_findError 44 = .ok (.ireturn, 1) := by decide +kernel
theorem dX8_syntaxError_0 : decode cX8_syntaxError 0 = .ok (.aload_n 0, 1) := by decide +kernel
theorem dX8_syntaxError_1 : decode cX8_syntaxError 1 = .ok (.invokevirtual 241, 3) := by decide +kernel
theorem dX8_syntaxError_4 : decode cX8_syntaxError 4 = .ok (.ireturn, 1) := by decide +kernel
theorem dX8_whyNotDone_0 : decode cX8_whyNotDone 0 = .ok (.aload_n 0, 1) := by decide +kernel
theorem dX8_whyNotDone_1 : decode cX8_whyNotDone 1 = .ok (.getfield 219, 3) := by decide +kernel
theorem dX8_whyNotDone_4 : decode cX8_whyNotDone 4 = .ok (.lookupswitch 117 #[(98, 95), (112, 65), (114, 52), (115, 108), (116, 78)], 52) := by decide +kernel
theorem dX8_whyNotDone_56 : decode cX8_whyNotDone 56 = .ok (.aload_n 0, 1) := by decide +kernel
theorem dX8_whyNotDone_57 : decode cX8_whyNotDone 57 = .ok (.aload_n 0, 1) := by decide +kernel
theorem dX8_whyNotDone_58 : decode cX8_whyNotDone 58 = .ok (.getfield 226, 3) := by decide +kernel
theorem dX8_whyNotDone_61 : decode cX8_whyNotDone 61 = .ok (.aload_n 0, 1) := by decide +kernel
theorem dX8_whyNotDone_62 : decode cX8_whyNotDone 62 = .ok (.getfield 235, 3) := by decide +kernel
theorem dX8_whyNotDone_65 : decode cX8_whyNotDone 65 = .ok (.invokevirtual 97, 3) := by decide +kernel
theorem dX8_whyNotDone_68 : decode cX8_whyNotDone 68 = .ok (.ireturn, 1) := by decide +kernel
theorem dX8_whyNotDone_69 : decode cX8_whyNotDone 69 = .ok (.aload_n 0, 1) := by decide +kernel
theorem dX8_whyNotDone_70 : decode cX8_whyNotDone 70 = .ok (.aload_n 0, 1) := by decide +kernel
theorem dX8_whyNotDone_71 : decode cX8_whyNotDone 71 = .ok (.getfield 226, 3) := by decide +kernel
theorem dX8_whyNotDone_74 : decode cX8_whyNotDone 74 = .ok (.aload_n 0, 1) := by decide +kernel
theorem dX8_whyNotDone_75 : decode cX8_whyNotDone 75 = .ok (.getfield 235, 3) := by decide +kernel
theorem dX8_whyNotDone_78 : decode cX8_whyNotDone 78 = .ok (.invokevirtual 106, 3) := by decide +kernel
theorem dX8_whyNotDone_81 : decode cX8_whyNotDone 81 = .ok (.ireturn, 1) := by decide +kernel
theorem dX8_whyNotDone_82 : decode cX8_whyNotDone 82 = .ok (.aload_n 0, 1) := by decide +kernel
theorem dX8_whyNotDone_83 : decode cX8_whyNotDone 83 = .ok (.aload_n 0, 1) := by decide +kernel
theorem dX8_whyNotDone_84 : decode cX8_whyNotDone 84 = .ok (.getfield 226, 3) := by decide +kernel
theorem dX8_whyNotDone_87 : decode cX8_whyNotDone 87 = .ok (.aload_n 0, 1) := by decide +kernel
theorem dX8_whyNotDone_88 : decode cX8_whyNotDone 88 = .ok (.getfield 232, 3) := by decide +kernel
theorem dX8_whyNotDone_91 : decode cX8_whyNotDone 91 = .ok (.aload_n 0, 1) := by decide +kernel
theorem dX8_whyNotDone_92 : decode cX8_whyNotDone 92 = .ok (.getfield 235, 3) := by decide +kernel
theorem dX8_whyNotDone_95 : decode cX8_whyNotDone 95 = .ok (.invokevirtual 112, 3) := by decide +kernel
theorem dX8_whyNotDone_98 : decode cX8_whyNotDone 98 = .ok (.ireturn, 1) := by decide +kernel
theorem dX8_whyNotDone_99 : decode cX8_whyNotDone 99 = .ok (.aload_n 0, 1) := by decide +kernel
theorem dX8_whyNotDone_100 : decode cX8_whyNotDone 100 = .ok (.aload_n 0, 1) := by decide +kernel
theorem dX8_whyNotDone_101 : decode cX8_whyNotDone 101 = .ok (.getfield 226, 3) := by decide +kernel
theorem dX8_whyNotDone_104 : decode cX8_whyNotDone 104 = .ok (.aload_n 0, 1) := by decide +kernel
theorem dX8_whyNotDone_105 : decode cX8_whyNotDone 105 = .ok (.getfield 235, 3) := by decide +kernel
theorem dX8_whyNotDone_108 : decode cX8_whyNotDone 108 = .ok (.invokevirtual 129, 3) := by decide +kernel
theorem dX8_whyNotDone_111 : decode cX8_whyNotDone 111 = .ok (.ireturn, 1) := by decide +kernel
theorem dX8_whyNotDone_112 : decode cX8_whyNotDone 112 = .ok (.aload_n 0, 1) := by decide +kernel
theorem dX8_whyNotDone_113 : decode cX8_whyNotDone 113 = .ok (.aload_n 0, 1) := by decide +kernel
theorem dX8_whyNotDone_114 : decode cX8_whyNotDone 114 = .ok (.getfield 226, 3) := by decide +kernel
theorem dX8_whyNotDone_117 : decode cX8_whyNotDone 117 = .ok (.invokevirtual 138, 3) := by decide +kernel
theorem dX8_whyNotDone_120 : decode cX8_whyNotDone 120 = .ok (.ireturn, 1) := by decide +kernel
theorem dX8_whyNotDone_121 : decode cX8_whyNotDone 121 = .ok (.aload_n 0, 1) := by decide +kernel
theorem dX8_whyNotDone_122 : decode cX8_whyNotDone 122 = .ok (.aload_n 0, 1) := by decide +kernel
theorem dX8_whyNotDone_123 : decode cX8_whyNotDone 123 = .ok (.getfield 226, 3) := by decide +kernel
theorem dX8_whyNotDone_126 : decode cX8_whyNotDone 126 = .ok (.invokevirtual 163, 3) := by decide +kernel
theorem dX8_whyNotDone_129 : decode cX8_whyNotDone 129 = .ok (.ireturn, 1) := by decide +kernel
theorem dX8_does_0 : decode cX8_does 0 = .ok (.aload_n 0, 1) := by decide +kernel
theorem dX8_does_1 : decode cX8_does 1 = .ok (.getfield 219, 3) := by decide +kernel
theorem dX8_does_4 : decode cX8_does 4 = .ok (.lookupswitch 132 #[(98, 104), (112, 68), (114, 52), (115, 120), (116, 84)], 52) := by decide +kernel
theorem dX8_does_56 : decode cX8_does 56 = .ok (.aload_n 0, 1) := by decide +kernel
theorem dX8_does_57 : decode cX8_does 57 = .ok (.aload_n 0, 1) := by decide +kernel
theorem dX8_does_58 : decode cX8_does 58 = .ok (.getfield 226, 3) := by decide +kernel
theorem dX8_does_61 : decode cX8_does 61 = .ok (.aload_n 0, 1) := by decide +kernel
theorem dX8_does_62 : decode cX8_does 62 = .ok (.getfield 235, 3) := by decide +kernel
theorem dX8_does_65 : decode cX8_does 65 = .ok (.invokevirtual 100, 3) := by decide +kernel
theorem dX8_does_68 : decode cX8_does 68 = .ok (.pop, 1) := by decide +kernel
theorem dX8_does_69 : decode cX8_does 69 = .ok (.goto 76, 3) := by decide +kernel
theorem dX8_does_72 : decode cX8_does 72 = .ok (.aload_n 0, 1) := by decide +kernel
theorem dX8_does_73 : decode cX8_does 73 = .ok (.aload_n 0, 1) := by decide +kernel
theorem dX8_does_74 : decode cX8_does 74 = .ok (.getfield 226, 3) := by decide +kernel
theorem dX8_does_77 : decode cX8_does 77 = .ok (.aload_n 0, 1) := by decide +kernel
theorem dX8_does_78 : decode cX8_does 78 = .ok (.getfield 235, 3) := by decide +kernel
theorem dX8_does_81 : decode cX8_does 81 = .ok (.invokevirtual 109, 3) := by decide +kernel
theorem dX8_does_84 : decode cX8_does 84 = .ok (.pop, 1) := by decide +kernel
theorem dX8_does_85 : decode cX8_does 85 = .ok (.goto 60, 3) := by decide +kernel
theorem dX8_does_88 : decode cX8_does 88 = .ok (.aload_n 0, 1) := by decide +kernel
theorem dX8_does_89 : decode cX8_does 89 = .ok (.aload_n 0, 1) := by decide +kernel
theorem dX8_does_90 : decode cX8_does 90 = .ok (.getfield 226, 3) := by decide +kernel
theorem dX8_does_93 : decode cX8_does 93 = .ok (.aload_n 0, 1) := by decide +kernel
theorem dX8_does_94 : decode cX8_does 94 = .ok (.getfield 232, 3) := by decide +kernel
theorem dX8_does_97 : decode cX8_does 97 = .ok (.aload_n 0, 1) := by decide +kernel
theorem dX8_does_98 : decode cX8_does 98 = .ok (.getfield 235, 3) := by decide +kernel
theorem dX8_does_101 : decode cX8_does 101 = .ok (.invokevirtual 116, 3) := by decide +kernel
theorem dX8_does_104 : decode cX8_does 104 = .ok (.pop, 1) := by decide +kernel
theorem dX8_does_105 : decode cX8_does 105 = .ok (.goto 40, 3) := by decide +kernel
theorem dX8_does_108 : decode cX8_does 108 = .ok (.aload_n 0, 1) := by decide +kernel
theorem dX8_does_109 : decode cX8_does 109 = .ok (.aload_n 0, 1) := by decide +kernel
theorem dX8_does_110 : decode cX8_does 110 = .ok (.getfield 226, 3) := by decide +kernel
theorem dX8_does_113 : decode cX8_does 113 = .ok (.aload_n 0, 1) := by decide +kernel
theorem dX8_does_114 : decode cX8_does 114 = .ok (.getfield 235, 3) := by decide +kernel
theorem dX8_does_117 : decode cX8_does 117 = .ok (.invokevirtual 132, 3) := by decide +kernel
theorem dX8_does_120 : decode cX8_does 120 = .ok (.pop, 1) := by decide +kernel
theorem dX8_does_121 : decode cX8_does 121 = .ok (.goto 24, 3) := by decide +kernel
theorem dX8_does_124 : decode cX8_does 124 = .ok (.aload_n 0, 1) := by decide +kernel
theorem dX8_does_125 : decode cX8_does 125 = .ok (.aload_n 0, 1) := by decide +kernel
theorem dX8_does_126 : decode cX8_does 126 = .ok (.getfield 226, 3) := by decide +kernel
theorem dX8_does_129 : decode cX8_does 129 = .ok (.invokevirtual 141, 3) := by decide +kernel
theorem dX8_does_132 : decode cX8_does 132 = .ok (.pop, 1) := by decide +kernel
theorem dX8_does_133 : decode cX8_does 133 = .ok (.goto 12, 3) := by decide +kernel
theorem dX8_does_136 : decode cX8_does 136 = .ok (.aload_n 0, 1) := by decide +kernel
theorem dX8_does_137 : decode cX8_does 137 = .ok (.aload_n 0, 1) := by decide +kernel
theorem dX8_does_138 : decode cX8_does 138 = .ok (.getfield 226, 3) := by decide +kernel
theorem dX8_does_141 : decode cX8_does 141 = .ok (.invokevirtual 166, 3) := by decide +kernel
theorem dX8_does_144 : decode cX8_does 144 = .ok (.pop2, 1) := by decide +kernel
theorem dX8_does_145 : decode cX8_does 145 = .ok (.return_, 1) := by decide +kernel
theorem dX8_carryOut_0 : decode cX8_carryOut 0 = .ok (.aload_n 0, 1) := by decide +kernel
theorem dX8_carryOut_1 : decode cX8_carryOut 1 = .ok (.invokevirtual 241, 3) := by decide +kernel
theorem dX8_carryOut_4 : decode cX8_carryOut 4 = .ok (.bipush (-6), 2) := by decide +kernel
theorem dX8_carryOut_6 : decode cX8_carryOut 6 = .ok (.if_icmp .eq 6, 3) := by decide +kernel
theorem dX8_carryOut_9 : decode cX8_carryOut 9 = .ok (.bipush (-5), 2) := by decide +kernel
theorem dX8_carryOut_11 : decode cX8_carryOut 11 = .ok (.ireturn, 1) := by decide +kernel
theorem dX8_carryOut_12 : decode cX8_carryOut 12 = .ok (.aload_n 0, 1) := by decide +kernel
theorem dX8_carryOut_13 : decode cX8_carryOut 13 = .ok (.invokevirtual 72, 3) := by decide +kernel
theorem dX8_carryOut_16 : decode cX8_carryOut 16 = .ok (.iconst 0, 1) := by decide +kernel
theorem dX8_carryOut_17 : decode cX8_carryOut 17 = .ok (.istore_n 1, 1) := by decide +kernel
theorem dX8_carryOut_18 : decode cX8_carryOut 18 = .ok (.aload_n 0, 1) := by decide +kernel
theorem dX8_carryOut_19 : decode cX8_carryOut 19 = .ok (.iconst 0, 1) := by decide +kernel
theorem dX8_carryOut_20 : decode cX8_carryOut 20 = .ok (.putfield 210, 3) := by decide +kernel
theorem dX8_carryOut_23 : decode cX8_carryOut 23 = .ok (.iconst 1, 1) := by decide +kernel
theorem dX8_carryOut_24 : decode cX8_carryOut 24 = .ok (.istore_n 2, 1) := by decide +kernel
theorem dX8_carryOut_25 : decode cX8_carryOut 25 = .ok (.iload_n 2, 1) := by decide +kernel
theorem dX8_carryOut_26 : decode cX8_carryOut 26 = .ok (.ifCond .eq 53, 3) := by decide +kernel
theorem dX8_carryOut_29 : decode cX8_carryOut 29 = .ok (.aload_n 0, 1) := by decide +kernel
theorem dX8_carryOut_30 : decode cX8_carryOut 30 = .ok (.getfield 210, 3) := by decide +kernel
theorem dX8_carryOut_33 : decode cX8_carryOut 33 = .ok (.aload_n 0, 1) := by decide +kernel
theorem dX8_carryOut_34 : decode cX8_carryOut 34 = .ok (.getfield 207, 3) := by decide +kernel
theorem dX8_carryOut_37 : decode cX8_carryOut 37 = .ok (.if_icmp .ge 42, 3) := by decide +kernel
theorem dX8_carryOut_40 : decode cX8_carryOut 40 = .ok (.aload_n 0, 1) := by decide +kernel
theorem dX8_carryOut_41 : decode cX8_carryOut 41 = .ok (.invokevirtual 238, 3) := by decide +kernel
theorem dX8_carryOut_44 : decode cX8_carryOut 44 = .ok (.pop, 1) := by decide +kernel
theorem dX8_carryOut_45 : decode cX8_carryOut 45 = .ok (.aload_n 0, 1) := by decide +kernel
theorem dX8_carryOut_46 : decode cX8_carryOut 46 = .ok (.bipush 59, 2) := by decide +kernel
theorem dX8_carryOut_48 : decode cX8_carryOut 48 = .ok (.invokevirtual 229, 3) := by decide +kernel
theorem dX8_carryOut_51 : decode cX8_carryOut 51 = .ok (.pop, 1) := by decide +kernel
theorem dX8_carryOut_52 : decode cX8_carryOut 52 = .ok (.aload_n 0, 1) := by decide +kernel
theorem dX8_carryOut_53 : decode cX8_carryOut 53 = .ok (.invokevirtual 245, 3) := by decide +kernel
theorem dX8_carryOut_56 : decode cX8_carryOut 56 = .ok (.ifCond .ne 7, 3) := by decide +kernel
theorem dX8_carryOut_59 : decode cX8_carryOut 59 = .ok (.iconst 1, 1) := by decide +kernel
theorem dX8_carryOut_60 : decode cX8_carryOut 60 = .ok (.goto 4, 3) := by decide +kernel
theorem dX8_carryOut_63 : decode cX8_carryOut 63 = .ok (.iconst 0, 1) := by decide +kernel
theorem dX8_carryOut_64 : decode cX8_carryOut 64 = .ok (.istore_n 2, 1) := by decide +kernel
theorem dX8_carryOut_65 : decode cX8_carryOut 65 = .ok (.iload_n 2, 1) := by decide +kernel
theorem dX8_carryOut_66 : decode cX8_carryOut 66 = .ok (.ifCond .eq (-41), 3) := by decide +kernel
theorem dX8_carryOut_69 : decode cX8_carryOut 69 = .ok (.aload_n 0, 1) := by decide +kernel
theorem dX8_carryOut_70 : decode cX8_carryOut 70 = .ok (.invokevirtual 248, 3) := by decide +kernel
theorem dX8_carryOut_73 : decode cX8_carryOut 73 = .ok (.iinc 1 1, 3) := by decide +kernel
theorem dX8_carryOut_76 : decode cX8_carryOut 76 = .ok (.goto (-51), 3) := by decide +kernel
theorem dX8_carryOut_79 : decode cX8_carryOut 79 = .ok (.aload_n 0, 1) := by decide +kernel
theorem dX8_carryOut_80 : decode cX8_carryOut 80 = .ok (.iconst 0, 1) := by decide +kernel
theorem dX8_carryOut_81 : decode cX8_carryOut 81 = .ok (.putfield 207, 3) := by decide +kernel
theorem dX8_carryOut_84 : decode cX8_carryOut 84 = .ok (.iload_n 1, 1) := by decide +kernel
theorem dX8_carryOut_85 : decode cX8_carryOut 85 = .ok (.ireturn, 1) := by decide +kernel
theorem dX8_undo_0 : decode cX8_undo 0 = .ok (.aload_n 0, 1) := by decide +kernel
theorem dX8_undo_1 : decode cX8_undo 1 = .ok (.getfield 30, 3) := by decide +kernel
theorem dX8_undo_4 : decode cX8_undo 4 = .ok (.ifCond .ne 6, 3) := by decide +kernel
theorem dX8_undo_7 : decode cX8_undo 7 = .ok (.bipush (-3), 2) := by decide +kernel
theorem dX8_undo_9 : decode cX8_undo 9 = .ok (.ireturn, 1) := by decide +kernel
theorem dX8_undo_10 : decode cX8_undo 10 = .ok (.aload_n 0, 1) := by decide +kernel
theorem dX8_undo_11 : decode cX8_undo 11 = .ok (.dup, 1) := by decide +kernel
theorem dX8_undo_12 : decode cX8_undo 12 = .ok (.getfield 30, 3) := by decide +kernel
theorem dX8_undo_15 : decode cX8_undo 15 = .ok (.iconst 1, 1) := by decide +kernel
theorem dX8_undo_16 : decode cX8_undo 16 = .ok (.isub, 1) := by decide +kernel
theorem dX8_undo_17 : decode cX8_undo 17 = .ok (.putfield 30, 3) := by decide +kernel
theorem dX8_undo_20 : decode cX8_undo 20 = .ok (.iconst 0, 1) := by decide +kernel
theorem dX8_undo_21 : decode cX8_undo 21 = .ok (.istore_n 1, 1) := by decide +kernel
theorem dX8_undo_22 : decode cX8_undo 22 = .ok (.iload_n 1, 1) := by decide +kernel
theorem dX8_undo_23 : decode cX8_undo 23 = .ok (.sipush 336, 3) := by decide +kernel
theorem dX8_undo_26 : decode cX8_undo 26 = .ok (.if_icmp .ge 30, 3) := by decide +kernel
theorem dX8_undo_29 : decode cX8_undo 29 = .ok (.aload_n 0, 1) := by decide +kernel
theorem dX8_undo_30 : decode cX8_undo 30 = .ok (.getfield 7, 3) := by decide +kernel
theorem dX8_undo_33 : decode cX8_undo 33 = .ok (.iload_n 1, 1) := by decide +kernel
theorem dX8_undo_34 : decode cX8_undo 34 = .ok (.aload_n 0, 1) := by decide +kernel
theorem dX8_undo_35 : decode cX8_undo 35 = .ok (.getfield 17, 3) := by decide +kernel
theorem dX8_undo_38 : decode cX8_undo 38 = .ok (.aload_n 0, 1) := by decide +kernel
theorem dX8_undo_39 : decode cX8_undo 39 = .ok (.getfield 30, 3) := by decide +kernel
theorem dX8_undo_42 : decode cX8_undo 42 = .ok (.sipush 336, 3) := by decide +kernel
theorem dX8_undo_45 : decode cX8_undo 45 = .ok (.imul, 1) := by decide +kernel
theorem dX8_undo_46 : decode cX8_undo 46 = .ok (.iload_n 1, 1) := by decide +kernel
theorem dX8_undo_47 : decode cX8_undo 47 = .ok (.iadd, 1) := by decide +kernel
theorem dX8_undo_48 : decode cX8_undo 48 = .ok (.iaload, 1) := by decide +kernel
theorem dX8_undo_49 : decode cX8_undo 49 = .ok (.iastore, 1) := by decide +kernel
theorem dX8_undo_50 : decode cX8_undo 50 = .ok (.iinc 1 1, 3) := by decide +kernel
theorem dX8_undo_53 : decode cX8_undo 53 = .ok (.goto (-31), 3) := by decide +kernel
theorem dX8_undo_56 : decode cX8_undo 56 = .ok (.iconst 0, 1) := by decide +kernel
theorem dX8_undo_57 : decode cX8_undo 57 = .ok (.istore_n 1, 1) := by decide +kernel
