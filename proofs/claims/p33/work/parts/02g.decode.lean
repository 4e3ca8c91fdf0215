theorem dX5_reverseEntry_236 : decode cX5_reverseEntry 236 = .ok (.getfield 62, 3) := by decide +kernel
theorem dX5_reverseEntry_239 : decode cX5_reverseEntry 239 = .ok (.iload 9, 2) := by decide +kernel
theorem dX5_reverseEntry_241 : decode cX5_reverseEntry 241 = .ok (.i2l, 1) := by decide +kernel
theorem dX5_reverseEntry_242 : decode cX5_reverseEntry 242 = .ok (.lsub, 1) := by decide +kernel
theorem dX5_reverseEntry_243 : decode cX5_reverseEntry 243 = .ok (.putfield 62, 3) := by decide +kernel
theorem dX5_reverseEntry_246 : decode cX5_reverseEntry 246 = .ok (.aload_n 0, 1) := by decide +kernel
theorem dX5_reverseEntry_247 : decode cX5_reverseEntry 247 = .ok (.getfield 31, 3) := by decide +kernel
theorem dX5_reverseEntry_250 : decode cX5_reverseEntry 250 = .ok (.iload_n 1, 1) := by decide +kernel
theorem dX5_reverseEntry_251 : decode cX5_reverseEntry 251 = .ok (.invokevirtual 151, 3) := by decide +kernel
theorem dX5_reverseEntry_254 : decode cX5_reverseEntry 254 = .ok (.aload_n 0, 1) := by decide +kernel
theorem dX5_reverseEntry_255 : decode cX5_reverseEntry 255 = .ok (.bipush 6, 2) := by decide +kernel
theorem dX5_reverseEntry_257 : decode cX5_reverseEntry 257 = .ok (.iload_n 3, 1) := by decide +kernel
theorem dX5_reverseEntry_258 : decode cX5_reverseEntry 258 = .ok (.iload 4, 2) := by decide +kernel
theorem dX5_reverseEntry_260 : decode cX5_reverseEntry 260 = .ok (.iload 9, 2) := by decide +kernel
theorem dX5_reverseEntry_262 : decode cX5_reverseEntry 262 = .ok (.invokevirtual 104, 3) := by decide +kernel
theorem dX5_reverseEntry_265 : decode cX5_reverseEntry 265 = .ok (.aload_n 0, 1) := by decide +kernel
theorem dX5_reverseEntry_266 : decode cX5_reverseEntry 266 = .ok (.getfield 31, 3) := by decide +kernel
theorem dX5_reverseEntry_269 : decode cX5_reverseEntry 269 = .ok (.getfield 154, 3) := by decide +kernel
theorem dX5_reverseEntry_272 : decode cX5_reverseEntry 272 = .ok (.ireturn, 1) := by decide +kernel
theorem dX5_freeAt_0 : decode cX5_freeAt 0 = .ok (.aload_n 0, 1) := by decide +kernel
theorem dX5_freeAt_1 : decode cX5_freeAt 1 = .ok (.getfield 12, 3) := by decide +kernel
theorem dX5_freeAt_4 : decode cX5_freeAt 4 = .ok (.iload_n 1, 1) := by decide +kernel
theorem dX5_freeAt_5 : decode cX5_freeAt 5 = .ok (.invokevirtual 87, 3) := by decide +kernel
theorem dX5_freeAt_8 : decode cX5_freeAt 8 = .ok (.aload_n 0, 1) := by decide +kernel
theorem dX5_freeAt_9 : decode cX5_freeAt 9 = .ok (.getfield 21, 3) := by decide +kernel
theorem dX5_freeAt_12 : decode cX5_freeAt 12 = .ok (.aload_n 0, 1) := by decide +kernel
theorem dX5_freeAt_13 : decode cX5_freeAt 13 = .ok (.getfield 12, 3) := by decide +kernel
theorem dX5_freeAt_16 : decode cX5_freeAt 16 = .ok (.iload_n 1, 1) := by decide +kernel
theorem dX5_freeAt_17 : decode cX5_freeAt 17 = .ok (.invokevirtual 157, 3) := by decide +kernel
theorem dX5_freeAt_20 : decode cX5_freeAt 20 = .ok (.iconst 2, 1) := by decide +kernel
theorem dX5_freeAt_21 : decode cX5_freeAt 21 = .ok (.invokevirtual 160, 3) := by decide +kernel
theorem dX5_freeAt_24 : decode cX5_freeAt 24 = .ok (.isub, 1) := by decide +kernel
theorem dX5_freeAt_25 : decode cX5_freeAt 25 = .ok (.ireturn, 1) := by decide +kernel
theorem dX5_aboutClient_0 : decode cX5_aboutClient 0 = .ok (.aload_n 0, 1) := by decide +kernel
theorem dX5_aboutClient_1 : decode cX5_aboutClient 1 = .ok (.getfield 12, 3) := by decide +kernel
theorem dX5_aboutClient_4 : decode cX5_aboutClient 4 = .ok (.iload_n 1, 1) := by decide +kernel
theorem dX5_aboutClient_5 : decode cX5_aboutClient 5 = .ok (.invokevirtual 157, 3) := by decide +kernel
theorem dX5_aboutClient_8 : decode cX5_aboutClient 8 = .ok (.istore_n 3, 1) := by decide +kernel
theorem dX5_aboutClient_9 : decode cX5_aboutClient 9 = .ok (.iload_n 2, 1) := by decide +kernel
theorem dX5_aboutClient_10 : decode cX5_aboutClient 10 = .ok (.tableswitch 128 0 7 #[46, 55, 65, 71, 91, 101, 110, 119], 46) := by decide +kernel
theorem dX5_aboutClient_56 : decode cX5_aboutClient 56 = .ok (.aload_n 0, 1) := by decide +kernel
theorem dX5_aboutClient_57 : decode cX5_aboutClient 57 = .ok (.getfield 12, 3) := by decide +kernel
theorem dX5_aboutClient_60 : decode cX5_aboutClient 60 = .ok (.iload_n 1, 1) := by decide +kernel
theorem dX5_aboutClient_61 : decode cX5_aboutClient 61 = .ok (.invokevirtual 87, 3) := by decide +kernel
theorem dX5_aboutClient_64 : decode cX5_aboutClient 64 = .ok (.ireturn, 1) := by decide +kernel
theorem dX5_aboutClient_65 : decode cX5_aboutClient 65 = .ok (.aload_n 0, 1) := by decide +kernel
theorem dX5_aboutClient_66 : decode cX5_aboutClient 66 = .ok (.getfield 21, 3) := by decide +kernel
theorem dX5_aboutClient_69 : decode cX5_aboutClient 69 = .ok (.iload_n 3, 1) := by decide +kernel
theorem dX5_aboutClient_70 : decode cX5_aboutClient 70 = .ok (.iconst 2, 1) := by decide +kernel
theorem dX5_aboutClient_71 : decode cX5_aboutClient 71 = .ok (.invokevirtual 160, 3) := by decide +kernel
theorem dX5_aboutClient_74 : decode cX5_aboutClient 74 = .ok (.ireturn, 1) := by decide +kernel
theorem dX5_aboutClient_75 : decode cX5_aboutClient 75 = .ok (.aload_n 0, 1) := by decide +kernel
theorem dX5_aboutClient_76 : decode cX5_aboutClient 76 = .ok (.iload_n 1, 1) := by decide +kernel
theorem dX5_aboutClient_77 : decode cX5_aboutClient 77 = .ok (.invokevirtual 108, 3) := by decide +kernel
theorem dX5_aboutClient_80 : decode cX5_aboutClient 80 = .ok (.ireturn, 1) := by decide +kernel
theorem dX5_aboutClient_81 : decode cX5_aboutClient 81 = .ok (.aload_n 0, 1) := by decide +kernel
theorem dX5_aboutClient_82 : decode cX5_aboutClient 82 = .ok (.getfield 12, 3) := by decide +kernel
theorem dX5_aboutClient_85 : decode cX5_aboutClient 85 = .ok (.iload_n 1, 1) := by decide +kernel
theorem dX5_aboutClient_86 : decode cX5_aboutClient 86 = .ok (.invokevirtual 163, 3) := by decide +kernel
theorem dX5_aboutClient_89 : decode cX5_aboutClient 89 = .ok (.ldc2_w 167, 3) := by decide +kernel
theorem dX5_aboutClient_92 : decode cX5_aboutClient 92 = .ok (.ldiv, 1) := by decide +kernel
theorem dX5_aboutClient_93 : decode cX5_aboutClient 93 = .ok (.ldc2_w 169, 3) := by decide +kernel
theorem dX5_aboutClient_96 : decode cX5_aboutClient 96 = .ok (.invokestatic 171, 3) := by decide +kernel
theorem dX5_aboutClient_99 : decode cX5_aboutClient 99 = .ok (.l2i, 1) := by decide +kernel
theorem dX5_aboutClient_100 : decode cX5_aboutClient 100 = .ok (.ireturn, 1) := by decide +kernel
theorem dX5_aboutClient_101 : decode cX5_aboutClient 101 = .ok (.aload_n 0, 1) := by decide +kernel
theorem dX5_aboutClient_102 : decode cX5_aboutClient 102 = .ok (.getfield 25, 3) := by decide +kernel
theorem dX5_aboutClient_105 : decode cX5_aboutClient 105 = .ok (.iload_n 3, 1) := by decide +kernel
theorem dX5_aboutClient_106 : decode cX5_aboutClient 106 = .ok (.iconst 2, 1) := by decide +kernel
theorem dX5_aboutClient_107 : decode cX5_aboutClient 107 = .ok (.invokevirtual 160, 3) := by decide +kernel
theorem dX5_aboutClient_110 : decode cX5_aboutClient 110 = .ok (.ireturn, 1) := by decide +kernel
theorem dX5_aboutClient_111 : decode cX5_aboutClient 111 = .ok (.aload_n 0, 1) := by decide +kernel
theorem dX5_aboutClient_112 : decode cX5_aboutClient 112 = .ok (.getfield 12, 3) := by decide +kernel
theorem dX5_aboutClient_115 : decode cX5_aboutClient 115 = .ok (.iload_n 1, 1) := by decide +kernel
theorem dX5_aboutClient_116 : decode cX5_aboutClient 116 = .ok (.invokevirtual 174, 3) := by decide +kernel
theorem dX5_aboutClient_119 : decode cX5_aboutClient 119 = .ok (.ireturn, 1) := by decide +kernel
theorem dX5_aboutClient_120 : decode cX5_aboutClient 120 = .ok (.aload_n 0, 1) := by decide +kernel
theorem dX5_aboutClient_121 : decode cX5_aboutClient 121 = .ok (.getfield 21, 3) := by decide +kernel
theorem dX5_aboutClient_124 : decode cX5_aboutClient 124 = .ok (.iload_n 3, 1) := by decide +kernel
theorem dX5_aboutClient_125 : decode cX5_aboutClient 125 = .ok (.invokevirtual 90, 3) := by decide +kernel
theorem dX5_aboutClient_128 : decode cX5_aboutClient 128 = .ok (.ireturn, 1) := by decide +kernel
theorem dX5_aboutClient_129 : decode cX5_aboutClient 129 = .ok (.aload_n 0, 1) := by decide +kernel
theorem dX5_aboutClient_130 : decode cX5_aboutClient 130 = .ok (.getfield 25, 3) := by decide +kernel
theorem dX5_aboutClient_133 : decode cX5_aboutClient 133 = .ok (.iload_n 3, 1) := by decide +kernel
theorem dX5_aboutClient_134 : decode cX5_aboutClient 134 = .ok (.invokevirtual 90, 3) := by decide +kernel
theorem dX5_aboutClient_137 : decode cX5_aboutClient 137 = .ok (.ireturn, 1) := by decide +kernel
theorem dX5_aboutClient_138 : decode cX5_aboutClient 138 = .ok (.bipush (-2), 2) := by decide +kernel
theorem dX5_aboutClient_140 : decode cX5_aboutClient 140 = .ok (.ireturn, 1) := by decide +kernel
theorem dX5_firstDayWithFree_0 : decode cX5_firstDayWithFree 0 = .ok (.aload_n 0, 1) := by decide +kernel
theorem dX5_firstDayWithFree_1 : decode cX5_firstDayWithFree 1 = .ok (.getfield 12, 3) := by decide +kernel
theorem dX5_firstDayWithFree_4 : decode cX5_firstDayWithFree 4 = .ok (.iload_n 1, 1) := by decide +kernel
theorem dX5_firstDayWithFree_5 : decode cX5_firstDayWithFree 5 = .ok (.invokevirtual 157, 3) := by decide +kernel
theorem dX5_firstDayWithFree_8 : decode cX5_firstDayWithFree 8 = .ok (.istore_n 3, 1) := by decide +kernel
theorem dX5_firstDayWithFree_9 : decode cX5_firstDayWithFree 9 = .ok (.aload_n 0, 1) := by decide +kernel
theorem dX5_firstDayWithFree_10 : decode cX5_firstDayWithFree 10 = .ok (.getfield 12, 3) := by decide +kernel
theorem dX5_firstDayWithFree_13 : decode cX5_firstDayWithFree 13 = .ok (.iload_n 1, 1) := by decide +kernel
theorem dX5_firstDayWithFree_14 : decode cX5_firstDayWithFree 14 = .ok (.invokevirtual 87, 3) := by decide +kernel
theorem dX5_firstDayWithFree_17 : decode cX5_firstDayWithFree 17 = .ok (.istore 4, 2) := by decide +kernel
theorem dX5_firstDayWithFree_19 : decode cX5_firstDayWithFree 19 = .ok (.aload_n 0, 1) := by decide +kernel
theorem dX5_firstDayWithFree_20 : decode cX5_firstDayWithFree 20 = .ok (.getfield 12, 3) := by decide +kernel
theorem dX5_firstDayWithFree_23 : decode cX5_firstDayWithFree 23 = .ok (.iload_n 1, 1) := by decide +kernel
theorem dX5_firstDayWithFree_24 : decode cX5_firstDayWithFree 24 = .ok (.invokevirtual 163, 3) := by decide +kernel
theorem dX5_firstDayWithFree_27 : decode cX5_firstDayWithFree 27 = .ok (.lstore 5, 2) := by decide +kernel
theorem dX5_firstDayWithFree_29 : decode cX5_firstDayWithFree 29 = .ok (.iconst 0, 1) := by decide +kernel
theorem dX5_firstDayWithFree_30 : decode cX5_firstDayWithFree 30 = .ok (.istore 7, 2) := by decide +kernel
theorem dX5_firstDayWithFree_32 : decode cX5_firstDayWithFree 32 = .ok (.iload 7, 2) := by decide +kernel
theorem dX5_firstDayWithFree_34 : decode cX5_firstDayWithFree 34 = .ok (.sipush 400, 3) := by decide +kernel
theorem dX5_firstDayWithFree_37 : decode cX5_firstDayWithFree 37 = .ok (.if_icmp .gt 88, 3) := by decide +kernel
theorem dX5_firstDayWithFree_40 : decode cX5_firstDayWithFree 40 = .ok (.aload_n 0, 1) := by decide +kernel
theorem dX5_firstDayWithFree_41 : decode cX5_firstDayWithFree 41 = .ok (.getfield 35, 3) := by decide +kernel
theorem dX5_firstDayWithFree_44 : decode cX5_firstDayWithFree 44 = .ok (.iload 7, 2) := by decide +kernel
theorem dX5_firstDayWithFree_46 : decode cX5_firstDayWithFree 46 = .ok (.iadd, 1) := by decide +kernel
theorem dX5_firstDayWithFree_47 : decode cX5_firstDayWithFree 47 = .ok (.istore 8, 2) := by decide +kernel
theorem dX5_firstDayWithFree_49 : decode cX5_firstDayWithFree 49 = .ok (.iload 7, 2) := by decide +kernel
theorem dX5_firstDayWithFree_51 : decode cX5_firstDayWithFree 51 = .ok (.ifCond .le 51, 3) := by decide +kernel
theorem dX5_firstDayWithFree_54 : decode cX5_firstDayWithFree 54 = .ok (.lload 5, 2) := by decide +kernel
theorem dX5_firstDayWithFree_56 : decode cX5_firstDayWithFree 56 = .ok (.aload_n 0, 1) := by decide +kernel
theorem dX5_firstDayWithFree_57 : decode cX5_firstDayWithFree 57 = .ok (.iload 4, 2) := by decide +kernel
theorem dX5_firstDayWithFree_59 : decode cX5_firstDayWithFree 59 = .ok (.invokevirtual 177, 3) := by decide +kernel
theorem dX5_firstDayWithFree_62 : decode cX5_firstDayWithFree 62 = .ok (.ladd, 1) := by decide +kernel
theorem dX5_firstDayWithFree_63 : decode cX5_firstDayWithFree 63 = .ok (.lstore 5, 2) := by decide +kernel
theorem dX5_firstDayWithFree_65 : decode cX5_firstDayWithFree 65 = .ok (.iload 8, 2) := by decide +kernel
theorem dX5_firstDayWithFree_67 : decode cX5_firstDayWithFree 67 = .ok (.bipush 30, 2) := by decide +kernel
theorem dX5_firstDayWithFree_69 : decode cX5_firstDayWithFree 69 = .ok (.irem, 1) := by decide +kernel
theorem dX5_firstDayWithFree_70 : decode cX5_firstDayWithFree 70 = .ok (.ifCond .ne 32, 3) := by decide +kernel
theorem dX5_firstDayWithFree_73 : decode cX5_firstDayWithFree 73 = .ok (.aload_n 0, 1) := by decide +kernel
theorem dX5_firstDayWithFree_74 : decode cX5_firstDayWithFree 74 = .ok (.iload 4, 2) := by decide +kernel
theorem dX5_firstDayWithFree_76 : decode cX5_firstDayWithFree 76 = .ok (.lload 5, 2) := by decide +kernel
theorem dX5_firstDayWithFree_78 : decode cX5_firstDayWithFree 78 = .ok (.invokevirtual 180, 3) := by decide +kernel
theorem dX5_firstDayWithFree_81 : decode cX5_firstDayWithFree 81 = .ok (.istore 9, 2) := by decide +kernel
theorem dX5_firstDayWithFree_83 : decode cX5_firstDayWithFree 83 = .ok (.iload 4, 2) := by decide +kernel
theorem dX5_firstDayWithFree_85 : decode cX5_firstDayWithFree 85 = .ok (.iload 9, 2) := by decide +kernel
theorem dX5_firstDayWithFree_87 : decode cX5_firstDayWithFree 87 = .ok (.iadd, 1) := by decide +kernel
theorem dX5_firstDayWithFree_88 : decode cX5_firstDayWithFree 88 = .ok (.istore 4, 2) := by decide +kernel
theorem dX5_firstDayWithFree_90 : decode cX5_firstDayWithFree 90 = .ok (.lload 5, 2) := by decide +kernel
theorem dX5_firstDayWithFree_92 : decode cX5_firstDayWithFree 92 = .ok (.ldc2_w 167, 3) := by decide +kernel
theorem dX5_firstDayWithFree_95 : decode cX5_firstDayWithFree 95 = .ok (.iload 9, 2) := by decide +kernel
theorem dX5_firstDayWithFree_97 : decode cX5_firstDayWithFree 97 = .ok (.i2l, 1) := by decide +kernel
theorem dX5_firstDayWithFree_98 : decode cX5_firstDayWithFree 98 = .ok (.lmul, 1) := by decide +kernel
theorem dX5_firstDayWithFree_99 : decode cX5_firstDayWithFree 99 = .ok (.lsub, 1) := by decide +kernel
theorem dX5_firstDayWithFree_100 : decode cX5_firstDayWithFree 100 = .ok (.lstore 5, 2) := by decide +kernel
theorem dX5_firstDayWithFree_102 : decode cX5_firstDayWithFree 102 = .ok (.iload 4, 2) := by decide +kernel
theorem dX5_firstDayWithFree_104 : decode cX5_firstDayWithFree 104 = .ok (.aload_n 0, 1) := by decide +kernel
theorem dX5_firstDayWithFree_105 : decode cX5_firstDayWithFree 105 = .ok (.iload_n 3, 1) := by decide +kernel
theorem dX5_firstDayWithFree_106 : decode cX5_firstDayWithFree 106 = .ok (.iload 8, 2) := by decide +kernel
theorem dX5_firstDayWithFree_108 : decode cX5_firstDayWithFree 108 = .ok (.invokevirtual 184, 3) := by decide +kernel
theorem dX5_firstDayWithFree_111 : decode cX5_firstDayWithFree 111 = .ok (.isub, 1) := by decide +kernel
theorem dX5_firstDayWithFree_112 : decode cX5_firstDayWithFree 112 = .ok (.iload_n 2, 1) := by decide +kernel
theorem dX5_firstDayWithFree_113 : decode cX5_firstDayWithFree 113 = .ok (.if_icmp .lt 6, 3) := by decide +kernel
theorem dX5_firstDayWithFree_116 : decode cX5_firstDayWithFree 116 = .ok (.iload 8, 2) := by decide +kernel
theorem dX5_firstDayWithFree_118 : decode cX5_firstDayWithFree 118 = .ok (.ireturn, 1) := by decide +kernel
theorem dX5_firstDayWithFree_119 : decode cX5_firstDayWithFree 119 = .ok (.iinc 7 1, 3) := by decide +kernel
theorem dX5_firstDayWithFree_122 : decode cX5_firstDayWithFree 122 = .ok (.goto (-90), 3) := by decide +kernel
theorem dX5_firstDayWithFree_125 : decode cX5_firstDayWithFree 125 = .ok (.bipush (-6), 2) := by decide +kernel
theorem dX5_firstDayWithFree_127 : decode cX5_firstDayWithFree 127 = .ok (.ireturn, 1) := by decide +kernel
theorem dX5_interestAhead_0 : decode cX5_interestAhead 0 = .ok (.aload_n 0, 1) := by decide +kernel
theorem dX5_interestAhead_1 : decode cX5_interestAhead 1 = .ok (.getfield 12, 3) := by decide +kernel
theorem dX5_interestAhead_4 : decode cX5_interestAhead 4 = .ok (.iload_n 1, 1) := by decide +kernel
theorem dX5_interestAhead_5 : decode cX5_interestAhead 5 = .ok (.invokevirtual 87, 3) := by decide +kernel
theorem dX5_interestAhead_8 : decode cX5_interestAhead 8 = .ok (.istore_n 3, 1) := by decide +kernel
theorem dX5_interestAhead_9 : decode cX5_interestAhead 9 = .ok (.aload_n 0, 1) := by decide +kernel
theorem dX5_interestAhead_10 : decode cX5_interestAhead 10 = .ok (.getfield 12, 3) := by decide +kernel
theorem dX5_interestAhead_13 : decode cX5_interestAhead 13 = .ok (.iload_n 1, 1) := by decide +kernel
theorem dX5_interestAhead_14 : decode cX5_interestAhead 14 = .ok (.invokevirtual 163, 3) := by decide +kernel
theorem dX5_interestAhead_17 : decode cX5_interestAhead 17 = .ok (.lstore 4, 2) := by decide +kernel
theorem dX5_interestAhead_19 : decode cX5_interestAhead 19 = .ok (.iconst 0, 1) := by decide +kernel
theorem dX5_interestAhead_20 : decode cX5_interestAhead 20 = .ok (.istore 6, 2) := by decide +kernel
theorem dX5_interestAhead_22 : decode cX5_interestAhead 22 = .ok (.aload_n 0, 1) := by decide +kernel
theorem dX5_interestAhead_23 : decode cX5_interestAhead 23 = .ok (.getfield 35, 3) := by decide +kernel
theorem dX5_interestAhead_26 : decode cX5_interestAhead 26 = .ok (.istore 7, 2) := by decide +kernel
theorem dX5_interestAhead_28 : decode cX5_interestAhead 28 = .ok (.aload_n 0, 1) := by decide +kernel
theorem dX5_interestAhead_29 : decode cX5_interestAhead 29 = .ok (.getfield 35, 3) := by decide +kernel
theorem dX5_interestAhead_32 : decode cX5_interestAhead 32 = .ok (.invokestatic 135, 3) := by decide +kernel
theorem dX5_interestAhead_35 : decode cX5_interestAhead 35 = .ok (.istore 8, 2) := by decide +kernel
theorem dX5_interestAhead_37 : decode cX5_interestAhead 37 = .ok (.iload 8, 2) := by decide +kernel
theorem dX5_interestAhead_39 : decode cX5_interestAhead 39 = .ok (.aload_n 0, 1) := by decide +kernel
theorem dX5_interestAhead_40 : decode cX5_interestAhead 40 = .ok (.getfield 35, 3) := by decide +kernel
theorem dX5_interestAhead_43 : decode cX5_interestAhead 43 = .ok (.iload_n 2, 1) := by decide +kernel
theorem dX5_interestAhead_44 : decode cX5_interestAhead 44 = .ok (.iadd, 1) := by decide +kernel
theorem dX5_interestAhead_45 : decode cX5_interestAhead 45 = .ok (.if_icmp .gt 63, 3) := by decide +kernel
theorem dX5_interestAhead_48 : decode cX5_interestAhead 48 = .ok (.lload 4, 2) := by decide +kernel
theorem dX5_interestAhead_50 : decode cX5_interestAhead 50 = .ok (.aload_n 0, 1) := by decide +kernel
theorem dX5_interestAhead_51 : decode cX5_interestAhead 51 = .ok (.iload_n 3, 1) := by decide +kernel
theorem dX5_interestAhead_52 : decode cX5_interestAhead 52 = .ok (.invokevirtual 177, 3) := by decide +kernel
theorem dX5_interestAhead_55 : decode cX5_interestAhead 55 = .ok (.iload 8, 2) := by decide +kernel
theorem dX5_interestAhead_57 : decode cX5_interestAhead 57 = .ok (.iload 7, 2) := by decide +kernel
theorem dX5_interestAhead_59 : decode cX5_interestAhead 59 = .ok (.isub, 1) := by decide +kernel
theorem dX5_interestAhead_60 : decode cX5_interestAhead 60 = .ok (.i2l, 1) := by decide +kernel
theorem dX5_interestAhead_61 : decode cX5_interestAhead 61 = .ok (.lmul, 1) := by decide +kernel
theorem dX5_interestAhead_62 : decode cX5_interestAhead 62 = .ok (.ladd, 1) := by decide +kernel
theorem dX5_interestAhead_63 : decode cX5_interestAhead 63 = .ok (.lstore 4, 2) := by decide +kernel
theorem dX5_interestAhead_65 : decode cX5_interestAhead 65 = .ok (.aload_n 0, 1) := by decide +kernel
theorem dX5_interestAhead_66 : decode cX5_interestAhead 66 = .ok (.iload_n 3, 1) := by decide +kernel
theorem dX5_interestAhead_67 : decode cX5_interestAhead 67 = .ok (.lload 4, 2) := by decide +kernel
theorem dX5_interestAhead_69 : decode cX5_interestAhead 69 = .ok (.invokevirtual 180, 3) := by decide +kernel
theorem dX5_interestAhead_72 : decode cX5_interestAhead 72 = .ok (.istore 9, 2) := by decide +kernel
theorem dX5_interestAhead_74 : decode cX5_interestAhead 74 = .ok (.iload_n 3, 1) := by decide +kernel
theorem dX5_interestAhead_75 : decode cX5_interestAhead 75 = .ok (.iload 9, 2) := by decide +kernel
theorem dX5_interestAhead_77 : decode cX5_interestAhead 77 = .ok (.iadd, 1) := by decide +kernel
theorem dX5_interestAhead_78 : decode cX5_interestAhead 78 = .ok (.istore_n 3, 1) := by decide +kernel
theorem dX5_interestAhead_79 : decode cX5_interestAhead 79 = .ok (.lload 4, 2) := by decide +kernel
theorem dX5_interestAhead_81 : decode cX5_interestAhead 81 = .ok (.ldc2_w 167, 3) := by decide +kernel
theorem dX5_interestAhead_84 : decode cX5_interestAhead 84 = .ok (.iload 9, 2) := by decide +kernel
theorem dX5_interestAhead_86 : decode cX5_interestAhead 86 = .ok (.i2l, 1) := by decide +kernel
theorem dX5_interestAhead_87 : decode cX5_interestAhead 87 = .ok (.lmul, 1) := by decide +kernel
theorem dX5_interestAhead_88 : decode cX5_interestAhead 88 = .ok (.lsub, 1) := by decide +kernel
theorem dX5_interestAhead_89 : decode cX5_interestAhead 89 = .ok (.lstore 4, 2) := by decide +kernel
theorem dX5_interestAhead_91 : decode cX5_interestAhead 91 = .ok (.iload 6, 2) := by decide +kernel
theorem dX5_interestAhead_93 : decode cX5_interestAhead 93 = .ok (.iload 9, 2) := by decide +kernel
theorem dX5_interestAhead_95 : decode cX5_interestAhead 95 = .ok (.iadd, 1) := by decide +kernel
theorem dX5_interestAhead_96 : decode cX5_interestAhead 96 = .ok (.istore 6, 2) := by decide +kernel
theorem dX5_interestAhead_98 : decode cX5_interestAhead 98 = .ok (.iload 8, 2) := by decide +kernel
theorem dX5_interestAhead_100 : decode cX5_interestAhead 100 = .ok (.istore 7, 2) := by decide +kernel
theorem dX5_interestAhead_102 : decode cX5_interestAhead 102 = .ok (.iinc 8 30, 3) := by decide +kernel
theorem dX5_interestAhead_105 : decode cX5_interestAhead 105 = .ok (.goto (-68), 3) := by decide +kernel
theorem dX5_interestAhead_108 : decode cX5_interestAhead 108 = .ok (.iload 6, 2) := by decide +kernel
theorem dX5_interestAhead_110 : decode cX5_interestAhead 110 = .ok (.ireturn, 1) := by decide +kernel
theorem dX5_growthPerDay_0 : decode cX5_growthPerDay 0 = .ok (.iload_n 1, 1) := by decide +kernel
theorem dX5_growthPerDay_1 : decode cX5_growthPerDay 1 = .ok (.aload_n 0, 1) := by decide +kernel
theorem dX5_growthPerDay_2 : decode cX5_growthPerDay 2 = .ok (.getfield 40, 3) := by decide +kernel
theorem dX5_growthPerDay_5 : decode cX5_growthPerDay 5 = .ok (.invokestatic 122, 3) := by decide +kernel
theorem dX5_growthPerDay_8 : decode cX5_growthPerDay 8 = .ok (.i2l, 1) := by decide +kernel
theorem dX5_growthPerDay_9 : decode cX5_growthPerDay 9 = .ok (.lstore_n 2, 1) := by decide +kernel
theorem dX5_growthPerDay_10 : decode cX5_growthPerDay 10 = .ok (.aload_n 0, 1) := by decide +kernel
theorem dX5_growthPerDay_11 : decode cX5_growthPerDay 11 = .ok (.getfield 43, 3) := by decide +kernel
theorem dX5_growthPerDay_14 : decode cX5_growthPerDay 14 = .ok (.i2l, 1) := by decide +kernel
theorem dX5_growthPerDay_15 : decode cX5_growthPerDay 15 = .ok (.lload_n 2, 1) := by decide +kernel
theorem dX5_growthPerDay_16 : decode cX5_growthPerDay 16 = .ok (.lmul, 1) := by decide +kernel
theorem dX5_growthPerDay_17 : decode cX5_growthPerDay 17 = .ok (.aload_n 0, 1) := by decide +kernel
theorem dX5_growthPerDay_18 : decode cX5_growthPerDay 18 = .ok (.getfield 46, 3) := by decide +kernel
theorem dX5_growthPerDay_21 : decode cX5_growthPerDay 21 = .ok (.i2l, 1) := by decide +kernel
theorem dX5_growthPerDay_22 : decode cX5_growthPerDay 22 = .ok (.iload_n 1, 1) := by decide +kernel
theorem dX5_growthPerDay_23 : decode cX5_growthPerDay 23 = .ok (.i2l, 1) := by decide +kernel
theorem dX5_growthPerDay_24 : decode cX5_growthPerDay 24 = .ok (.lload_n 2, 1) := by decide +kernel
theorem dX5_growthPerDay_25 : decode cX5_growthPerDay 25 = .ok (.lsub, 1) := by decide +kernel
theorem dX5_growthPerDay_26 : decode cX5_growthPerDay 26 = .ok (.lmul, 1) := by decide +kernel
theorem dX5_growthPerDay_27 : decode cX5_growthPerDay 27 = .ok (.ladd, 1) := by decide +kernel
theorem dX5_growthPerDay_28 : decode cX5_growthPerDay 28 = .ok (.lreturn, 1) := by decide +kernel
theorem dX5_interestToCredit_0 : decode cX5_interestToCredit 0 = .ok (.lload_n 2, 1) := by decide +kernel
theorem dX5_interestToCredit_1 : decode cX5_interestToCredit 1 = .ok (.ldc2_w 167, 3) := by decide +kernel
theorem dX5_interestToCredit_4 : decode cX5_interestToCredit 4 = .ok (.ldiv, 1) := by decide +kernel
theorem dX5_interestToCredit_5 : decode cX5_interestToCredit 5 = .ok (.ldc 75, 2) := by decide +kernel
theorem dX5_interestToCredit_7 : decode cX5_interestToCredit 7 = .ok (.iload_n 1, 1) := by decide +kernel
theorem dX5_interestToCredit_8 : decode cX5_interestToCredit 8 = .ok (.isub, 1) := by decide +kernel
theorem dX5_interestToCredit_9 : decode cX5_interestToCredit 9 = .ok (.i2l, 1) := by decide +kernel
theorem dX5_interestToCredit_10 : decode cX5_interestToCredit 10 = .ok (.invokestatic 171, 3) := by decide +kernel
theorem dX5_interestToCredit_13 : decode cX5_interestToCredit 13 = .ok (.lstore 4, 2) := by decide +kernel
theorem dX5_interestToCredit_15 : decode cX5_interestToCredit 15 = .ok (.lload 4, 2) := by decide +kernel
theorem dX5_interestToCredit_17 : decode cX5_interestToCredit 17 = .ok (.aload_n 0, 1) := by decide +kernel
theorem dX5_interestToCredit_18 : decode cX5_interestToCredit 18 = .ok (.getfield 49, 3) := by decide +kernel
theorem dX5_interestToCredit_21 : decode cX5_interestToCredit 21 = .ok (.i2l, 1) := by decide +kernel
theorem dX5_interestToCredit_22 : decode cX5_interestToCredit 22 = .ok (.lcmp, 1) := by decide +kernel
theorem dX5_interestToCredit_23 : decode cX5_interestToCredit 23 = .ok (.ifCond .lt 9, 3) := by decide +kernel
theorem dX5_interestToCredit_26 : decode cX5_interestToCredit 26 = .ok (.lload 4, 2) := by decide +kernel
theorem dX5_interestToCredit_28 : decode cX5_interestToCredit 28 = .ok (.l2i, 1) := by decide +kernel
theorem dX5_interestToCredit_29 : decode cX5_interestToCredit 29 = .ok (.goto 4, 3) := by decide +kernel
theorem dX5_interestToCredit_32 : decode cX5_interestToCredit 32 = .ok (.iconst 0, 1) := by decide +kernel
theorem dX5_interestToCredit_33 : decode cX5_interestToCredit 33 = .ok (.ireturn, 1) := by decide +kernel
theorem dX5_heldOn_0 : decode cX5_heldOn 0 = .ok (.iconst 0, 1) := by decide +kernel
theorem dX5_heldOn_1 : decode cX5_heldOn 1 = .ok (.istore_n 3, 1) := by decide +kernel
theorem dX5_heldOn_2 : decode cX5_heldOn 2 = .ok (.iconst 0, 1) := by decide +kernel
theorem dX5_heldOn_3 : decode cX5_heldOn 3 = .ok (.istore 4, 2) := by decide +kernel
theorem dX5_heldOn_5 : decode cX5_heldOn 5 = .ok (.iload 4, 2) := by decide +kernel
theorem dX5_heldOn_7 : decode cX5_heldOn 7 = .ok (.aload_n 0, 1) := by decide +kernel
theorem dX5_heldOn_8 : decode cX5_heldOn 8 = .ok (.getfield 21, 3) := by decide +kernel
theorem dX5_heldOn_11 : decode cX5_heldOn 11 = .ok (.getfield 111, 3) := by decide +kernel
theorem dX5_heldOn_14 : decode cX5_heldOn 14 = .ok (.if_icmp .ge 50, 3) := by decide +kernel
theorem dX5_heldOn_17 : decode cX5_heldOn 17 = .ok (.aload_n 0, 1) := by decide +kernel
theorem dX5_heldOn_18 : decode cX5_heldOn 18 = .ok (.getfield 21, 3) := by decide +kernel
theorem dX5_heldOn_21 : decode cX5_heldOn 21 = .ok (.iload 4, 2) := by decide +kernel
theorem dX5_heldOn_23 : decode cX5_heldOn 23 = .ok (.iconst 1, 1) := by decide +kernel
theorem dX5_heldOn_24 : decode cX5_heldOn 24 = .ok (.invokevirtual 117, 3) := by decide +kernel
theorem dX5_heldOn_27 : decode cX5_heldOn 27 = .ok (.iload_n 1, 1) := by decide +kernel
theorem dX5_heldOn_28 : decode cX5_heldOn 28 = .ok (.if_icmp .ne 30, 3) := by decide +kernel
theorem dX5_heldOn_31 : decode cX5_heldOn 31 = .ok (.aload_n 0, 1) := by decide +kernel
theorem dX5_heldOn_32 : decode cX5_heldOn 32 = .ok (.getfield 21, 3) := by decide +kernel
theorem dX5_heldOn_35 : decode cX5_heldOn 35 = .ok (.iload 4, 2) := by decide +kernel
theorem dX5_heldOn_37 : decode cX5_heldOn 37 = .ok (.iconst 3, 1) := by decide +kernel
theorem dX5_heldOn_38 : decode cX5_heldOn 38 = .ok (.invokevirtual 117, 3) := by decide +kernel
theorem dX5_heldOn_41 : decode cX5_heldOn 41 = .ok (.iload_n 2, 1) := by decide +kernel
theorem dX5_heldOn_42 : decode cX5_heldOn 42 = .ok (.if_icmp .lt 16, 3) := by decide +kernel
theorem dX5_heldOn_45 : decode cX5_heldOn 45 = .ok (.iload_n 3, 1) := by decide +kernel
theorem dX5_heldOn_46 : decode cX5_heldOn 46 = .ok (.aload_n 0, 1) := by decide +kernel
theorem dX5_heldOn_47 : decode cX5_heldOn 47 = .ok (.getfield 21, 3) := by decide +kernel
theorem dX5_heldOn_50 : decode cX5_heldOn 50 = .ok (.iload 4, 2) := by decide +kernel
theorem dX5_heldOn_52 : decode cX5_heldOn 52 = .ok (.iconst 2, 1) := by decide +kernel
theorem dX5_heldOn_53 : decode cX5_heldOn 53 = .ok (.invokevirtual 117, 3) := by decide +kernel
theorem dX5_heldOn_56 : decode cX5_heldOn 56 = .ok (.iadd, 1) := by decide +kernel
theorem dX5_heldOn_57 : decode cX5_heldOn 57 = .ok (.istore_n 3, 1) := by decide +kernel
theorem dX5_heldOn_58 : decode cX5_heldOn 58 = .ok (.iinc 4 1, 3) := by decide +kernel
theorem dX5_heldOn_61 : decode cX5_heldOn 61 = .ok (.goto (-56), 3) := by decide +kernel
theorem dX5_heldOn_64 : decode cX5_heldOn 64 = .ok (.iload_n 3, 1) := by decide +kernel
theorem dX5_heldOn_65 : decode cX5_heldOn 65 = .ok (.ireturn, 1) := by decide +kernel
theorem dX5_growUntil_0 : decode cX5_growUntil 0 = .ok (.iconst 0, 1) := by decide +kernel
theorem dX5_growUntil_1 : decode cX5_growUntil 1 = .ok (.istore_n 2, 1) := by decide +kernel
theorem dX5_growUntil_2 : decode cX5_growUntil 2 = .ok (.iload_n 2, 1) := by decide +kernel
theorem dX5_growUntil_3 : decode cX5_growUntil 3 = .ok (.aload_n 0, 1) := by decide +kernel
theorem dX5_growUntil_4 : decode cX5_growUntil 4 = .ok (.getfield 12, 3) := by decide +kernel
theorem dX5_growUntil_7 : decode cX5_growUntil 7 = .ok (.getfield 80, 3) := by decide +kernel
theorem dX5_growUntil_10 : decode cX5_growUntil 10 = .ok (.if_icmp .ge 37, 3) := by decide +kernel
theorem dX5_growUntil_13 : decode cX5_growUntil 13 = .ok (.aload_n 0, 1) := by decide +kernel
theorem dX5_growUntil_14 : decode cX5_growUntil 14 = .ok (.getfield 12, 3) := by decide +kernel
theorem dX5_growUntil_17 : decode cX5_growUntil 17 = .ok (.iload_n 2, 1) := by decide +kernel
theorem dX5_growUntil_18 : decode cX5_growUntil 18 = .ok (.aload_n 0, 1) := by decide +kernel
theorem dX5_growUntil_19 : decode cX5_growUntil 19 = .ok (.aload_n 0, 1) := by decide +kernel
theorem dX5_growUntil_20 : decode cX5_growUntil 20 = .ok (.getfield 12, 3) := by decide +kernel
theorem dX5_growUntil_23 : decode cX5_growUntil 23 = .ok (.iload_n 2, 1) := by decide +kernel
theorem dX5_growUntil_24 : decode cX5_growUntil 24 = .ok (.invokevirtual 87, 3) := by decide +kernel
theorem dX5_growUntil_27 : decode cX5_growUntil 27 = .ok (.invokevirtual 177, 3) := by decide +kernel
theorem dX5_growUntil_30 : decode cX5_growUntil 30 = .ok (.iload_n 1, 1) := by decide +kernel
theorem dX5_growUntil_31 : decode cX5_growUntil 31 = .ok (.aload_n 0, 1) := by decide +kernel
theorem dX5_growUntil_32 : decode cX5_growUntil 32 = .ok (.getfield 35, 3) := by decide +kernel
theorem dX5_growUntil_35 : decode cX5_growUntil 35 = .ok (.isub, 1) := by decide +kernel
theorem dX5_growUntil_36 : decode cX5_growUntil 36 = .ok (.i2l, 1) := by decide +kernel
theorem dX5_growUntil_37 : decode cX5_growUntil 37 = .ok (.lmul, 1) := by decide +kernel
theorem dX5_growUntil_38 : decode cX5_growUntil 38 = .ok (.invokevirtual 187, 3) := by decide +kernel
theorem dX5_growUntil_41 : decode cX5_growUntil 41 = .ok (.iinc 2 1, 3) := by decide +kernel
theorem dX5_growUntil_44 : decode cX5_growUntil 44 = .ok (.goto (-42), 3) := by decide +kernel
theorem dX5_growUntil_47 : decode cX5_growUntil 47 = .ok (.aload_n 0, 1) := by decide +kernel
theorem dX5_growUntil_48 : decode cX5_growUntil 48 = .ok (.iload_n 1, 1) := by decide +kernel
theorem dX5_growUntil_49 : decode cX5_growUntil 49 = .ok (.putfield 35, 3) := by decide +kernel
theorem dX5_growUntil_52 : decode cX5_growUntil 52 = .ok (.return_, 1) := by decide +kernel
theorem dX5_creditAll_0 : decode cX5_creditAll 0 = .ok (.iconst 0, 1) := by decide +kernel
theorem dX5_creditAll_1 : decode cX5_creditAll 1 = .ok (.istore_n 1, 1) := by decide +kernel
theorem dX5_creditAll_2 : decode cX5_creditAll 2 = .ok (.iload_n 1, 1) := by decide +kernel
theorem dX5_creditAll_3 : decode cX5_creditAll 3 = .ok (.aload_n 0, 1) := by decide +kernel
theorem dX5_creditAll_4 : decode cX5_creditAll 4 = .ok (.getfield 12, 3) := by decide +kernel
theorem dX5_creditAll_7 : decode cX5_creditAll 7 = .ok (.getfield 80, 3) := by decide +kernel
theorem dX5_creditAll_10 : decode cX5_creditAll 10 = .ok (.if_icmp .ge 83, 3) := by decide +kernel
theorem dX5_creditAll_13 : decode cX5_creditAll 13 = .ok (.aload_n 0, 1) := by decide +kernel
theorem dX5_creditAll_14 : decode cX5_creditAll 14 = .ok (.aload_n 0, 1) := by decide +kernel
theorem dX5_creditAll_15 : decode cX5_creditAll 15 = .ok (.getfield 12, 3) := by decide +kernel
theorem dX5_creditAll_18 : decode cX5_creditAll 18 = .ok (.iload_n 1, 1) := by decide +kernel
theorem dX5_creditAll_19 : decode cX5_creditAll 19 = .ok (.invokevirtual 87, 3) := by decide +kernel
theorem dX5_creditAll_22 : decode cX5_creditAll 22 = .ok (.aload_n 0, 1) := by decide +kernel
theorem dX5_creditAll_23 : decode cX5_creditAll 23 = .ok (.getfield 12, 3) := by decide +kernel
theorem dX5_creditAll_26 : decode cX5_creditAll 26 = .ok (.iload_n 1, 1) := by decide +kernel
theorem dX5_creditAll_27 : decode cX5_creditAll 27 = .ok (.invokevirtual 163, 3) := by decide +kernel
theorem dX5_creditAll_30 : decode cX5_creditAll 30 = .ok (.invokevirtual 180, 3) := by decide +kernel
theorem dX5_creditAll_33 : decode cX5_creditAll 33 = .ok (.istore_n 2, 1) := by decide +kernel
theorem dX5_creditAll_34 : decode cX5_creditAll 34 = .ok (.iload_n 2, 1) := by decide +kernel
theorem dX5_creditAll_35 : decode cX5_creditAll 35 = .ok (.ifCond .le 52, 3) := by decide +kernel
theorem dX5_creditAll_38 : decode cX5_creditAll 38 = .ok (.aload_n 0, 1) := by decide +kernel
theorem dX5_creditAll_39 : decode cX5_creditAll 39 = .ok (.getfield 12, 3) := by decide +kernel
theorem dX5_creditAll_42 : decode cX5_creditAll 42 = .ok (.iload_n 1, 1) := by decide +kernel
theorem dX5_creditAll_43 : decode cX5_creditAll 43 = .ok (.iload_n 2, 1) := by decide +kernel
theorem dX5_creditAll_44 : decode cX5_creditAll 44 = .ok (.invokevirtual 101, 3) := by decide +kernel
theorem dX5_creditAll_47 : decode cX5_creditAll 47 = .ok (.aload_n 0, 1) := by decide +kernel
theorem dX5_creditAll_48 : decode cX5_creditAll 48 = .ok (.getfield 12, 3) := by decide +kernel
theorem dX5_creditAll_51 : decode cX5_creditAll 51 = .ok (.iload_n 1, 1) := by decide +kernel
theorem dX5_creditAll_52 : decode cX5_creditAll 52 = .ok (.ldc2_w 191, 3) := by decide +kernel
theorem dX5_creditAll_55 : decode cX5_creditAll 55 = .ok (.iload_n 2, 1) := by decide +kernel
theorem dX5_creditAll_56 : decode cX5_creditAll 56 = .ok (.i2l, 1) := by decide +kernel
theorem dX5_creditAll_57 : decode cX5_creditAll 57 = .ok (.lmul, 1) := by decide +kernel
theorem dX5_creditAll_58 : decode cX5_creditAll 58 = .ok (.invokevirtual 187, 3) := by decide +kernel
theorem dX5_creditAll_61 : decode cX5_creditAll 61 = .ok (.aload_n 0, 1) := by decide +kernel
theorem dX5_creditAll_62 : decode cX5_creditAll 62 = .ok (.dup, 1) := by decide +kernel
theorem dX5_creditAll_63 : decode cX5_creditAll 63 = .ok (.getfield 56, 3) := by decide +kernel
theorem dX5_creditAll_66 : decode cX5_creditAll 66 = .ok (.iload_n 2, 1) := by decide +kernel
theorem dX5_creditAll_67 : decode cX5_creditAll 67 = .ok (.i2l, 1) := by decide +kernel
theorem dX5_creditAll_68 : decode cX5_creditAll 68 = .ok (.ladd, 1) := by decide +kernel
theorem dX5_creditAll_69 : decode cX5_creditAll 69 = .ok (.putfield 56, 3) := by decide +kernel
theorem dX5_creditAll_72 : decode cX5_creditAll 72 = .ok (.aload_n 0, 1) := by decide +kernel
theorem dX5_creditAll_73 : decode cX5_creditAll 73 = .ok (.iconst 5, 1) := by decide +kernel
theorem dX5_creditAll_74 : decode cX5_creditAll 74 = .ok (.aload_n 0, 1) := by decide +kernel
theorem dX5_creditAll_75 : decode cX5_creditAll 75 = .ok (.getfield 12, 3) := by decide +kernel
theorem dX5_creditAll_78 : decode cX5_creditAll 78 = .ok (.iload_n 1, 1) := by decide +kernel
theorem dX5_creditAll_79 : decode cX5_creditAll 79 = .ok (.invokevirtual 157, 3) := by decide +kernel
theorem dX5_creditAll_82 : decode cX5_creditAll 82 = .ok (.iconst 0, 1) := by decide +kernel
theorem dX5_creditAll_83 : decode cX5_creditAll 83 = .ok (.iload_n 2, 1) := by decide +kernel
theorem dX5_creditAll_84 : decode cX5_creditAll 84 = .ok (.invokevirtual 104, 3) := by decide +kernel
theorem dX5_creditAll_87 : decode cX5_creditAll 87 = .ok (.iinc 1 1, 3) := by decide +kernel
theorem dX5_creditAll_90 : decode cX5_creditAll 90 = .ok (.goto (-88), 3) := by decide +kernel
theorem dX5_creditAll_93 : decode cX5_creditAll 93 = .ok (.return_, 1) := by decide +kernel
theorem dX5_endHoldsThatAreOver_0 : decode cX5_endHoldsThatAreOver 0 = .ok (.aload_n 0, 1) := by decide +kernel
theorem dX5_endHoldsThatAreOver_1 : decode cX5_endHoldsThatAreOver 1 = .ok (.getfield 21, 3) := by decide +kernel
theorem dX5_endHoldsThatAreOver_4 : decode cX5_endHoldsThatAreOver 4 = .ok (.getfield 111, 3) := by decide +kernel
theorem dX5_endHoldsThatAreOver_7 : decode cX5_endHoldsThatAreOver 7 = .ok (.iconst 1, 1) := by decide +kernel
theorem dX5_endHoldsThatAreOver_8 : decode cX5_endHoldsThatAreOver 8 = .ok (.isub, 1) := by decide +kernel
theorem dX5_endHoldsThatAreOver_9 : decode cX5_endHoldsThatAreOver 9 = .ok (.istore_n 1, 1) := by decide +kernel
theorem dX5_endHoldsThatAreOver_10 : decode cX5_endHoldsThatAreOver 10 = .ok (.iload_n 1, 1) := by decide +kernel
theorem dX5_endHoldsThatAreOver_11 : decode cX5_endHoldsThatAreOver 11 = .ok (.ifCond .lt 33, 3) := by decide +kernel
theorem dX5_endHoldsThatAreOver_14 : decode cX5_endHoldsThatAreOver 14 = .ok (.aload_n 0, 1) := by decide +kernel
theorem dX5_endHoldsThatAreOver_15 : decode cX5_endHoldsThatAreOver 15 = .ok (.getfield 21, 3) := by decide +kernel
theorem dX5_endHoldsThatAreOver_18 : decode cX5_endHoldsThatAreOver 18 = .ok (.iload_n 1, 1) := by decide +kernel
theorem dX5_endHoldsThatAreOver_19 : decode cX5_endHoldsThatAreOver 19 = .ok (.iconst 3, 1) := by decide +kernel
theorem dX5_endHoldsThatAreOver_20 : decode cX5_endHoldsThatAreOver 20 = .ok (.invokevirtual 117, 3) := by decide +kernel
theorem dX5_endHoldsThatAreOver_23 : decode cX5_endHoldsThatAreOver 23 = .ok (.aload_n 0, 1) := by decide +kernel
theorem dX5_endHoldsThatAreOver_24 : decode cX5_endHoldsThatAreOver 24 = .ok (.getfield 35, 3) := by decide +kernel
theorem dX5_endHoldsThatAreOver_27 : decode cX5_endHoldsThatAreOver 27 = .ok (.if_icmp .ge 11, 3) := by decide +kernel
theorem dX5_endHoldsThatAreOver_30 : decode cX5_endHoldsThatAreOver 30 = .ok (.aload_n 0, 1) := by decide +kernel
theorem dX5_endHoldsThatAreOver_31 : decode cX5_endHoldsThatAreOver 31 = .ok (.getfield 21, 3) := by decide +kernel
theorem dX5_endHoldsThatAreOver_34 : decode cX5_endHoldsThatAreOver 34 = .ok (.iload_n 1, 1) := by decide +kernel
theorem dX5_endHoldsThatAreOver_35 : decode cX5_endHoldsThatAreOver 35 = .ok (.invokevirtual 121, 3) := by decide +kernel
theorem dX5_endHoldsThatAreOver_38 : decode cX5_endHoldsThatAreOver 38 = .ok (.iinc 1 (-1), 3) := by decide +kernel
theorem dX5_endHoldsThatAreOver_41 : decode cX5_endHoldsThatAreOver 41 = .ok (.goto (-31), 3) := by decide +kernel
theorem dX5_endHoldsThatAreOver_44 : decode cX5_endHoldsThatAreOver 44 = .ok (.return_, 1) := by decide +kernel
theorem dX5_enter_0 : decode cX5_enter 0 = .ok (.aload_n 0, 1) := by decide +kernel
theorem dX5_enter_1 : decode cX5_enter 1 = .ok (.getfield 31, 3) := by decide +kernel
theorem dX5_enter_4 : decode cX5_enter 4 = .ok (.aload_n 0, 1) := by decide +kernel
theorem dX5_enter_5 : decode cX5_enter 5 = .ok (.getfield 35, 3) := by decide +kernel
theorem dX5_enter_8 : decode cX5_enter 8 = .ok (.iload_n 1, 1) := by decide +kernel
theorem dX5_enter_9 : decode cX5_enter 9 = .ok (.iload_n 2, 1) := by decide +kernel
theorem dX5_enter_10 : decode cX5_enter 10 = .ok (.iload_n 3, 1) := by decide +kernel
theorem dX5_enter_11 : decode cX5_enter 11 = .ok (.iload 4, 2) := by decide +kernel
theorem dX5_enter_13 : decode cX5_enter 13 = .ok (.invokevirtual 193, 3) := by decide +kernel
theorem dX5_enter_16 : decode cX5_enter 16 = .ok (.aload_n 0, 1) := by decide +kernel
theorem dX5_enter_17 : decode cX5_enter 17 = .ok (.getfield 12, 3) := by decide +kernel
theorem dX5_enter_20 : decode cX5_enter 20 = .ok (.aload_n 0, 1) := by decide +kernel
theorem dX5_enter_21 : decode cX5_enter 21 = .ok (.getfield 12, 3) := by decide +kernel
theorem dX5_enter_24 : decode cX5_enter 24 = .ok (.iload_n 2, 1) := by decide +kernel
theorem dX5_enter_25 : decode cX5_enter 25 = .ok (.invokevirtual 76, 3) := by decide +kernel
theorem dX5_enter_28 : decode cX5_enter 28 = .ok (.aload_n 0, 1) := by decide +kernel
theorem dX5_enter_29 : decode cX5_enter 29 = .ok (.getfield 35, 3) := by decide +kernel
theorem dX5_enter_32 : decode cX5_enter 32 = .ok (.invokevirtual 196, 3) := by decide +kernel
theorem dX5_enter_35 : decode cX5_enter 35 = .ok (.aload_n 0, 1) := by decide +kernel
theorem dX5_enter_36 : decode cX5_enter 36 = .ok (.getfield 12, 3) := by decide +kernel
theorem dX5_enter_39 : decode cX5_enter 39 = .ok (.aload_n 0, 1) := by decide +kernel
theorem dX5_enter_40 : decode cX5_enter 40 = .ok (.getfield 12, 3) := by decide +kernel
theorem dX5_enter_43 : decode cX5_enter 43 = .ok (.iload_n 3, 1) := by decide +kernel
theorem dX5_enter_44 : decode cX5_enter 44 = .ok (.invokevirtual 76, 3) := by decide +kernel
theorem dX5_enter_47 : decode cX5_enter 47 = .ok (.aload_n 0, 1) := by decide +kernel
theorem dX5_enter_48 : decode cX5_enter 48 = .ok (.getfield 35, 3) := by decide +kernel
theorem dX5_enter_51 : decode cX5_enter 51 = .ok (.invokevirtual 196, 3) := by decide +kernel
theorem dX5_enter_54 : decode cX5_enter 54 = .ok (.return_, 1) := by decide +kernel
theorem dX6_init_0 : decode cX6_init 0 = .ok (.aload_n 0, 1) := by decide +kernel
theorem dX6_init_1 : decode cX6_init 1 = .ok (.invokespecial 3, 3) := by decide +kernel
theorem dX6_init_4 : decode cX6_init 4 = .ok (.aload_n 0, 1) := by decide +kernel
theorem dX6_init_5 : decode cX6_init 5 = .ok (.iconst 0, 1) := by decide +kernel
theorem dX6_init_6 : decode cX6_init 6 = .ok (.putfield 9, 3) := by decide +kernel
theorem dX6_init_9 : decode cX6_init 9 = .ok (.aload_n 0, 1) := by decide +kernel
theorem dX6_init_10 : decode cX6_init 10 = .ok (.bipush 7, 2) := by decide +kernel
theorem dX6_init_12 : decode cX6_init 12 = .ok (.putfield 15, 3) := by decide +kernel
theorem dX6_init_15 : decode cX6_init 15 = .ok (.aload_n 0, 1) := by decide +kernel
theorem dX6_init_16 : decode cX6_init 16 = .ok (.sipush 168, 3) := by decide +kernel
theorem dX6_init_19 : decode cX6_init 19 = .ok (.newarray .int, 2) := by decide +kernel
theorem dX6_init_21 : decode cX6_init 21 = .ok (.putfield 18, 3) := by decide +kernel
theorem dX6_init_24 : decode cX6_init 24 = .ok (.return_, 1) := by decide +kernel
theorem dX6_copyFrom_0 : decode cX6_copyFrom 0 = .ok (.aload_n 0, 1) := by decide +kernel
theorem dX6_copyFrom_1 : decode cX6_copyFrom 1 = .ok (.aload_n 1, 1) := by decide +kernel
theorem dX6_copyFrom_2 : decode cX6_copyFrom 2 = .ok (.getfield 9, 3) := by decide +kernel
theorem dX6_copyFrom_5 : decode cX6_copyFrom 5 = .ok (.putfield 9, 3) := by decide +kernel
theorem dX6_copyFrom_8 : decode cX6_copyFrom 8 = .ok (.aload_n 0, 1) := by decide +kernel
theorem dX6_copyFrom_9 : decode cX6_copyFrom 9 = .ok (.aload_n 1, 1) := by decide +kernel
theorem dX6_copyFrom_10 : decode cX6_copyFrom 10 = .ok (.getfield 15, 3) := by decide +kernel
theorem dX6_copyFrom_13 : decode cX6_copyFrom 13 = .ok (.putfield 15, 3) := by decide +kernel
theorem dX6_copyFrom_16 : decode cX6_copyFrom 16 = .ok (.aload_n 1, 1) := by decide +kernel
theorem dX6_copyFrom_17 : decode cX6_copyFrom 17 = .ok (.getfield 18, 3) := by decide +kernel
theorem dX6_copyFrom_20 : decode cX6_copyFrom 20 = .ok (.iconst 0, 1) := by decide +kernel
theorem dX6_copyFrom_21 : decode cX6_copyFrom 21 = .ok (.aload_n 0, 1) := by decide +kernel
theorem dX6_copyFrom_22 : decode cX6_copyFrom 22 = .ok (.getfield 18, 3) := by decide +kernel
theorem dX6_copyFrom_25 : decode cX6_copyFrom 25 = .ok (.iconst 0, 1) := by decide +kernel
theorem dX6_copyFrom_26 : decode cX6_copyFrom 26 = .ok (.sipush 168, 3) := by decide +kernel
theorem dX6_copyFrom_29 : decode cX6_copyFrom 29 = .ok (.invokestatic 22, 3) := by decide +kernel
theorem dX6_copyFrom_32 : decode cX6_copyFrom 32 = .ok (.return_, 1) := by decide +kernel
theorem dX6_keeps_0 : decode cX6_keeps 0 = .ok (.iload_n 1, 1) := by decide +kernel
theorem dX6_keeps_1 : decode cX6_keeps 1 = .ok (.iconst 1, 1) := by decide +kernel
theorem dX6_keeps_2 : decode cX6_keeps 2 = .ok (.if_icmp .lt 26, 3) := by decide +kernel
theorem dX6_keeps_5 : decode cX6_keeps 5 = .ok (.iload_n 1, 1) := by decide +kernel
theorem dX6_keeps_6 : decode cX6_keeps 6 = .ok (.aload_n 0, 1) := by decide +kernel
theorem dX6_keeps_7 : decode cX6_keeps 7 = .ok (.getfield 9, 3) := by decide +kernel
theorem dX6_keeps_10 : decode cX6_keeps 10 = .ok (.if_icmp .gt 18, 3) := by decide +kernel
theorem dX6_keeps_13 : decode cX6_keeps 13 = .ok (.iload_n 1, 1) := by decide +kernel
theorem dX6_keeps_14 : decode cX6_keeps 14 = .ok (.aload_n 0, 1) := by decide +kernel
theorem dX6_keeps_15 : decode cX6_keeps 15 = .ok (.getfield 9, 3) := by decide +kernel
theorem dX6_keeps_18 : decode cX6_keeps 18 = .ok (.bipush 24, 2) := by decide +kernel
theorem dX6_keeps_20 : decode cX6_keeps 20 = .ok (.isub, 1) := by decide +kernel
theorem dX6_keeps_21 : decode cX6_keeps 21 = .ok (.if_icmp .le 7, 3) := by decide +kernel
theorem dX6_keeps_24 : decode cX6_keeps 24 = .ok (.iconst 1, 1) := by decide +kernel
theorem dX6_keeps_25 : decode cX6_keeps 25 = .ok (.goto 4, 3) := by decide +kernel
theorem dX6_keeps_28 : decode cX6_keeps 28 = .ok (.iconst 0, 1) := by decide +kernel
theorem dX6_keeps_29 : decode cX6_keeps 29 = .ok (.ireturn, 1) := by decide +kernel
theorem dX6_get_0 : decode cX6_get 0 = .ok (.iload_n 1, 1) := by decide +kernel
theorem dX6_get_1 : decode cX6_get 1 = .ok (.iload_n 2, 1) := by decide +kernel
theorem dX6_get_2 : decode cX6_get 2 = .ok (.invokestatic 28, 3) := by decide +kernel
theorem dX6_get_5 : decode cX6_get 5 = .ok (.istore_n 3, 1) := by decide +kernel
theorem dX6_get_6 : decode cX6_get 6 = .ok (.aload_n 0, 1) := by decide +kernel
theorem dX6_get_7 : decode cX6_get 7 = .ok (.iload_n 1, 1) := by decide +kernel
theorem dX6_get_8 : decode cX6_get 8 = .ok (.invokevirtual 32, 3) := by decide +kernel
theorem dX6_get_11 : decode cX6_get 11 = .ok (.ifCond .eq 25, 3) := by decide +kernel
theorem dX6_get_14 : decode cX6_get 14 = .ok (.iload_n 3, 1) := by decide +kernel
theorem dX6_get_15 : decode cX6_get 15 = .ok (.ifCond .lt 21, 3) := by decide +kernel
theorem dX6_get_18 : decode cX6_get 18 = .ok (.iload_n 3, 1) := by decide +kernel
theorem dX6_get_19 : decode cX6_get 19 = .ok (.aload_n 0, 1) := by decide +kernel
theorem dX6_get_20 : decode cX6_get 20 = .ok (.getfield 18, 3) := by decide +kernel
theorem dX6_get_23 : decode cX6_get 23 = .ok (.arraylength, 1) := by decide +kernel
theorem dX6_get_24 : decode cX6_get 24 = .ok (.if_icmp .ge 12, 3) := by decide +kernel
theorem dX6_get_27 : decode cX6_get 27 = .ok (.aload_n 0, 1) := by decide +kernel
theorem dX6_get_28 : decode cX6_get 28 = .ok (.getfield 18, 3) := by decide +kernel
theorem dX6_get_31 : decode cX6_get 31 = .ok (.iload_n 3, 1) := by decide +kernel
theorem dX6_get_32 : decode cX6_get 32 = .ok (.iaload, 1) := by decide +kernel
theorem dX6_get_33 : decode cX6_get 33 = .ok (.goto 4, 3) := by decide +kernel
theorem dX6_get_36 : decode cX6_get 36 = .ok (.iconst 0, 1) := by decide +kernel
theorem dX6_get_37 : decode cX6_get 37 = .ok (.ireturn, 1) := by decide +kernel
theorem dX6_markReversed_0 : decode cX6_markReversed 0 = .ok (.aload_n 0, 1) := by decide +kernel
theorem dX6_markReversed_1 : decode cX6_markReversed 1 = .ok (.iload_n 1, 1) := by decide +kernel
theorem dX6_markReversed_2 : decode cX6_markReversed 2 = .ok (.invokevirtual 32, 3) := by decide +kernel
theorem dX6_markReversed_5 : decode cX6_markReversed 5 = .ok (.ifCond .eq 11, 3) := by decide +kernel
theorem dX6_markReversed_8 : decode cX6_markReversed 8 = .ok (.aload_n 0, 1) := by decide +kernel
theorem dX6_markReversed_9 : decode cX6_markReversed 9 = .ok (.iload_n 1, 1) := by decide +kernel
theorem dX6_markReversed_10 : decode cX6_markReversed 10 = .ok (.bipush 6, 2) := by decide +kernel
theorem dX6_markReversed_12 : decode cX6_markReversed 12 = .ok (.iconst 1, 1) := by decide +kernel
theorem dX6_markReversed_13 : decode cX6_markReversed 13 = .ok (.invokevirtual 36, 3) := by decide +kernel
theorem dX6_markReversed_16 : decode cX6_markReversed 16 = .ok (.return_, 1) := by decide +kernel
theorem dX6_append_0 : decode cX6_append 0 = .ok (.aload_n 0, 1) := by decide +kernel
theorem dX6_append_1 : decode cX6_append 1 = .ok (.getfield 15, 3) := by decide +kernel
theorem dX6_append_4 : decode cX6_append 4 = .ok (.i2l, 1) := by decide +kernel
theorem dX6_append_5 : decode cX6_append 5 = .ok (.ldc2_w 40, 3) := by decide +kernel
theorem dX6_append_8 : decode cX6_append 8 = .ok (.lmul, 1) := by decide +kernel
theorem dX6_append_9 : decode cX6_append 9 = .ok (.iload_n 1, 1) := by decide +kernel
theorem dX6_append_10 : decode cX6_append 10 = .ok (.i2l, 1) := by decide +kernel
theorem dX6_append_11 : decode cX6_append 11 = .ok (.ldc2_w 42, 3) := by decide +kernel
theorem dX6_append_14 : decode cX6_append 14 = .ok (.lmul, 1) := by decide +kernel
theorem dX6_append_15 : decode cX6_append 15 = .ok (.ladd, 1) := by decide +kernel
theorem dX6_append_16 : decode cX6_append 16 = .ok (.iload_n 2, 1) := by decide +kernel
theorem dX6_append_17 : decode cX6_append 17 = .ok (.i2l, 1) := by decide +kernel
theorem dX6_append_18 : decode cX6_append 18 = .ok (.ldc2_w 44, 3) := by decide +kernel
theorem dX6_append_21 : decode cX6_append 21 = .ok (.lmul, 1) := by decide +kernel
theorem dX6_append_22 : decode cX6_append 22 = .ok (.ladd, 1) := by decide +kernel
theorem dX6_append_23 : decode cX6_append 23 = .ok (.iload_n 3, 1) := by decide +kernel
theorem dX6_append_24 : decode cX6_append 24 = .ok (.i2l, 1) := by decide +kernel
theorem dX6_append_25 : decode cX6_append 25 = .ok (.ldc2_w 46, 3) := by decide +kernel
theorem dX6_append_28 : decode cX6_append 28 = .ok (.lmul, 1) := by decide +kernel
theorem dX6_append_29 : decode cX6_append 29 = .ok (.ladd, 1) := by decide +kernel
theorem dX6_append_30 : decode cX6_append 30 = .ok (.iload 4, 2) := by decide +kernel
theorem dX6_append_32 : decode cX6_append 32 = .ok (.i2l, 1) := by decide +kernel
theorem dX6_append_33 : decode cX6_append 33 = .ok (.ldc2_w 48, 3) := by decide +kernel
theorem dX6_append_36 : decode cX6_append 36 = .ok (.lmul, 1) := by decide +kernel
theorem dX6_append_37 : decode cX6_append 37 = .ok (.ladd, 1) := by decide +kernel
theorem dX6_append_38 : decode cX6_append 38 = .ok (.iload 5, 2) := by decide +kernel
theorem dX6_append_40 : decode cX6_append 40 = .ok (.i2l, 1) := by decide +kernel
theorem dX6_append_41 : decode cX6_append 41 = .ok (.ladd, 1) := by decide +kernel
theorem dX6_append_42 : decode cX6_append 42 = .ok (.ldc2_w 50, 3) := by decide +kernel
theorem dX6_append_45 : decode cX6_append 45 = .ok (.lrem, 1) := by decide +kernel
theorem dX6_append_46 : decode cX6_append 46 = .ok (.lstore 6, 2) := by decide +kernel
theorem dX6_append_48 : decode cX6_append 48 = .ok (.aload_n 0, 1) := by decide +kernel
theorem dX6_append_49 : decode cX6_append 49 = .ok (.lload 6, 2) := by decide +kernel
theorem dX6_append_51 : decode cX6_append 51 = .ok (.l2i, 1) := by decide +kernel
theorem dX6_append_52 : decode cX6_append 52 = .ok (.putfield 15, 3) := by decide +kernel
theorem dX6_append_55 : decode cX6_append 55 = .ok (.aload_n 0, 1) := by decide +kernel
theorem dX6_append_56 : decode cX6_append 56 = .ok (.dup, 1) := by decide +kernel
theorem dX6_append_57 : decode cX6_append 57 = .ok (.getfield 9, 3) := by decide +kernel
theorem dX6_append_60 : decode cX6_append 60 = .ok (.iconst 1, 1) := by decide +kernel
theorem dX6_append_61 : decode cX6_append 61 = .ok (.iadd, 1) := by decide +kernel
theorem dX6_append_62 : decode cX6_append 62 = .ok (.putfield 9, 3) := by decide +kernel
theorem dX6_append_65 : decode cX6_append 65 = .ok (.aload_n 0, 1) := by decide +kernel
theorem dX6_append_66 : decode cX6_append 66 = .ok (.aload_n 0, 1) := by decide +kernel
theorem dX6_append_67 : decode cX6_append 67 = .ok (.getfield 9, 3) := by decide +kernel
theorem dX6_append_70 : decode cX6_append 70 = .ok (.iconst 0, 1) := by decide +kernel
theorem dX6_append_71 : decode cX6_append 71 = .ok (.iload_n 1, 1) := by decide +kernel
theorem dX6_append_72 : decode cX6_append 72 = .ok (.invokevirtual 36, 3) := by decide +kernel
theorem dX6_append_75 : decode cX6_append 75 = .ok (.aload_n 0, 1) := by decide +kernel
theorem dX6_append_76 : decode cX6_append 76 = .ok (.aload_n 0, 1) := by decide +kernel
theorem dX6_append_77 : decode cX6_append 77 = .ok (.getfield 9, 3) := by decide +kernel
theorem dX6_append_80 : decode cX6_append 80 = .ok (.iconst 1, 1) := by decide +kernel
theorem dX6_append_81 : decode cX6_append 81 = .ok (.iload_n 2, 1) := by decide +kernel
theorem dX6_append_82 : decode cX6_append 82 = .ok (.invokevirtual 36, 3) := by decide +kernel
theorem dX6_append_85 : decode cX6_append 85 = .ok (.aload_n 0, 1) := by decide +kernel
theorem dX6_append_86 : decode cX6_append 86 = .ok (.aload_n 0, 1) := by decide +kernel
theorem dX6_append_87 : decode cX6_append 87 = .ok (.getfield 9, 3) := by decide +kernel
theorem dX6_append_90 : decode cX6_append 90 = .ok (.iconst 2, 1) := by decide +kernel
theorem dX6_append_91 : decode cX6_append 91 = .ok (.iload_n 3, 1) := by decide +kernel
theorem dX6_append_92 : decode cX6_append 92 = .ok (.invokevirtual 36, 3) := by decide +kernel
theorem dX6_append_95 : decode cX6_append 95 = .ok (.aload_n 0, 1) := by decide +kernel
theorem dX6_append_96 : decode cX6_append 96 = .ok (.aload_n 0, 1) := by decide +kernel
theorem dX6_append_97 : decode cX6_append 97 = .ok (.getfield 9, 3) := by decide +kernel
theorem dX6_append_100 : decode cX6_append 100 = .ok (.iconst 3, 1) := by decide +kernel
theorem dX6_append_101 : decode cX6_append 101 = .ok (.iload 4, 2) := by decide +kernel
theorem dX6_append_103 : decode cX6_append 103 = .ok (.invokevirtual 36, 3) := by decide +kernel
theorem dX6_append_106 : decode cX6_append 106 = .ok (.aload_n 0, 1) := by decide +kernel
theorem dX6_append_107 : decode cX6_append 107 = .ok (.aload_n 0, 1) := by decide +kernel
theorem dX6_append_108 : decode cX6_append 108 = .ok (.getfield 9, 3) := by decide +kernel
theorem dX6_append_111 : decode cX6_append 111 = .ok (.iconst 4, 1) := by decide +kernel
theorem dX6_append_112 : decode cX6_append 112 = .ok (.iload 5, 2) := by decide +kernel
theorem dX6_append_114 : decode cX6_append 114 = .ok (.invokevirtual 36, 3) := by decide +kernel
theorem dX6_append_117 : decode cX6_append 117 = .ok (.aload_n 0, 1) := by decide +kernel
theorem dX6_append_118 : decode cX6_append 118 = .ok (.aload_n 0, 1) := by decide +kernel
theorem dX6_append_119 : decode cX6_append 119 = .ok (.getfield 9, 3) := by decide +kernel
theorem dX6_append_122 : decode cX6_append 122 = .ok (.iconst 5, 1) := by decide +kernel
theorem dX6_append_123 : decode cX6_append 123 = .ok (.aload_n 0, 1) := by decide +kernel
theorem dX6_append_124 : decode cX6_append 124 = .ok (.getfield 15, 3) := by decide +kernel
theorem dX6_append_127 : decode cX6_append 127 = .ok (.invokevirtual 36, 3) := by decide +kernel
theorem dX6_append_130 : decode cX6_append 130 = .ok (.aload_n 0, 1) := by decide +kernel
theorem dX6_append_131 : decode cX6_append 131 = .ok (.aload_n 0, 1) := by decide +kernel
theorem dX6_append_132 : decode cX6_append 132 = .ok (.getfield 9, 3) := by decide +kernel
theorem dX6_append_135 : decode cX6_append 135 = .ok (.bipush 6, 2) := by decide +kernel
theorem dX6_append_137 : decode cX6_append 137 = .ok (.iconst 0, 1) := by decide +kernel
theorem dX6_append_138 : decode cX6_append 138 = .ok (.invokevirtual 36, 3) := by decide +kernel
theorem dX6_append_141 : decode cX6_append 141 = .ok (.return_, 1) := by decide +kernel
theorem dX6_set_0 : decode cX6_set 0 = .ok (.iload_n 1, 1) := by decide +kernel
theorem dX6_set_1 : decode cX6_set 1 = .ok (.iload_n 2, 1) := by decide +kernel
theorem dX6_set_2 : decode cX6_set 2 = .ok (.invokestatic 28, 3) := by decide +kernel
theorem dX6_set_5 : decode cX6_set 5 = .ok (.istore 4, 2) := by decide +kernel
theorem dX6_set_7 : decode cX6_set 7 = .ok (.iload 4, 2) := by decide +kernel
theorem dX6_set_9 : decode cX6_set 9 = .ok (.ifCond .lt 21, 3) := by decide +kernel
theorem dX6_set_12 : decode cX6_set 12 = .ok (.iload 4, 2) := by decide +kernel
theorem dX6_set_14 : decode cX6_set 14 = .ok (.aload_n 0, 1) := by decide +kernel
theorem dX6_set_15 : decode cX6_set 15 = .ok (.getfield 18, 3) := by decide +kernel
theorem dX6_set_18 : decode cX6_set 18 = .ok (.arraylength, 1) := by decide +kernel
theorem dX6_set_19 : decode cX6_set 19 = .ok (.if_icmp .ge 11, 3) := by decide +kernel
theorem dX6_set_22 : decode cX6_set 22 = .ok (.aload_n 0, 1) := by decide +kernel
theorem dX6_set_23 : decode cX6_set 23 = .ok (.getfield 18, 3) := by decide +kernel
theorem dX6_set_26 : decode cX6_set 26 = .ok (.iload 4, 2) := by decide +kernel
theorem dX6_set_28 : decode cX6_set 28 = .ok (.iload_n 3, 1) := by decide +kernel
theorem dX6_set_29 : decode cX6_set 29 = .ok (.iastore, 1) := by decide +kernel
theorem dX6_set_30 : decode cX6_set 30 = .ok (.return_, 1) := by decide +kernel
theorem dX6_cellOf_0 : decode cX6_cellOf 0 = .ok (.iload_n 0, 1) := by decide +kernel
theorem dX6_cellOf_1 : decode cX6_cellOf 1 = .ok (.bipush 24, 2) := by decide +kernel
theorem dX6_cellOf_3 : decode cX6_cellOf 3 = .ok (.irem, 1) := by decide +kernel
theorem dX6_cellOf_4 : decode cX6_cellOf 4 = .ok (.bipush 7, 2) := by decide +kernel
theorem dX6_cellOf_6 : decode cX6_cellOf 6 = .ok (.imul, 1) := by decide +kernel
theorem dX6_cellOf_7 : decode cX6_cellOf 7 = .ok (.iload_n 1, 1) := by decide +kernel
theorem dX6_cellOf_8 : decode cX6_cellOf 8 = .ok (.iadd, 1) := by decide +kernel
theorem dX6_cellOf_9 : decode cX6_cellOf 9 = .ok (.ireturn, 1) := by decide +kernel
theorem dX7_init_0 : decode cX7_init 0 = .ok (.aload_n 0, 1) := by decide +kernel
theorem dX7_init_1 : decode cX7_init 1 = .ok (.invokespecial 1, 3) := by decide +kernel
theorem dX7_init_4 : decode cX7_init 4 = .ok (.aload_n 0, 1) := by decide +kernel
theorem dX7_init_5 : decode cX7_init 5 = .ok (.new 7, 3) := by decide +kernel
theorem dX7_init_8 : decode cX7_init 8 = .ok (.dup, 1) := by decide +kernel
theorem dX7_init_9 : decode cX7_init 9 = .ok (.invokespecial 9, 3) := by decide +kernel
theorem dX7_init_12 : decode cX7_init 12 = .ok (.putfield 10, 3) := by decide +kernel
theorem dX7_init_15 : decode cX7_init 15 = .ok (.aload_n 0, 1) := by decide +kernel
theorem dX7_init_16 : decode cX7_init 16 = .ok (.new 16, 3) := by decide +kernel
theorem dX7_init_19 : decode cX7_init 19 = .ok (.dup, 1) := by decide +kernel
theorem dX7_init_20 : decode cX7_init 20 = .ok (.invokespecial 18, 3) := by decide +kernel
theorem dX7_init_23 : decode cX7_init 23 = .ok (.putfield 19, 3) := by decide +kernel
theorem dX7_init_26 : decode cX7_init 26 = .ok (.aload_n 0, 1) := by decide +kernel
theorem dX7_init_27 : decode cX7_init 27 = .ok (.new 23, 3) := by decide +kernel
theorem dX7_init_30 : decode cX7_init 30 = .ok (.dup, 1) := by decide +kernel
theorem dX7_init_31 : decode cX7_init 31 = .ok (.invokespecial 25, 3) := by decide +kernel
theorem dX7_init_34 : decode cX7_init 34 = .ok (.putfield 26, 3) := by decide +kernel
theorem dX7_init_37 : decode cX7_init 37 = .ok (.aload_n 0, 1) := by decide +kernel
theorem dX7_init_38 : decode cX7_init 38 = .ok (.new 30, 3) := by decide +kernel
theorem dX7_init_41 : decode cX7_init 41 = .ok (.dup, 1) := by decide +kernel
theorem dX7_init_42 : decode cX7_init 42 = .ok (.invokespecial 32, 3) := by decide +kernel
theorem dX7_init_45 : decode cX7_init 45 = .ok (.putfield 33, 3) := by decide +kernel
theorem dX7_init_48 : decode cX7_init 48 = .ok (.return_, 1) := by decide +kernel
theorem dX7_setRates_0 : decode cX7_setRates 0 = .ok (.aload_n 0, 1) := by decide +kernel
theorem dX7_setRates_1 : decode cX7_setRates 1 = .ok (.getfield 19, 3) := by decide +kernel
theorem dX7_setRates_4 : decode cX7_setRates 4 = .ok (.aload_n 0, 1) := by decide +kernel
theorem dX7_setRates_5 : decode cX7_setRates 5 = .ok (.getfield 10, 3) := by decide +kernel
theorem dX7_setRates_8 : decode cX7_setRates 8 = .ok (.invokevirtual 37, 3) := by decide +kernel
theorem dX7_setRates_11 : decode cX7_setRates 11 = .ok (.aload_n 0, 1) := by decide +kernel
theorem dX7_setRates_12 : decode cX7_setRates 12 = .ok (.aload_n 0, 1) := by decide +kernel
theorem dX7_setRates_13 : decode cX7_setRates 13 = .ok (.getfield 10, 3) := by decide +kernel
theorem dX7_setRates_16 : decode cX7_setRates 16 = .ok (.iload_n 1, 1) := by decide +kernel
theorem dX7_setRates_17 : decode cX7_setRates 17 = .ok (.iload_n 2, 1) := by decide +kernel
theorem dX7_setRates_18 : decode cX7_setRates 18 = .ok (.iload_n 3, 1) := by decide +kernel
theorem dX7_setRates_19 : decode cX7_setRates 19 = .ok (.invokevirtual 41, 3) := by decide +kernel
theorem dX7_setRates_22 : decode cX7_setRates 22 = .ok (.invokevirtual 45, 3) := by decide +kernel
theorem dX7_setRates_25 : decode cX7_setRates 25 = .ok (.ireturn, 1) := by decide +kernel
theorem dX7_setThreshold_0 : decode cX7_setThreshold 0 = .ok (.aload_n 0, 1) := by decide +kernel
theorem dX7_setThreshold_1 : decode cX7_setThreshold 1 = .ok (.getfield 19, 3) := by decide +kernel
theorem dX7_setThreshold_4 : decode cX7_setThreshold 4 = .ok (.aload_n 0, 1) := by decide +kernel
theorem dX7_setThreshold_5 : decode cX7_setThreshold 5 = .ok (.getfield 10, 3) := by decide +kernel
theorem dX7_setThreshold_8 : decode cX7_setThreshold 8 = .ok (.invokevirtual 37, 3) := by decide +kernel
theorem dX7_setThreshold_11 : decode cX7_setThreshold 11 = .ok (.aload_n 0, 1) := by decide +kernel
theorem dX7_setThreshold_12 : decode cX7_setThreshold 12 = .ok (.aload_n 0, 1) := by decide +kernel
theorem dX7_setThreshold_13 : decode cX7_setThreshold 13 = .ok (.getfield 10, 3) := by decide +kernel
theorem dX7_setThreshold_16 : decode cX7_setThreshold 16 = .ok (.iload_n 1, 1) := by decide +kernel
theorem dX7_setThreshold_17 : decode cX7_setThreshold 17 = .ok (.invokevirtual 49, 3) := by decide +kernel
theorem dX7_setThreshold_20 : decode cX7_setThreshold 20 = .ok (.invokevirtual 45, 3) := by decide +kernel
theorem dX7_setThreshold_23 : decode cX7_setThreshold 23 = .ok (.ireturn, 1) := by decide +kernel
theorem dX7_open_0 : decode cX7_open 0 = .ok (.aload_n 0, 1) := by decide +kernel
theorem dX7_open_1 : decode cX7_open 1 = .ok (.getfield 19, 3) := by decide +kernel
theorem dX7_open_4 : decode cX7_open 4 = .ok (.aload_n 0, 1) := by decide +kernel
theorem dX7_open_5 : decode cX7_open 5 = .ok (.getfield 10, 3) := by decide +kernel
theorem dX7_open_8 : decode cX7_open 8 = .ok (.invokevirtual 37, 3) := by decide +kernel
theorem dX7_open_11 : decode cX7_open 11 = .ok (.aload_n 0, 1) := by decide +kernel
theorem dX7_open_12 : decode cX7_open 12 = .ok (.aload_n 0, 1) := by decide +kernel
theorem dX7_open_13 : decode cX7_open 13 = .ok (.getfield 10, 3) := by decide +kernel
theorem dX7_open_16 : decode cX7_open 16 = .ok (.iload_n 1, 1) := by decide +kernel
theorem dX7_open_17 : decode cX7_open 17 = .ok (.invokevirtual 52, 3) := by decide +kernel
theorem dX7_open_20 : decode cX7_open 20 = .ok (.invokevirtual 45, 3) := by decide +kernel
theorem dX7_open_23 : decode cX7_open 23 = .ok (.ireturn, 1) := by decide +kernel
theorem dX7_close_0 : decode cX7_close 0 = .ok (.aload_n 0, 1) := by decide +kernel
theorem dX7_close_1 : decode cX7_close 1 = .ok (.getfield 19, 3) := by decide +kernel
theorem dX7_close_4 : decode cX7_close 4 = .ok (.aload_n 0, 1) := by decide +kernel
theorem dX7_close_5 : decode cX7_close 5 = .ok (.getfield 10, 3) := by decide +kernel
theorem dX7_close_8 : decode cX7_close 8 = .ok (.invokevirtual 37, 3) := by decide +kernel
theorem dX7_close_11 : decode cX7_close 11 = .ok (.aload_n 0, 1) := by decide +kernel
theorem dX7_close_12 : decode cX7_close 12 = .ok (.aload_n 0, 1) := by decide +kernel
theorem dX7_close_13 : decode cX7_close 13 = .ok (.getfield 10, 3) := by decide +kernel
theorem dX7_close_16 : decode cX7_close 16 = .ok (.iload_n 1, 1) := by decide +kernel
theorem dX7_close_17 : decode cX7_close 17 = .ok (.invokevirtual 55, 3) := by decide +kernel
theorem dX7_close_20 : decode cX7_close 20 = .ok (.invokevirtual 45, 3) := by decide +kernel
theorem dX7_close_23 : decode cX7_close 23 = .ok (.ireturn, 1) := by decide +kernel
theorem dX7_receive_0 : decode cX7_receive 0 = .ok (.aload_n 0, 1) := by decide +kernel
theorem dX7_receive_1 : decode cX7_receive 1 = .ok (.getfield 19, 3) := by decide +kernel
theorem dX7_receive_4 : decode cX7_receive 4 = .ok (.aload_n 0, 1) := by decide +kernel
theorem dX7_receive_5 : decode cX7_receive 5 = .ok (.getfield 10, 3) := by decide +kernel
theorem dX7_receive_8 : decode cX7_receive 8 = .ok (.invokevirtual 37, 3) := by decide +kernel
theorem dX7_receive_11 : decode cX7_receive 11 = .ok (.aload_n 0, 1) := by decide +kernel
theorem dX7_receive_12 : decode cX7_receive 12 = .ok (.aload_n 0, 1) := by decide +kernel
theorem dX7_receive_13 : decode cX7_receive 13 = .ok (.getfield 10, 3) := by decide +kernel
theorem dX7_receive_16 : decode cX7_receive 16 = .ok (.iload_n 1, 1) := by decide +kernel
theorem dX7_receive_17 : decode cX7_receive 17 = .ok (.iload_n 2, 1) := by decide +kernel
theorem dX7_receive_18 : decode cX7_receive 18 = .ok (.invokevirtual 58, 3) := by decide +kernel
theorem dX7_receive_21 : decode cX7_receive 21 = .ok (.invokevirtual 45, 3) := by decide +kernel
theorem dX7_receive_24 : decode cX7_receive 24 = .ok (.ireturn, 1) := by decide +kernel
theorem dX7_pay_0 : decode cX7_pay 0 = .ok (.aload_n 0, 1) := by decide +kernel
theorem dX7_pay_1 : decode cX7_pay 1 = .ok (.getfield 19, 3) := by decide +kernel
theorem dX7_pay_4 : decode cX7_pay 4 = .ok (.aload_n 0, 1) := by decide +kernel
theorem dX7_pay_5 : decode cX7_pay 5 = .ok (.getfield 10, 3) := by decide +kernel
theorem dX7_pay_8 : decode cX7_pay 8 = .ok (.invokevirtual 37, 3) := by decide +kernel
theorem dX7_pay_11 : decode cX7_pay 11 = .ok (.aload_n 0, 1) := by decide +kernel
theorem dX7_pay_12 : decode cX7_pay 12 = .ok (.aload_n 0, 1) := by decide +kernel
theorem dX7_pay_13 : decode cX7_pay 13 = .ok (.getfield 10, 3) := by decide +kernel
theorem dX7_pay_16 : decode cX7_pay 16 = .ok (.iload_n 1, 1) := by decide +kernel
theorem dX7_pay_17 : decode cX7_pay 17 = .ok (.iload_n 2, 1) := by decide +kernel
theorem dX7_pay_18 : decode cX7_pay 18 = .ok (.invokevirtual 62, 3) := by decide +kernel
theorem dX7_pay_21 : decode cX7_pay 21 = .ok (.invokevirtual 45, 3) := by decide +kernel
theorem dX7_pay_24 : decode cX7_pay 24 = .ok (.ireturn, 1) := by decide +kernel
theorem dX7_transfer_0 : decode cX7_transfer 0 = .ok (.aload_n 0, 1) := by decide +kernel
theorem dX7_transfer_1 : decode cX7_transfer 1 = .ok (.getfield 19, 3) := by decide +kernel
theorem dX7_transfer_4 : decode cX7_transfer 4 = .ok (.aload_n 0, 1) := by decide +kernel
theorem dX7_transfer_5 : decode cX7_transfer 5 = .ok (.getfield 10, 3) := by decide +kernel
theorem dX7_transfer_8 : decode cX7_transfer 8 = .ok (.invokevirtual 37, 3) := by decide +kernel
theorem dX7_transfer_11 : decode cX7_transfer 11 = .ok (.aload_n 0, 1) := by decide +kernel
theorem dX7_transfer_12 : decode cX7_transfer 12 = .ok (.aload_n 0, 1) := by decide +kernel
theorem dX7_transfer_13 : decode cX7_transfer 13 = .ok (.getfield 10, 3) := by decide +kernel
theorem dX7_transfer_16 : decode cX7_transfer 16 = .ok (.iload_n 1, 1) := by decide +kernel
theorem dX7_transfer_17 : decode cX7_transfer 17 = .ok (.iload_n 2, 1) := by decide +kernel
theorem dX7_transfer_18 : decode cX7_transfer 18 = .ok (.iload_n 3, 1) := by decide +kernel
theorem dX7_transfer_19 : decode cX7_transfer 19 = .ok (.invokevirtual 65, 3) := by decide +kernel
theorem dX7_transfer_22 : decode cX7_transfer 22 = .ok (.invokevirtual 45, 3) := by decide +kernel
theorem dX7_transfer_25 : decode cX7_transfer 25 = .ok (.ireturn, 1) := by decide +kernel
theorem dX7_hold_0 : decode cX7_hold 0 = .ok (.aload_n 0, 1) := by decide +kernel
theorem dX7_hold_1 : decode cX7_hold 1 = .ok (.getfield 19, 3) := by decide +kernel
theorem dX7_hold_4 : decode cX7_hold 4 = .ok (.aload_n 0, 1) := by decide +kernel
theorem dX7_hold_5 : decode cX7_hold 5 = .ok (.getfield 10, 3) := by decide +kernel
theorem dX7_hold_8 : decode cX7_hold 8 = .ok (.invokevirtual 37, 3) := by decide +kernel
theorem dX7_hold_11 : decode cX7_hold 11 = .ok (.aload_n 0, 1) := by decide +kernel
theorem dX7_hold_12 : decode cX7_hold 12 = .ok (.aload_n 0, 1) := by decide +kernel
theorem dX7_hold_13 : decode cX7_hold 13 = .ok (.getfield 10, 3) := by decide +kernel
theorem dX7_hold_16 : decode cX7_hold 16 = .ok (.iload_n 1, 1) := by decide +kernel
theorem dX7_hold_17 : decode cX7_hold 17 = .ok (.iload_n 2, 1) := by decide +kernel
theorem dX7_hold_18 : decode cX7_hold 18 = .ok (.iload_n 3, 1) := by decide +kernel
theorem dX7_hold_19 : decode cX7_hold 19 = .ok (.invokevirtual 68, 3) := by decide +kernel
theorem dX7_hold_22 : decode cX7_hold 22 = .ok (.invokevirtual 45, 3) := by decide +kernel
theorem dX7_hold_25 : decode cX7_hold 25 = .ok (.ireturn, 1) := by decide +kernel
theorem dX7_release_0 : decode cX7_release 0 = .ok (.aload_n 0, 1) := by decide +kernel
theorem dX7_release_1 : decode cX7_release 1 = .ok (.getfield 19, 3) := by decide +kernel
theorem dX7_release_4 : decode cX7_release 4 = .ok (.aload_n 0, 1) := by decide +kernel
theorem dX7_release_5 : decode cX7_release 5 = .ok (.getfield 10, 3) := by decide +kernel
theorem dX7_release_8 : decode cX7_release 8 = .ok (.invokevirtual 37, 3) := by decide +kernel
theorem dX7_release_11 : decode cX7_release 11 = .ok (.aload_n 0, 1) := by decide +kernel
theorem dX7_release_12 : decode cX7_release 12 = .ok (.aload_n 0, 1) := by decide +kernel
theorem dX7_release_13 : decode cX7_release 13 = .ok (.getfield 10, 3) := by decide +kernel
theorem dX7_release_16 : decode cX7_release 16 = .ok (.iload_n 1, 1) := by decide +kernel
theorem dX7_release_17 : decode cX7_release 17 = .ok (.invokevirtual 71, 3) := by decide +kernel
theorem dX7_release_20 : decode cX7_release 20 = .ok (.invokevirtual 45, 3) := by decide +kernel
theorem dX7_release_23 : decode cX7_release 23 = .ok (.ireturn, 1) := by decide +kernel
theorem dX7_bill_0 : decode cX7_bill 0 = .ok (.aload_n 0, 1) := by decide +kernel
theorem dX7_bill_1 : decode cX7_bill 1 = .ok (.getfield 19, 3) := by decide +kernel
theorem dX7_bill_4 : decode cX7_bill 4 = .ok (.aload_n 0, 1) := by decide +kernel
theorem dX7_bill_5 : decode cX7_bill 5 = .ok (.getfield 10, 3) := by decide +kernel
theorem dX7_bill_8 : decode cX7_bill 8 = .ok (.invokevirtual 37, 3) := by decide +kernel
theorem dX7_bill_11 : decode cX7_bill 11 = .ok (.aload_n 0, 1) := by decide +kernel
theorem dX7_bill_12 : decode cX7_bill 12 = .ok (.aload_n 0, 1) := by decide +kernel
theorem dX7_bill_13 : decode cX7_bill 13 = .ok (.getfield 10, 3) := by decide +kernel
theorem dX7_bill_16 : decode cX7_bill 16 = .ok (.iload_n 1, 1) := by decide +kernel
theorem dX7_bill_17 : decode cX7_bill 17 = .ok (.iload_n 2, 1) := by decide +kernel
theorem dX7_bill_18 : decode cX7_bill 18 = .ok (.invokevirtual 74, 3) := by decide +kernel
theorem dX7_bill_21 : decode cX7_bill 21 = .ok (.invokevirtual 45, 3) := by decide +kernel
theorem dX7_bill_24 : decode cX7_bill 24 = .ok (.ireturn, 1) := by decide +kernel
theorem dX7_settle_0 : decode cX7_settle 0 = .ok (.aload_n 0, 1) := by decide +kernel
theorem dX7_settle_1 : decode cX7_settle 1 = .ok (.getfield 19, 3) := by decide +kernel
theorem dX7_settle_4 : decode cX7_settle 4 = .ok (.aload_n 0, 1) := by decide +kernel
theorem dX7_settle_5 : decode cX7_settle 5 = .ok (.getfield 10, 3) := by decide +kernel
theorem dX7_settle_8 : decode cX7_settle 8 = .ok (.invokevirtual 37, 3) := by decide +kernel
theorem dX7_settle_11 : decode cX7_settle 11 = .ok (.aload_n 0, 1) := by decide +kernel
theorem dX7_settle_12 : decode cX7_settle 12 = .ok (.aload_n 0, 1) := by decide +kernel
theorem dX7_settle_13 : decode cX7_settle 13 = .ok (.getfield 10, 3) := by decide +kernel
theorem dX7_settle_16 : decode cX7_settle 16 = .ok (.iload_n 1, 1) := by decide +kernel
theorem dX7_settle_17 : decode cX7_settle 17 = .ok (.invokevirtual 77, 3) := by decide +kernel
theorem dX7_settle_20 : decode cX7_settle 20 = .ok (.invokevirtual 45, 3) := by decide +kernel
theorem dX7_settle_23 : decode cX7_settle 23 = .ok (.ireturn, 1) := by decide +kernel
theorem dX7_pass_0 : decode cX7_pass 0 = .ok (.aload_n 0, 1) := by decide +kernel
theorem dX7_pass_1 : decode cX7_pass 1 = .ok (.getfield 19, 3) := by decide +kernel
theorem dX7_pass_4 : decode cX7_pass 4 = .ok (.aload_n 0, 1) := by decide +kernel
theorem dX7_pass_5 : decode cX7_pass 5 = .ok (.getfield 10, 3) := by decide +kernel
theorem dX7_pass_8 : decode cX7_pass 8 = .ok (.invokevirtual 37, 3) := by decide +kernel
theorem dX7_pass_11 : decode cX7_pass 11 = .ok (.aload_n 0, 1) := by decide +kernel
theorem dX7_pass_12 : decode cX7_pass 12 = .ok (.getfield 10, 3) := by decide +kernel
theorem dX7_pass_15 : decode cX7_pass 15 = .ok (.iload_n 1, 1) := by decide +kernel
theorem dX7_pass_16 : decode cX7_pass 16 = .ok (.invokevirtual 80, 3) := by decide +kernel
theorem dX7_pass_19 : decode cX7_pass 19 = .ok (.lstore_n 2, 1) := by decide +kernel
theorem dX7_pass_20 : decode cX7_pass 20 = .ok (.lload_n 2, 1) := by decide +kernel
theorem dX7_pass_21 : decode cX7_pass 21 = .ok (.lconst 0, 1) := by decide +kernel
theorem dX7_pass_22 : decode cX7_pass 22 = .ok (.lcmp, 1) := by decide +kernel
theorem dX7_pass_23 : decode cX7_pass 23 = .ok (.ifCond .lt 10, 3) := by decide +kernel
theorem dX7_pass_26 : decode cX7_pass 26 = .ok (.aload_n 0, 1) := by decide +kernel
theorem dX7_pass_27 : decode cX7_pass 27 = .ok (.getfield 19, 3) := by decide +kernel
theorem dX7_pass_30 : decode cX7_pass 30 = .ok (.invokevirtual 84, 3) := by decide +kernel
theorem dX7_pass_33 : decode cX7_pass 33 = .ok (.lload_n 2, 1) := by decide +kernel
theorem dX7_pass_34 : decode cX7_pass 34 = .ok (.lreturn, 1) := by decide +kernel
theorem dX7_reverse_0 : decode cX7_reverse 0 = .ok (.aload_n 0, 1) := by decide +kernel
theorem dX7_reverse_1 : decode cX7_reverse 1 = .ok (.getfield 19, 3) := by decide +kernel
theorem dX7_reverse_4 : decode cX7_reverse 4 = .ok (.aload_n 0, 1) := by decide +kernel
theorem dX7_reverse_5 : decode cX7_reverse 5 = .ok (.getfield 10, 3) := by decide +kernel
theorem dX7_reverse_8 : decode cX7_reverse 8 = .ok (.invokevirtual 37, 3) := by decide +kernel
theorem dX7_reverse_11 : decode cX7_reverse 11 = .ok (.aload_n 0, 1) := by decide +kernel
theorem dX7_reverse_12 : decode cX7_reverse 12 = .ok (.aload_n 0, 1) := by decide +kernel
theorem dX7_reverse_13 : decode cX7_reverse 13 = .ok (.getfield 10, 3) := by decide +kernel
theorem dX7_reverse_16 : decode cX7_reverse 16 = .ok (.iload_n 1, 1) := by decide +kernel
theorem dX7_reverse_17 : decode cX7_reverse 17 = .ok (.invokevirtual 87, 3) := by decide +kernel
theorem dX7_reverse_20 : decode cX7_reverse 20 = .ok (.invokevirtual 45, 3) := by decide +kernel
theorem dX7_reverse_23 : decode cX7_reverse 23 = .ok (.ireturn, 1) := by decide +kernel
theorem dX7_day_0 : decode cX7_day 0 = .ok (.aload_n 0, 1) := by decide +kernel
theorem dX7_day_1 : decode cX7_day 1 = .ok (.getfield 10, 3) := by decide +kernel
theorem dX7_day_4 : decode cX7_day 4 = .ok (.getfield 90, 3) := by decide +kernel
theorem dX7_day_7 : decode cX7_day 7 = .ok (.ireturn, 1) := by decide +kernel
theorem dX7_clients_0 : decode cX7_clients 0 = .ok (.aload_n 0, 1) := by decide +kernel
theorem dX7_clients_1 : decode cX7_clients 1 = .ok (.getfield 10, 3) := by decide +kernel
theorem dX7_clients_4 : decode cX7_clients 4 = .ok (.getfield 94, 3) := by decide +kernel
theorem dX7_clients_7 : decode cX7_clients 7 = .ok (.getfield 98, 3) := by decide +kernel
theorem dX7_clients_10 : decode cX7_clients 10 = .ok (.ireturn, 1) := by decide +kernel
theorem dX7_ranked_0 : decode cX7_ranked 0 = .ok (.iload_n 1, 1) := by decide +kernel
theorem dX7_ranked_1 : decode cX7_ranked 1 = .ok (.ifCond .lt 8, 3) := by decide +kernel
theorem dX7_ranked_4 : decode cX7_ranked 4 = .ok (.iload_n 1, 1) := by decide +kernel
theorem dX7_ranked_5 : decode cX7_ranked 5 = .ok (.iconst 3, 1) := by decide +kernel
theorem dX7_ranked_6 : decode cX7_ranked 6 = .ok (.if_icmp .le 6, 3) := by decide +kernel
theorem dX7_ranked_9 : decode cX7_ranked 9 = .ok (.bipush (-2), 2) := by decide +kernel
theorem dX7_ranked_11 : decode cX7_ranked 11 = .ok (.ireturn, 1) := by decide +kernel
theorem dX7_ranked_12 : decode cX7_ranked 12 = .ok (.iload_n 2, 1) := by decide +kernel
theorem dX7_ranked_13 : decode cX7_ranked 13 = .ok (.ifCond .lt 17, 3) := by decide +kernel
theorem dX7_ranked_16 : decode cX7_ranked 16 = .ok (.iload_n 2, 1) := by decide +kernel
theorem dX7_ranked_17 : decode cX7_ranked 17 = .ok (.aload_n 0, 1) := by decide +kernel
theorem dX7_ranked_18 : decode cX7_ranked 18 = .ok (.getfield 10, 3) := by decide +kernel
theorem dX7_ranked_21 : decode cX7_ranked 21 = .ok (.getfield 94, 3) := by decide +kernel
theorem dX7_ranked_24 : decode cX7_ranked 24 = .ok (.getfield 98, 3) := by decide +kernel
theorem dX7_ranked_27 : decode cX7_ranked 27 = .ok (.if_icmp .lt 5, 3) := by decide +kernel
theorem dX7_ranked_30 : decode cX7_ranked 30 = .ok (.iconst (-1), 1) := by decide +kernel
theorem dX7_ranked_31 : decode cX7_ranked 31 = .ok (.ireturn, 1) := by decide +kernel
theorem dX7_ranked_32 : decode cX7_ranked 32 = .ok (.aload_n 0, 1) := by decide +kernel
theorem dX7_ranked_33 : decode cX7_ranked 33 = .ok (.getfield 33, 3) := by decide +kernel
theorem dX7_ranked_36 : decode cX7_ranked 36 = .ok (.aload_n 0, 1) := by decide +kernel
theorem dX7_ranked_37 : decode cX7_ranked 37 = .ok (.getfield 10, 3) := by decide +kernel
theorem dX7_ranked_40 : decode cX7_ranked 40 = .ok (.iload_n 1, 1) := by decide +kernel
theorem dX7_ranked_41 : decode cX7_ranked 41 = .ok (.invokevirtual 103, 3) := by decide +kernel
theorem dX7_ranked_44 : decode cX7_ranked 44 = .ok (.aload_n 0, 1) := by decide +kernel
theorem dX7_ranked_45 : decode cX7_ranked 45 = .ok (.getfield 33, 3) := by decide +kernel
theorem dX7_ranked_48 : decode cX7_ranked 48 = .ok (.iload_n 2, 1) := by decide +kernel
theorem dX7_ranked_49 : decode cX7_ranked 49 = .ok (.invokevirtual 107, 3) := by decide +kernel
theorem dX7_ranked_52 : decode cX7_ranked 52 = .ok (.ireturn, 1) := by decide +kernel
theorem dX7_of_0 : decode cX7_of 0 = .ok (.aload_n 0, 1) := by decide +kernel
theorem dX7_of_1 : decode cX7_of 1 = .ok (.getfield 10, 3) := by decide +kernel
theorem dX7_of_4 : decode cX7_of 4 = .ok (.getfield 94, 3) := by decide +kernel
theorem dX7_of_7 : decode cX7_of 7 = .ok (.iload_n 1, 1) := by decide +kernel
theorem dX7_of_8 : decode cX7_of 8 = .ok (.invokevirtual 110, 3) := by decide +kernel
theorem dX7_of_11 : decode cX7_of 11 = .ok (.istore_n 3, 1) := by decide +kernel
theorem dX7_of_12 : decode cX7_of 12 = .ok (.iload_n 3, 1) := by decide +kernel
theorem dX7_of_13 : decode cX7_of 13 = .ok (.ifCond .ge 5, 3) := by decide +kernel
theorem dX7_of_16 : decode cX7_of 16 = .ok (.iconst (-1), 1) := by decide +kernel
theorem dX7_of_17 : decode cX7_of 17 = .ok (.ireturn, 1) := by decide +kernel
theorem dX7_of_18 : decode cX7_of 18 = .ok (.aload_n 0, 1) := by decide +kernel
theorem dX7_of_19 : decode cX7_of 19 = .ok (.getfield 10, 3) := by decide +kernel
theorem dX7_of_22 : decode cX7_of 22 = .ok (.iload_n 3, 1) := by decide +kernel
theorem dX7_of_23 : decode cX7_of 23 = .ok (.iload_n 2, 1) := by decide +kernel
theorem dX7_of_24 : decode cX7_of 24 = .ok (.invokevirtual 113, 3) := by decide +kernel
theorem dX7_of_27 : decode cX7_of 27 = .ok (.ireturn, 1) := by decide +kernel
theorem dX7_holdOf_0 : decode cX7_holdOf 0 = .ok (.aload_n 0, 1) := by decide +kernel
theorem dX7_holdOf_1 : decode cX7_holdOf 1 = .ok (.getfield 10, 3) := by decide +kernel
theorem dX7_holdOf_4 : decode cX7_holdOf 4 = .ok (.getfield 116, 3) := by decide +kernel
theorem dX7_holdOf_7 : decode cX7_holdOf 7 = .ok (.iload_n 1, 1) := by decide +kernel
theorem dX7_holdOf_8 : decode cX7_holdOf 8 = .ok (.iload_n 2, 1) := by decide +kernel
theorem dX7_holdOf_9 : decode cX7_holdOf 9 = .ok (.invokestatic 120, 3) := by decide +kernel
theorem dX7_holdOf_12 : decode cX7_holdOf 12 = .ok (.ireturn, 1) := by decide +kernel
theorem dX7_billOf_0 : decode cX7_billOf 0 = .ok (.aload_n 0, 1) := by decide +kernel
theorem dX7_billOf_1 : decode cX7_billOf 1 = .ok (.getfield 10, 3) := by decide +kernel
theorem dX7_billOf_4 : decode cX7_billOf 4 = .ok (.getfield 124, 3) := by decide +kernel
theorem dX7_billOf_7 : decode cX7_billOf 7 = .ok (.iload_n 1, 1) := by decide +kernel
theorem dX7_billOf_8 : decode cX7_billOf 8 = .ok (.iload_n 2, 1) := by decide +kernel
theorem dX7_billOf_9 : decode cX7_billOf 9 = .ok (.invokestatic 120, 3) := by decide +kernel
theorem dX7_billOf_12 : decode cX7_billOf 12 = .ok (.ireturn, 1) := by decide +kernel
theorem dX7_entries_0 : decode cX7_entries 0 = .ok (.aload_n 0, 1) := by decide +kernel
theorem dX7_entries_1 : decode cX7_entries 1 = .ok (.getfield 10, 3) := by decide +kernel
theorem dX7_entries_4 : decode cX7_entries 4 = .ok (.getfield 127, 3) := by decide +kernel
theorem dX7_entries_7 : decode cX7_entries 7 = .ok (.getfield 131, 3) := by decide +kernel
theorem dX7_entries_10 : decode cX7_entries 10 = .ok (.ireturn, 1) := by decide +kernel
theorem dX7_entry_0 : decode cX7_entry 0 = .ok (.aload_n 0, 1) := by decide +kernel
theorem dX7_entry_1 : decode cX7_entry 1 = .ok (.getfield 10, 3) := by decide +kernel
theorem dX7_entry_4 : decode cX7_entry 4 = .ok (.getfield 127, 3) := by decide +kernel
theorem dX7_entry_7 : decode cX7_entry 7 = .ok (.iload_n 1, 1) := by decide +kernel
theorem dX7_entry_8 : decode cX7_entry 8 = .ok (.invokevirtual 136, 3) := by decide +kernel
theorem dX7_entry_11 : decode cX7_entry 11 = .ok (.ifCond .ne 5, 3) := by decide +kernel
theorem dX7_entry_14 : decode cX7_entry 14 = .ok (.iconst (-1), 1) := by decide +kernel
theorem dX7_entry_15 : decode cX7_entry 15 = .ok (.ireturn, 1) := by decide +kernel
theorem dX7_entry_16 : decode cX7_entry 16 = .ok (.iload_n 2, 1) := by decide +kernel
theorem dX7_entry_17 : decode cX7_entry 17 = .ok (.ifCond .lt 9, 3) := by decide +kernel
theorem dX7_entry_20 : decode cX7_entry 20 = .ok (.iload_n 2, 1) := by decide +kernel
theorem dX7_entry_21 : decode cX7_entry 21 = .ok (.bipush 6, 2) := by decide +kernel
theorem dX7_entry_23 : decode cX7_entry 23 = .ok (.if_icmp .le 6, 3) := by decide +kernel
theorem dX7_entry_26 : decode cX7_entry 26 = .ok (.bipush (-2), 2) := by decide +kernel
theorem dX7_entry_28 : decode cX7_entry 28 = .ok (.ireturn, 1) := by decide +kernel
theorem dX7_entry_29 : decode cX7_entry 29 = .ok (.aload_n 0, 1) := by decide +kernel
theorem dX7_entry_30 : decode cX7_entry 30 = .ok (.getfield 10, 3) := by decide +kernel
theorem dX7_entry_33 : decode cX7_entry 33 = .ok (.getfield 127, 3) := by decide +kernel
theorem dX7_entry_36 : decode cX7_entry 36 = .ok (.iload_n 1, 1) := by decide +kernel
theorem dX7_entry_37 : decode cX7_entry 37 = .ok (.iload_n 2, 1) := by decide +kernel
theorem dX7_entry_38 : decode cX7_entry 38 = .ok (.invokevirtual 140, 3) := by decide +kernel
theorem dX7_entry_41 : decode cX7_entry 41 = .ok (.ireturn, 1) := by decide +kernel
theorem dX7_sum_0 : decode cX7_sum 0 = .ok (.iload_n 1, 1) := by decide +kernel
theorem dX7_sum_1 : decode cX7_sum 1 = .ok (.tableswitch 94 0 5 #[39, 50, 62, 70, 78, 86], 39) := by decide +kernel
theorem dX7_sum_40 : decode cX7_sum 40 = .ok (.aload_n 0, 1) := by decide +kernel
theorem dX7_sum_41 : decode cX7_sum 41 = .ok (.getfield 10, 3) := by decide +kernel
theorem dX7_sum_44 : decode cX7_sum 44 = .ok (.getfield 94, 3) := by decide +kernel
theorem dX7_sum_47 : decode cX7_sum 47 = .ok (.invokevirtual 143, 3) := by decide +kernel
theorem dX7_sum_50 : decode cX7_sum 50 = .ok (.lreturn, 1) := by decide +kernel
theorem dX7_sum_51 : decode cX7_sum 51 = .ok (.aload_n 0, 1) := by decide +kernel
theorem dX7_sum_52 : decode cX7_sum 52 = .ok (.getfield 10, 3) := by decide +kernel
theorem dX7_sum_55 : decode cX7_sum 55 = .ok (.getfield 116, 3) := by decide +kernel
theorem dX7_sum_58 : decode cX7_sum 58 = .ok (.iconst 2, 1) := by decide +kernel
theorem dX7_sum_59 : decode cX7_sum 59 = .ok (.invokevirtual 149, 3) := by decide +kernel
theorem dX7_sum_62 : decode cX7_sum 62 = .ok (.lreturn, 1) := by decide +kernel
theorem dX7_sum_63 : decode cX7_sum 63 = .ok (.aload_n 0, 1) := by decide +kernel
theorem dX7_sum_64 : decode cX7_sum 64 = .ok (.getfield 10, 3) := by decide +kernel
theorem dX7_sum_67 : decode cX7_sum 67 = .ok (.getfield 152, 3) := by decide +kernel
theorem dX7_sum_70 : decode cX7_sum 70 = .ok (.lreturn, 1) := by decide +kernel
theorem dX7_sum_71 : decode cX7_sum 71 = .ok (.aload_n 0, 1) := by decide +kernel
theorem dX7_sum_72 : decode cX7_sum 72 = .ok (.getfield 10, 3) := by decide +kernel
theorem dX7_sum_75 : decode cX7_sum 75 = .ok (.getfield 156, 3) := by decide +kernel
theorem dX7_sum_78 : decode cX7_sum 78 = .ok (.lreturn, 1) := by decide +kernel
theorem dX7_sum_79 : decode cX7_sum 79 = .ok (.aload_n 0, 1) := by decide +kernel
theorem dX7_sum_80 : decode cX7_sum 80 = .ok (.getfield 10, 3) := by decide +kernel
theorem dX7_sum_83 : decode cX7_sum 83 = .ok (.getfield 159, 3) := by decide +kernel
theorem dX7_sum_86 : decode cX7_sum 86 = .ok (.lreturn, 1) := by decide +kernel
theorem dX7_sum_87 : decode cX7_sum 87 = .ok (.aload_n 0, 1) := by decide +kernel
theorem dX7_sum_88 : decode cX7_sum 88 = .ok (.getfield 10, 3) := by decide +kernel
theorem dX7_sum_91 : decode cX7_sum 91 = .ok (.getfield 162, 3) := by decide +kernel
theorem dX7_sum_94 : decode cX7_sum 94 = .ok (.lreturn, 1) := by decide +kernel
theorem dX7_sum_95 : decode cX7_sum 95 = .ok (.ldc2_w 165, 3) := by decide +kernel
theorem dX7_sum_98 : decode cX7_sum 98 = .ok (.lreturn, 1) := by decide +kernel
theorem dX7_payableOn_0 : decode cX7_payableOn 0 = .ok (.aload_n 0, 1) := by decide +kernel
theorem dX7_payableOn_1 : decode cX7_payableOn 1 = .ok (.getfield 10, 3) := by decide +kernel
theorem dX7_payableOn_4 : decode cX7_payableOn 4 = .ok (.getfield 94, 3) := by decide +kernel
theorem dX7_payableOn_7 : decode cX7_payableOn 7 = .ok (.iload_n 1, 1) := by decide +kernel
theorem dX7_payableOn_8 : decode cX7_payableOn 8 = .ok (.invokevirtual 110, 3) := by decide +kernel
theorem dX7_payableOn_11 : decode cX7_payableOn 11 = .ok (.istore_n 3, 1) := by decide +kernel
theorem dX7_payableOn_12 : decode cX7_payableOn 12 = .ok (.iload_n 3, 1) := by decide +kernel
theorem dX7_payableOn_13 : decode cX7_payableOn 13 = .ok (.ifCond .ge 5, 3) := by decide +kernel
theorem dX7_payableOn_16 : decode cX7_payableOn 16 = .ok (.iconst (-1), 1) := by decide +kernel
theorem dX7_payableOn_17 : decode cX7_payableOn 17 = .ok (.ireturn, 1) := by decide +kernel
theorem dX7_payableOn_18 : decode cX7_payableOn 18 = .ok (.iload_n 2, 1) := by decide +kernel
theorem dX7_payableOn_19 : decode cX7_payableOn 19 = .ok (.invokestatic 167, 3) := by decide +kernel
theorem dX7_payableOn_22 : decode cX7_payableOn 22 = .ok (.ifCond .ne 6, 3) := by decide +kernel
theorem dX7_payableOn_25 : decode cX7_payableOn 25 = .ok (.bipush (-2), 2) := by decide +kernel
theorem dX7_payableOn_27 : decode cX7_payableOn 27 = .ok (.ireturn, 1) := by decide +kernel
theorem dX7_payableOn_28 : decode cX7_payableOn 28 = .ok (.aload_n 0, 1) := by decide +kernel
theorem dX7_payableOn_29 : decode cX7_payableOn 29 = .ok (.getfield 10, 3) := by decide +kernel
theorem dX7_payableOn_32 : decode cX7_payableOn 32 = .ok (.iload_n 3, 1) := by decide +kernel
theorem dX7_payableOn_33 : decode cX7_payableOn 33 = .ok (.iload_n 2, 1) := by decide +kernel
theorem dX7_payableOn_34 : decode cX7_payableOn 34 = .ok (.invokevirtual 170, 3) := by decide +kernel
theorem dX7_payableOn_37 : decode cX7_payableOn 37 = .ok (.ireturn, 1) := by decide +kernel
theorem dX7_interestIn_0 : decode cX7_interestIn 0 = .ok (.aload_n 0, 1) := by decide +kernel
theorem dX7_interestIn_1 : decode cX7_interestIn 1 = .ok (.getfield 10, 3) := by decide +kernel
theorem dX7_interestIn_4 : decode cX7_interestIn 4 = .ok (.getfield 94, 3) := by decide +kernel
theorem dX7_interestIn_7 : decode cX7_interestIn 7 = .ok (.iload_n 1, 1) := by decide +kernel
theorem dX7_interestIn_8 : decode cX7_interestIn 8 = .ok (.invokevirtual 110, 3) := by decide +kernel
theorem dX7_interestIn_11 : decode cX7_interestIn 11 = .ok (.istore_n 3, 1) := by decide +kernel
theorem dX7_interestIn_12 : decode cX7_interestIn 12 = .ok (.iload_n 3, 1) := by decide +kernel
theorem dX7_interestIn_13 : decode cX7_interestIn 13 = .ok (.ifCond .ge 5, 3) := by decide +kernel
theorem dX7_interestIn_16 : decode cX7_interestIn 16 = .ok (.iconst (-1), 1) := by decide +kernel
theorem dX7_interestIn_17 : decode cX7_interestIn 17 = .ok (.ireturn, 1) := by decide +kernel
theorem dX7_interestIn_18 : decode cX7_interestIn 18 = .ok (.iload_n 2, 1) := by decide +kernel
theorem dX7_interestIn_19 : decode cX7_interestIn 19 = .ok (.iconst 1, 1) := by decide +kernel
theorem dX7_interestIn_20 : decode cX7_interestIn 20 = .ok (.if_icmp .lt 10, 3) := by decide +kernel
theorem dX7_interestIn_23 : decode cX7_interestIn 23 = .ok (.iload_n 2, 1) := by decide +kernel
theorem dX7_interestIn_24 : decode cX7_interestIn 24 = .ok (.sipush 400, 3) := by decide +kernel
theorem dX7_interestIn_27 : decode cX7_interestIn 27 = .ok (.if_icmp .le 6, 3) := by decide +kernel
theorem dX7_interestIn_30 : decode cX7_interestIn 30 = .ok (.bipush (-2), 2) := by decide +kernel
theorem dX7_interestIn_32 : decode cX7_interestIn 32 = .ok (.ireturn, 1) := by decide +kernel
theorem dX7_interestIn_33 : decode cX7_interestIn 33 = .ok (.aload_n 0, 1) := by decide +kernel
theorem dX7_interestIn_34 : decode cX7_interestIn 34 = .ok (.getfield 10, 3) := by decide +kernel
theorem dX7_interestIn_37 : decode cX7_interestIn 37 = .ok (.iload_n 3, 1) := by decide +kernel
theorem dX7_interestIn_38 : decode cX7_interestIn 38 = .ok (.iload_n 2, 1) := by decide +kernel
theorem dX7_interestIn_39 : decode cX7_interestIn 39 = .ok (.invokevirtual 173, 3) := by decide +kernel
theorem dX7_interestIn_42 : decode cX7_interestIn 42 = .ok (.ireturn, 1) := by decide +kernel
theorem dX7_keptUnlessError_0 : decode cX7_keptUnlessError 0 = .ok (.iload_n 1, 1) := by decide +kernel
theorem dX7_keptUnlessError_1 : decode cX7_keptUnlessError 1 = .ok (.ifCond .lt 10, 3) := by decide +kernel
theorem dX7_keptUnlessError_4 : decode cX7_keptUnlessError 4 = .ok (.aload_n 0, 1) := by decide +kernel
theorem dX7_keptUnlessError_5 : decode cX7_keptUnlessError 5 = .ok (.getfield 19, 3) := by decide +kernel
theorem dX7_keptUnlessError_8 : decode cX7_keptUnlessError 8 = .ok (.invokevirtual 84, 3) := by decide +kernel
theorem dX7_keptUnlessError_11 : decode cX7_keptUnlessError 11 = .ok (.iload_n 1, 1) := by decide +kernel
theorem dX7_keptUnlessError_12 : decode cX7_keptUnlessError 12 = .ok (.ireturn, 1) := by decide +kernel
theorem dX7_aboutRow_0 : decode cX7_aboutRow 0 = .ok (.aload_n 0, 1) := by decide +kernel
theorem dX7_aboutRow_1 : decode cX7_aboutRow 1 = .ok (.iload_n 1, 1) := by decide +kernel
theorem dX7_aboutRow_2 : decode cX7_aboutRow 2 = .ok (.invokevirtual 228, 3) := by decide +kernel
theorem dX7_aboutRow_5 : decode cX7_aboutRow 5 = .ok (.istore_n 3, 1) := by decide +kernel
theorem dX7_aboutRow_6 : decode cX7_aboutRow 6 = .ok (.iload_n 3, 1) := by decide +kernel
theorem dX7_aboutRow_7 : decode cX7_aboutRow 7 = .ok (.ifCond .ge 5, 3) := by decide +kernel
theorem dX7_aboutRow_10 : decode cX7_aboutRow 10 = .ok (.iconst (-1), 1) := by decide +kernel
theorem dX7_aboutRow_11 : decode cX7_aboutRow 11 = .ok (.ireturn, 1) := by decide +kernel
theorem dX7_aboutRow_12 : decode cX7_aboutRow 12 = .ok (.iload_n 2, 1) := by decide +kernel
theorem dX7_aboutRow_13 : decode cX7_aboutRow 13 = .ok (.ifCond .lt 8, 3) := by decide +kernel
theorem dX7_aboutRow_16 : decode cX7_aboutRow 16 = .ok (.iload_n 2, 1) := by decide +kernel
theorem dX7_aboutRow_17 : decode cX7_aboutRow 17 = .ok (.iconst 2, 1) := by decide +kernel
theorem dX7_aboutRow_18 : decode cX7_aboutRow 18 = .ok (.if_icmp .le 6, 3) := by decide +kernel
theorem dX7_aboutRow_21 : decode cX7_aboutRow 21 = .ok (.bipush (-2), 2) := by decide +kernel
theorem dX7_aboutRow_23 : decode cX7_aboutRow 23 = .ok (.ireturn, 1) := by decide +kernel
theorem dX7_aboutRow_24 : decode cX7_aboutRow 24 = .ok (.aload_n 0, 1) := by decide +kernel
theorem dX7_aboutRow_25 : decode cX7_aboutRow 25 = .ok (.iload_n 3, 1) := by decide +kernel
theorem dX7_aboutRow_26 : decode cX7_aboutRow 26 = .ok (.iconst 1, 1) := by decide +kernel
theorem dX7_aboutRow_27 : decode cX7_aboutRow 27 = .ok (.iload_n 2, 1) := by decide +kernel
theorem dX7_aboutRow_28 : decode cX7_aboutRow 28 = .ok (.iadd, 1) := by decide +kernel
theorem dX7_aboutRow_29 : decode cX7_aboutRow 29 = .ok (.invokevirtual 229, 3) := by decide +kernel
theorem dX7_aboutRow_32 : decode cX7_aboutRow 32 = .ok (.ireturn, 1) := by decide +kernel
theorem dX7_isAmount_0 : decode cX7_isAmount 0 = .ok (.iload_n 0, 1) := by decide +kernel
theorem dX7_isAmount_1 : decode cX7_isAmount 1 = .ok (.iconst 1, 1) := by decide +kernel
theorem dX7_isAmount_2 : decode cX7_isAmount 2 = .ok (.if_icmp .lt 13, 3) := by decide +kernel
theorem dX7_isAmount_5 : decode cX7_isAmount 5 = .ok (.iload_n 0, 1) := by decide +kernel
theorem dX7_isAmount_6 : decode cX7_isAmount 6 = .ok (.ldc 230, 2) := by decide +kernel
theorem dX7_isAmount_8 : decode cX7_isAmount 8 = .ok (.if_icmp .gt 7, 3) := by decide +kernel
theorem dX7_isAmount_11 : decode cX7_isAmount 11 = .ok (.iconst 1, 1) := by decide +kernel
theorem dX7_isAmount_12 : decode cX7_isAmount 12 = .ok (.goto 4, 3) := by decide +kernel
theorem dX7_isAmount_15 : decode cX7_isAmount 15 = .ok (.iconst 0, 1) := by decide +kernel
theorem dX7_isAmount_16 : decode cX7_isAmount 16 = .ok (.ireturn, 1) := by decide +kernel
theorem dX7_nextCreditDay_0 : decode cX7_nextCreditDay 0 = .ok (.iload_n 0, 1) := by decide +kernel
theorem dX7_nextCreditDay_1 : decode cX7_nextCreditDay 1 = .ok (.iload_n 0, 1) := by decide +kernel
theorem dX7_nextCreditDay_2 : decode cX7_nextCreditDay 2 = .ok (.bipush 30, 2) := by decide +kernel
theorem dX7_nextCreditDay_4 : decode cX7_nextCreditDay 4 = .ok (.irem, 1) := by decide +kernel
theorem dX7_nextCreditDay_5 : decode cX7_nextCreditDay 5 = .ok (.isub, 1) := by decide +kernel
theorem dX7_nextCreditDay_6 : decode cX7_nextCreditDay 6 = .ok (.bipush 30, 2) := by decide +kernel
theorem dX7_nextCreditDay_8 : decode cX7_nextCreditDay 8 = .ok (.iadd, 1) := by decide +kernel
theorem dX7_nextCreditDay_9 : decode cX7_nextCreditDay 9 = .ok (.ireturn, 1) := by decide +kernel
theorem dJ9_min_7cf53_0 : decode cJ9_min_7cf53 0 = .ok (.iload_n 0, 1) := by decide +kernel
theorem dJ9_min_7cf53_1 : decode cJ9_min_7cf53 1 = .ok (.iload_n 1, 1) := by decide +kernel
theorem dJ9_min_7cf53_2 : decode cJ9_min_7cf53 2 = .ok (.if_icmp .gt 7, 3) := by decide +kernel
theorem dJ9_min_7cf53_5 : decode cJ9_min_7cf53 5 = .ok (.iload_n 0, 1) := by decide +kernel
theorem dJ9_min_7cf53_6 : decode cJ9_min_7cf53 6 = .ok (.goto 4, 3) := by decide +kernel
theorem dJ9_min_7cf53_9 : decode cJ9_min_7cf53 9 = .ok (.iload_n 1, 1) := by decide +kernel
theorem dJ9_min_7cf53_10 : decode cJ9_min_7cf53 10 = .ok (.ireturn, 1) := by decide +kernel
theorem dJ9_min_f86c9_0 : decode cJ9_min_f86c9 0 = .ok (.lload_n 0, 1) := by decide +kernel
theorem dJ9_min_f86c9_1 : decode cJ9_min_f86c9 1 = .ok (.lload_n 2, 1) := by decide +kernel
theorem dJ9_min_f86c9_2 : decode cJ9_min_f86c9 2 = .ok (.lcmp, 1) := by decide +kernel
theorem dJ9_min_f86c9_3 : decode cJ9_min_f86c9 3 = .ok (.ifCond .gt 7, 3) := by decide +kernel
theorem dJ9_min_f86c9_6 : decode cJ9_min_f86c9 6 = .ok (.lload_n 0, 1) := by decide +kernel
theorem dJ9_min_f86c9_7 : decode cJ9_min_f86c9 7 = .ok (.goto 4, 3) := by decide +kernel
theorem dJ9_min_f86c9_10 : decode cJ9_min_f86c9 10 = .ok (.lload_n 2, 1) := by decide +kernel
theorem dJ9_min_f86c9_11 : decode cJ9_min_f86c9 11 = .ok (.lreturn, 1) := by decide +kernel
theorem dL_cell_0 : decode cL_cell 0 = .ok (.iload_n 1, 1) := by decide +kernel
theorem dL_cell_1 : decode cL_cell 1 = .ok (.aload_n 0, 1) := by decide +kernel
theorem dL_cell_2 : decode cL_cell 2 = .ok (.arraylength, 1) := by decide +kernel
theorem dL_cell_3 : decode cL_cell 3 = .ok (.if_icmp .ge 9, 3) := by decide +kernel
theorem dL_cell_6 : decode cL_cell 6 = .ok (.aload_n 0, 1) := by decide +kernel
theorem dL_cell_7 : decode cL_cell 7 = .ok (.iload_n 1, 1) := by decide +kernel
theorem dL_cell_8 : decode cL_cell 8 = .ok (.iaload, 1) := by decide +kernel
theorem dL_cell_9 : decode cL_cell 9 = .ok (.goto 12, 3) := by decide +kernel
theorem dL_cell_12 : decode cL_cell 12 = .ok (.ldc 7, 2) := by decide +kernel
theorem dL_cell_14 : decode cL_cell 14 = .ok (.iload_n 1, 1) := by decide +kernel
theorem dL_cell_15 : decode cL_cell 15 = .ok (.iconst 1, 1) := by decide +kernel
theorem dL_cell_16 : decode cL_cell 16 = .ok (.iadd, 1) := by decide +kernel
theorem dL_cell_17 : decode cL_cell 17 = .ok (.imul, 1) := by decide +kernel
theorem dL_cell_18 : decode cL_cell 18 = .ok (.ldc 8, 2) := by decide +kernel
theorem dL_cell_20 : decode cL_cell 20 = .ok (.iadd, 1) := by decide +kernel
theorem dL_cell_21 : decode cL_cell 21 = .ok (.ireturn, 1) := by decide +kernel
theorem dL_low_0 : decode cL_low 0 = .ok (.iload_n 0, 1) := by decide +kernel
theorem dL_low_1 : decode cL_low 1 = .ok (.ldc 9, 2) := by decide +kernel
theorem dL_low_3 : decode cL_low 3 = .ok (.iand, 1) := by decide +kernel
theorem dL_low_4 : decode cL_low 4 = .ok (.iload_n 1, 1) := by decide +kernel
theorem dL_low_5 : decode cL_low 5 = .ok (.irem, 1) := by decide +kernel
theorem dL_low_6 : decode cL_low 6 = .ok (.ireturn, 1) := by decide +kernel
theorem dL_held_0 : decode cL_held 0 = .ok (.iconst 0, 1) := by decide +kernel
theorem dL_held_1 : decode cL_held 1 = .ok (.istore_n 3, 1) := by decide +kernel
theorem dL_held_2 : decode cL_held 2 = .ok (.iconst 0, 1) := by decide +kernel
theorem dL_held_3 : decode cL_held 3 = .ok (.istore 4, 2) := by decide +kernel
theorem dL_held_5 : decode cL_held 5 = .ok (.iload 4, 2) := by decide +kernel
theorem dL_held_7 : decode cL_held 7 = .ok (.bipush 60, 2) := by decide +kernel
theorem dL_held_9 : decode cL_held 9 = .ok (.if_icmp .ge 40, 3) := by decide +kernel
theorem dL_held_12 : decode cL_held 12 = .ok (.iload_n 3, 1) := by decide +kernel
theorem dL_held_13 : decode cL_held 13 = .ok (.aload_n 2, 1) := by decide +kernel
theorem dL_held_14 : decode cL_held 14 = .ok (.iload 4, 2) := by decide +kernel
theorem dL_held_16 : decode cL_held 16 = .ok (.iaload, 1) := by decide +kernel
theorem dL_held_17 : decode cL_held 17 = .ok (.iload_n 0, 1) := by decide +kernel
theorem dL_held_18 : decode cL_held 18 = .ok (.if_icmp .ne 22, 3) := by decide +kernel
theorem dL_held_21 : decode cL_held 21 = .ok (.iload_n 1, 1) := by decide +kernel
theorem dL_held_22 : decode cL_held 22 = .ok (.aload_n 2, 1) := by decide +kernel
theorem dL_held_23 : decode cL_held 23 = .ok (.iload 4, 2) := by decide +kernel
theorem dL_held_25 : decode cL_held 25 = .ok (.iconst 2, 1) := by decide +kernel
theorem dL_held_26 : decode cL_held 26 = .ok (.iadd, 1) := by decide +kernel
theorem dL_held_27 : decode cL_held 27 = .ok (.iaload, 1) := by decide +kernel
theorem dL_held_28 : decode cL_held 28 = .ok (.if_icmp .gt 12, 3) := by decide +kernel
theorem dL_held_31 : decode cL_held 31 = .ok (.aload_n 2, 1) := by decide +kernel
theorem dL_held_32 : decode cL_held 32 = .ok (.iload 4, 2) := by decide +kernel
theorem dL_held_34 : decode cL_held 34 = .ok (.iconst 1, 1) := by decide +kernel
theorem dL_held_35 : decode cL_held 35 = .ok (.iadd, 1) := by decide +kernel
theorem dL_held_36 : decode cL_held 36 = .ok (.iaload, 1) := by decide +kernel
theorem dL_held_37 : decode cL_held 37 = .ok (.goto 4, 3) := by decide +kernel
theorem dL_held_40 : decode cL_held 40 = .ok (.iconst 0, 1) := by decide +kernel
theorem dL_held_41 : decode cL_held 41 = .ok (.iadd, 1) := by decide +kernel
theorem dL_held_42 : decode cL_held 42 = .ok (.istore_n 3, 1) := by decide +kernel
theorem dL_held_43 : decode cL_held 43 = .ok (.iinc 4 3, 3) := by decide +kernel
theorem dL_held_46 : decode cL_held 46 = .ok (.goto (-41), 3) := by decide +kernel
theorem dL_held_49 : decode cL_held 49 = .ok (.iload_n 3, 1) := by decide +kernel
theorem dL_held_50 : decode cL_held 50 = .ok (.ireturn, 1) := by decide +kernel
theorem dL_free_0 : decode cL_free 0 = .ok (.aload_n 1, 1) := by decide +kernel
theorem dL_free_1 : decode cL_free 1 = .ok (.iload_n 0, 1) := by decide +kernel
theorem dL_free_2 : decode cL_free 2 = .ok (.laload, 1) := by decide +kernel
theorem dL_free_3 : decode cL_free 3 = .ok (.l2i, 1) := by decide +kernel
theorem dL_free_4 : decode cL_free 4 = .ok (.iload_n 0, 1) := by decide +kernel
theorem dL_free_5 : decode cL_free 5 = .ok (.aload_n 2, 1) := by decide +kernel
theorem dL_free_6 : decode cL_free 6 = .ok (.iconst 0, 1) := by decide +kernel
theorem dL_free_7 : decode cL_free 7 = .ok (.iaload, 1) := by decide +kernel
theorem dL_free_8 : decode cL_free 8 = .ok (.aload_n 3, 1) := by decide +kernel
theorem dL_free_9 : decode cL_free 9 = .ok (.invokestatic 10, 3) := by decide +kernel
theorem dL_free_12 : decode cL_free 12 = .ok (.isub, 1) := by decide +kernel
theorem dL_free_13 : decode cL_free 13 = .ok (.ireturn, 1) := by decide +kernel
theorem dL_enter_0 : decode cL_enter 0 = .ok (.aload 4, 2) := by decide +kernel
theorem dL_enter_2 : decode cL_enter 2 = .ok (.bipush 24, 2) := by decide +kernel
theorem dL_enter_4 : decode cL_enter 4 = .ok (.aload 4, 2) := by decide +kernel
theorem dL_enter_6 : decode cL_enter 6 = .ok (.bipush 24, 2) := by decide +kernel
theorem dL_enter_8 : decode cL_enter 8 = .ok (.laload, 1) := by decide +kernel
theorem dL_enter_9 : decode cL_enter 9 = .ok (.ldc2_w 16, 3) := by decide +kernel
theorem dL_enter_12 : decode cL_enter 12 = .ok (.lmul, 1) := by decide +kernel
theorem dL_enter_13 : decode cL_enter 13 = .ok (.aload 5, 2) := by decide +kernel
theorem dL_enter_15 : decode cL_enter 15 = .ok (.iconst 0, 1) := by decide +kernel
theorem dL_enter_16 : decode cL_enter 16 = .ok (.iaload, 1) := by decide +kernel
theorem dL_enter_17 : decode cL_enter 17 = .ok (.i2l, 1) := by decide +kernel
theorem dL_enter_18 : decode cL_enter 18 = .ok (.ldc2_w 18, 3) := by decide +kernel
theorem dL_enter_21 : decode cL_enter 21 = .ok (.lmul, 1) := by decide +kernel
theorem dL_enter_22 : decode cL_enter 22 = .ok (.ladd, 1) := by decide +kernel
theorem dL_enter_23 : decode cL_enter 23 = .ok (.iload_n 0, 1) := by decide +kernel
theorem dL_enter_24 : decode cL_enter 24 = .ok (.i2l, 1) := by decide +kernel
theorem dL_enter_25 : decode cL_enter 25 = .ok (.ldc2_w 20, 3) := by decide +kernel
theorem dL_enter_28 : decode cL_enter 28 = .ok (.lmul, 1) := by decide +kernel
theorem dL_enter_29 : decode cL_enter 29 = .ok (.ladd, 1) := by decide +kernel
theorem dL_enter_30 : decode cL_enter 30 = .ok (.iload_n 1, 1) := by decide +kernel
theorem dL_enter_31 : decode cL_enter 31 = .ok (.i2l, 1) := by decide +kernel
theorem dL_enter_32 : decode cL_enter 32 = .ok (.ldc2_w 22, 3) := by decide +kernel
theorem dL_enter_35 : decode cL_enter 35 = .ok (.lmul, 1) := by decide +kernel
theorem dL_enter_36 : decode cL_enter 36 = .ok (.ladd, 1) := by decide +kernel
theorem dL_enter_37 : decode cL_enter 37 = .ok (.iload_n 2, 1) := by decide +kernel
theorem dL_enter_38 : decode cL_enter 38 = .ok (.i2l, 1) := by decide +kernel
theorem dL_enter_39 : decode cL_enter 39 = .ok (.ldc2_w 24, 3) := by decide +kernel
theorem dL_enter_42 : decode cL_enter 42 = .ok (.lmul, 1) := by decide +kernel
theorem dL_enter_43 : decode cL_enter 43 = .ok (.ladd, 1) := by decide +kernel
theorem dL_enter_44 : decode cL_enter 44 = .ok (.iload_n 3, 1) := by decide +kernel
theorem dL_enter_45 : decode cL_enter 45 = .ok (.i2l, 1) := by decide +kernel
theorem dL_enter_46 : decode cL_enter 46 = .ok (.ladd, 1) := by decide +kernel
theorem dL_enter_47 : decode cL_enter 47 = .ok (.ldc2_w 26, 3) := by decide +kernel
theorem dL_enter_50 : decode cL_enter 50 = .ok (.lrem, 1) := by decide +kernel
theorem dL_enter_51 : decode cL_enter 51 = .ok (.lastore, 1) := by decide +kernel
theorem dL_enter_52 : decode cL_enter 52 = .ok (.aload 5, 2) := by decide +kernel
theorem dL_enter_54 : decode cL_enter 54 = .ok (.iconst 5, 1) := by decide +kernel
theorem dL_enter_55 : decode cL_enter 55 = .ok (.dup2, 1) := by decide +kernel
theorem dL_enter_56 : decode cL_enter 56 = .ok (.iaload, 1) := by decide +kernel
theorem dL_enter_57 : decode cL_enter 57 = .ok (.iconst 1, 1) := by decide +kernel
theorem dL_enter_58 : decode cL_enter 58 = .ok (.iadd, 1) := by decide +kernel
theorem dL_enter_59 : decode cL_enter 59 = .ok (.iastore, 1) := by decide +kernel
theorem dL_enter_60 : decode cL_enter 60 = .ok (.bipush 6, 2) := by decide +kernel
theorem dL_enter_62 : decode cL_enter 62 = .ok (.aload 5, 2) := by decide +kernel
theorem dL_enter_64 : decode cL_enter 64 = .ok (.iconst 5, 1) := by decide +kernel
theorem dL_enter_65 : decode cL_enter 65 = .ok (.iaload, 1) := by decide +kernel
theorem dL_enter_66 : decode cL_enter 66 = .ok (.bipush 10, 2) := by decide +kernel
theorem dL_enter_68 : decode cL_enter 68 = .ok (.irem, 1) := by decide +kernel
theorem dL_enter_69 : decode cL_enter 69 = .ok (.imul, 1) := by decide +kernel
theorem dL_enter_70 : decode cL_enter 70 = .ok (.istore 7, 2) := by decide +kernel
theorem dL_enter_72 : decode cL_enter 72 = .ok (.aload 6, 2) := by decide +kernel
theorem dL_enter_74 : decode cL_enter 74 = .ok (.iload 7, 2) := by decide +kernel
theorem dL_enter_76 : decode cL_enter 76 = .ok (.aload 5, 2) := by decide +kernel
theorem dL_enter_78 : decode cL_enter 78 = .ok (.iconst 0, 1) := by decide +kernel
theorem dL_enter_79 : decode cL_enter 79 = .ok (.iaload, 1) := by decide +kernel
theorem dL_enter_80 : decode cL_enter 80 = .ok (.iastore, 1) := by decide +kernel
theorem dL_enter_81 : decode cL_enter 81 = .ok (.aload 6, 2) := by decide +kernel
theorem dL_enter_83 : decode cL_enter 83 = .ok (.iload 7, 2) := by decide +kernel
theorem dL_enter_85 : decode cL_enter 85 = .ok (.iconst 1, 1) := by decide +kernel
theorem dL_enter_86 : decode cL_enter 86 = .ok (.iadd, 1) := by decide +kernel
theorem dL_enter_87 : decode cL_enter 87 = .ok (.iload_n 0, 1) := by decide +kernel
theorem dL_enter_88 : decode cL_enter 88 = .ok (.iastore, 1) := by decide +kernel
theorem dL_enter_89 : decode cL_enter 89 = .ok (.aload 6, 2) := by decide +kernel
theorem dL_enter_91 : decode cL_enter 91 = .ok (.iload 7, 2) := by decide +kernel
theorem dL_enter_93 : decode cL_enter 93 = .ok (.iconst 2, 1) := by decide +kernel
theorem dL_enter_94 : decode cL_enter 94 = .ok (.iadd, 1) := by decide +kernel
theorem dL_enter_95 : decode cL_enter 95 = .ok (.iload_n 1, 1) := by decide +kernel
theorem dL_enter_96 : decode cL_enter 96 = .ok (.iastore, 1) := by decide +kernel
theorem dL_enter_97 : decode cL_enter 97 = .ok (.aload 6, 2) := by decide +kernel
theorem dL_enter_99 : decode cL_enter 99 = .ok (.iload 7, 2) := by decide +kernel
theorem dL_enter_101 : decode cL_enter 101 = .ok (.iconst 3, 1) := by decide +kernel
theorem dL_enter_102 : decode cL_enter 102 = .ok (.iadd, 1) := by decide +kernel
theorem dL_enter_103 : decode cL_enter 103 = .ok (.iload_n 2, 1) := by decide +kernel
theorem dL_enter_104 : decode cL_enter 104 = .ok (.iastore, 1) := by decide +kernel
theorem dL_enter_105 : decode cL_enter 105 = .ok (.aload 6, 2) := by decide +kernel
theorem dL_enter_107 : decode cL_enter 107 = .ok (.iload 7, 2) := by decide +kernel
theorem dL_enter_109 : decode cL_enter 109 = .ok (.iconst 4, 1) := by decide +kernel
theorem dL_enter_110 : decode cL_enter 110 = .ok (.iadd, 1) := by decide +kernel
theorem dL_enter_111 : decode cL_enter 111 = .ok (.iload_n 3, 1) := by decide +kernel
theorem dL_enter_112 : decode cL_enter 112 = .ok (.iastore, 1) := by decide +kernel
theorem dL_enter_113 : decode cL_enter 113 = .ok (.aload 6, 2) := by decide +kernel
theorem dL_enter_115 : decode cL_enter 115 = .ok (.iload 7, 2) := by decide +kernel
theorem dL_enter_117 : decode cL_enter 117 = .ok (.iconst 5, 1) := by decide +kernel
theorem dL_enter_118 : decode cL_enter 118 = .ok (.iadd, 1) := by decide +kernel
theorem dL_enter_119 : decode cL_enter 119 = .ok (.aload 4, 2) := by decide +kernel
theorem dL_enter_121 : decode cL_enter 121 = .ok (.bipush 24, 2) := by decide +kernel
theorem dL_enter_123 : decode cL_enter 123 = .ok (.laload, 1) := by decide +kernel
theorem dL_enter_124 : decode cL_enter 124 = .ok (.l2i, 1) := by decide +kernel
theorem dL_enter_125 : decode cL_enter 125 = .ok (.iastore, 1) := by decide +kernel
theorem dL_enter_126 : decode cL_enter 126 = .ok (.aload 5, 2) := by decide +kernel
theorem dL_enter_128 : decode cL_enter 128 = .ok (.bipush 10, 2) := by decide +kernel
theorem dL_enter_130 : decode cL_enter 130 = .ok (.iload_n 1, 1) := by decide +kernel
theorem dL_enter_131 : decode cL_enter 131 = .ok (.iadd, 1) := by decide +kernel
theorem dL_enter_132 : decode cL_enter 132 = .ok (.aload 5, 2) := by decide +kernel
theorem dL_enter_134 : decode cL_enter 134 = .ok (.iconst 0, 1) := by decide +kernel
theorem dL_enter_135 : decode cL_enter 135 = .ok (.iaload, 1) := by decide +kernel
theorem dL_enter_136 : decode cL_enter 136 = .ok (.iastore, 1) := by decide +kernel
theorem dL_enter_137 : decode cL_enter 137 = .ok (.iload_n 2, 1) := by decide +kernel
theorem dL_enter_138 : decode cL_enter 138 = .ok (.ifCond .le 14, 3) := by decide +kernel
theorem dL_enter_141 : decode cL_enter 141 = .ok (.aload 5, 2) := by decide +kernel
theorem dL_enter_143 : decode cL_enter 143 = .ok (.bipush 10, 2) := by decide +kernel
theorem dL_enter_145 : decode cL_enter 145 = .ok (.iload_n 2, 1) := by decide +kernel
theorem dL_enter_146 : decode cL_enter 146 = .ok (.iadd, 1) := by decide +kernel
theorem dL_enter_147 : decode cL_enter 147 = .ok (.aload 5, 2) := by decide +kernel
theorem dL_enter_149 : decode cL_enter 149 = .ok (.iconst 0, 1) := by decide +kernel
theorem dL_enter_150 : decode cL_enter 150 = .ok (.iaload, 1) := by decide +kernel
theorem dL_enter_151 : decode cL_enter 151 = .ok (.iastore, 1) := by decide +kernel
theorem dL_enter_152 : decode cL_enter 152 = .ok (.return_, 1) := by decide +kernel
theorem dL_interest_0 : decode cL_interest 0 = .ok (.aload_n 2, 1) := by decide +kernel
theorem dL_interest_1 : decode cL_interest 1 = .ok (.iload_n 0, 1) := by decide +kernel
theorem dL_interest_2 : decode cL_interest 2 = .ok (.laload, 1) := by decide +kernel
theorem dL_interest_3 : decode cL_interest 3 = .ok (.aload_n 3, 1) := by decide +kernel
theorem dL_interest_4 : decode cL_interest 4 = .ok (.iconst 1, 1) := by decide +kernel
theorem dL_interest_5 : decode cL_interest 5 = .ok (.iaload, 1) := by decide +kernel
theorem dL_interest_6 : decode cL_interest 6 = .ok (.i2l, 1) := by decide +kernel
theorem dL_interest_7 : decode cL_interest 7 = .ok (.lcmp, 1) := by decide +kernel
theorem dL_interest_8 : decode cL_interest 8 = .ok (.ifCond .le 10, 3) := by decide +kernel
theorem dL_interest_11 : decode cL_interest 11 = .ok (.aload_n 3, 1) := by decide +kernel
theorem dL_interest_12 : decode cL_interest 12 = .ok (.iconst 1, 1) := by decide +kernel
theorem dL_interest_13 : decode cL_interest 13 = .ok (.iaload, 1) := by decide +kernel
theorem dL_interest_14 : decode cL_interest 14 = .ok (.i2l, 1) := by decide +kernel
theorem dL_interest_15 : decode cL_interest 15 = .ok (.goto 6, 3) := by decide +kernel
theorem dL_interest_18 : decode cL_interest 18 = .ok (.aload_n 2, 1) := by decide +kernel
theorem dL_interest_19 : decode cL_interest 19 = .ok (.iload_n 0, 1) := by decide +kernel
theorem dL_interest_20 : decode cL_interest 20 = .ok (.laload, 1) := by decide +kernel
theorem dL_interest_21 : decode cL_interest 21 = .ok (.lstore 4, 2) := by decide +kernel
theorem dL_interest_23 : decode cL_interest 23 = .ok (.aload_n 2, 1) := by decide +kernel
theorem dL_interest_24 : decode cL_interest 24 = .ok (.bipush 10, 2) := by decide +kernel
theorem dL_interest_26 : decode cL_interest 26 = .ok (.iload_n 0, 1) := by decide +kernel
theorem dL_interest_27 : decode cL_interest 27 = .ok (.iadd, 1) := by decide +kernel
theorem dL_interest_28 : decode cL_interest 28 = .ok (.dup2, 1) := by decide +kernel
theorem dL_interest_29 : decode cL_interest 29 = .ok (.laload, 1) := by decide +kernel
theorem dL_interest_30 : decode cL_interest 30 = .ok (.aload_n 3, 1) := by decide +kernel
theorem dL_interest_31 : decode cL_interest 31 = .ok (.iconst 2, 1) := by decide +kernel
theorem dL_interest_32 : decode cL_interest 32 = .ok (.iaload, 1) := by decide +kernel
theorem dL_interest_33 : decode cL_interest 33 = .ok (.i2l, 1) := by decide +kernel
theorem dL_interest_34 : decode cL_interest 34 = .ok (.lload 4, 2) := by decide +kernel
theorem dL_interest_36 : decode cL_interest 36 = .ok (.lmul, 1) := by decide +kernel
theorem dL_interest_37 : decode cL_interest 37 = .ok (.aload_n 3, 1) := by decide +kernel
theorem dL_interest_38 : decode cL_interest 38 = .ok (.iconst 3, 1) := by decide +kernel
theorem dL_interest_39 : decode cL_interest 39 = .ok (.iaload, 1) := by decide +kernel
theorem dL_interest_40 : decode cL_interest 40 = .ok (.i2l, 1) := by decide +kernel
theorem dL_interest_41 : decode cL_interest 41 = .ok (.aload_n 2, 1) := by decide +kernel
theorem dL_interest_42 : decode cL_interest 42 = .ok (.iload_n 0, 1) := by decide +kernel
theorem dL_interest_43 : decode cL_interest 43 = .ok (.laload, 1) := by decide +kernel
theorem dL_interest_44 : decode cL_interest 44 = .ok (.lload 4, 2) := by decide +kernel
theorem dL_interest_46 : decode cL_interest 46 = .ok (.lsub, 1) := by decide +kernel
theorem dL_interest_47 : decode cL_interest 47 = .ok (.lmul, 1) := by decide +kernel
theorem dL_interest_48 : decode cL_interest 48 = .ok (.ladd, 1) := by decide +kernel
theorem dL_interest_49 : decode cL_interest 49 = .ok (.ladd, 1) := by decide +kernel
theorem dL_interest_50 : decode cL_interest 50 = .ok (.lastore, 1) := by decide +kernel
theorem dL_interest_51 : decode cL_interest 51 = .ok (.aload_n 2, 1) := by decide +kernel
theorem dL_interest_52 : decode cL_interest 52 = .ok (.bipush 10, 2) := by decide +kernel
theorem dL_interest_54 : decode cL_interest 54 = .ok (.iload_n 0, 1) := by decide +kernel
theorem dL_interest_55 : decode cL_interest 55 = .ok (.iadd, 1) := by decide +kernel
theorem dL_interest_56 : decode cL_interest 56 = .ok (.laload, 1) := by decide +kernel
theorem dL_interest_57 : decode cL_interest 57 = .ok (.ldc2_w 28, 3) := by decide +kernel
theorem dL_interest_60 : decode cL_interest 60 = .ok (.ldiv, 1) := by decide +kernel
theorem dL_interest_61 : decode cL_interest 61 = .ok (.lstore 6, 2) := by decide +kernel
theorem dL_interest_63 : decode cL_interest 63 = .ok (.lload 6, 2) := by decide +kernel
theorem dL_interest_65 : decode cL_interest 65 = .ok (.ldc2_w 30, 3) := by decide +kernel
theorem dL_interest_68 : decode cL_interest 68 = .ok (.aload_n 2, 1) := by decide +kernel
theorem dL_interest_69 : decode cL_interest 69 = .ok (.iload_n 0, 1) := by decide +kernel
theorem dL_interest_70 : decode cL_interest 70 = .ok (.laload, 1) := by decide +kernel
theorem dL_interest_71 : decode cL_interest 71 = .ok (.lsub, 1) := by decide +kernel
theorem dL_interest_72 : decode cL_interest 72 = .ok (.lcmp, 1) := by decide +kernel
theorem dL_interest_73 : decode cL_interest 73 = .ok (.ifCond .le 13, 3) := by decide +kernel
theorem dL_interest_76 : decode cL_interest 76 = .ok (.ldc2_w 30, 3) := by decide +kernel
theorem dL_interest_79 : decode cL_interest 79 = .ok (.aload_n 2, 1) := by decide +kernel
theorem dL_interest_80 : decode cL_interest 80 = .ok (.iload_n 0, 1) := by decide +kernel
theorem dL_interest_81 : decode cL_interest 81 = .ok (.laload, 1) := by decide +kernel
theorem dL_interest_82 : decode cL_interest 82 = .ok (.lsub, 1) := by decide +kernel
theorem dL_interest_83 : decode cL_interest 83 = .ok (.goto 5, 3) := by decide +kernel
theorem dL_interest_86 : decode cL_interest 86 = .ok (.lload 6, 2) := by decide +kernel
theorem dL_interest_88 : decode cL_interest 88 = .ok (.lstore 6, 2) := by decide +kernel
theorem dL_interest_90 : decode cL_interest 90 = .ok (.iload_n 1, 1) := by decide +kernel
theorem dL_interest_91 : decode cL_interest 91 = .ok (.bipush 30, 2) := by decide +kernel
theorem dL_interest_93 : decode cL_interest 93 = .ok (.irem, 1) := by decide +kernel
theorem dL_interest_94 : decode cL_interest 94 = .ok (.ifCond .gt 20, 3) := by decide +kernel
theorem dL_interest_97 : decode cL_interest 97 = .ok (.lload 6, 2) := by decide +kernel
theorem dL_interest_99 : decode cL_interest 99 = .ok (.lconst 1, 1) := by decide +kernel
theorem dL_interest_100 : decode cL_interest 100 = .ok (.lcmp, 1) := by decide +kernel
theorem dL_interest_101 : decode cL_interest 101 = .ok (.ifCond .lt 13, 3) := by decide +kernel
theorem dL_interest_104 : decode cL_interest 104 = .ok (.lload 6, 2) := by decide +kernel
theorem dL_interest_106 : decode cL_interest 106 = .ok (.aload_n 3, 1) := by decide +kernel
theorem dL_interest_107 : decode cL_interest 107 = .ok (.iconst 4, 1) := by decide +kernel
theorem dL_interest_108 : decode cL_interest 108 = .ok (.iaload, 1) := by decide +kernel
theorem dL_interest_109 : decode cL_interest 109 = .ok (.i2l, 1) := by decide +kernel
theorem dL_interest_110 : decode cL_interest 110 = .ok (.lcmp, 1) := by decide +kernel
theorem dL_interest_111 : decode cL_interest 111 = .ok (.ifCond .ge 5, 3) := by decide +kernel
theorem dL_interest_114 : decode cL_interest 114 = .ok (.lconst 0, 1) := by decide +kernel
theorem dL_interest_115 : decode cL_interest 115 = .ok (.lreturn, 1) := by decide +kernel
theorem dL_interest_116 : decode cL_interest 116 = .ok (.aload_n 2, 1) := by decide +kernel
theorem dL_interest_117 : decode cL_interest 117 = .ok (.iload_n 0, 1) := by decide +kernel
theorem dL_interest_118 : decode cL_interest 118 = .ok (.dup2, 1) := by decide +kernel
theorem dL_interest_119 : decode cL_interest 119 = .ok (.laload, 1) := by decide +kernel
theorem dL_interest_120 : decode cL_interest 120 = .ok (.lload 6, 2) := by decide +kernel
theorem dL_interest_122 : decode cL_interest 122 = .ok (.ladd, 1) := by decide +kernel
theorem dL_interest_123 : decode cL_interest 123 = .ok (.lastore, 1) := by decide +kernel
theorem dL_interest_124 : decode cL_interest 124 = .ok (.aload_n 2, 1) := by decide +kernel
theorem dL_interest_125 : decode cL_interest 125 = .ok (.bipush 10, 2) := by decide +kernel
theorem dL_interest_127 : decode cL_interest 127 = .ok (.iload_n 0, 1) := by decide +kernel
theorem dL_interest_128 : decode cL_interest 128 = .ok (.iadd, 1) := by decide +kernel
theorem dL_interest_129 : decode cL_interest 129 = .ok (.dup2, 1) := by decide +kernel
theorem dL_interest_130 : decode cL_interest 130 = .ok (.laload, 1) := by decide +kernel
theorem dL_interest_131 : decode cL_interest 131 = .ok (.ldc2_w 28, 3) := by decide +kernel
theorem dL_interest_134 : decode cL_interest 134 = .ok (.lload 6, 2) := by decide +kernel
theorem dL_interest_136 : decode cL_interest 136 = .ok (.lmul, 1) := by decide +kernel
theorem dL_interest_137 : decode cL_interest 137 = .ok (.lsub, 1) := by decide +kernel
theorem dL_interest_138 : decode cL_interest 138 = .ok (.lastore, 1) := by decide +kernel
theorem dL_interest_139 : decode cL_interest 139 = .ok (.lload 6, 2) := by decide +kernel
theorem dL_interest_141 : decode cL_interest 141 = .ok (.lreturn, 1) := by decide +kernel
theorem dL_pass_0 : decode cL_pass 0 = .ok (.lconst 0, 1) := by decide +kernel
theorem dL_pass_1 : decode cL_pass 1 = .ok (.lstore 5, 2) := by decide +kernel
theorem dL_pass_3 : decode cL_pass 3 = .ok (.iconst 0, 1) := by decide +kernel
theorem dL_pass_4 : decode cL_pass 4 = .ok (.istore 7, 2) := by decide +kernel
theorem dL_pass_6 : decode cL_pass 6 = .ok (.iload 7, 2) := by decide +kernel
theorem dL_pass_8 : decode cL_pass 8 = .ok (.iload_n 0, 1) := by decide +kernel
theorem dL_pass_9 : decode cL_pass 9 = .ok (.if_icmp .ge 125, 3) := by decide +kernel
theorem dL_pass_12 : decode cL_pass 12 = .ok (.aload_n 2, 1) := by decide +kernel
theorem dL_pass_13 : decode cL_pass 13 = .ok (.iconst 0, 1) := by decide +kernel
theorem dL_pass_14 : decode cL_pass 14 = .ok (.dup2, 1) := by decide +kernel
theorem dL_pass_15 : decode cL_pass 15 = .ok (.iaload, 1) := by decide +kernel
theorem dL_pass_16 : decode cL_pass 16 = .ok (.iconst 1, 1) := by decide +kernel
theorem dL_pass_17 : decode cL_pass 17 = .ok (.iadd, 1) := by decide +kernel
theorem dL_pass_18 : decode cL_pass 18 = .ok (.iastore, 1) := by decide +kernel
theorem dL_pass_19 : decode cL_pass 19 = .ok (.iconst 1, 1) := by decide +kernel
theorem dL_pass_20 : decode cL_pass 20 = .ok (.istore 8, 2) := by decide +kernel
theorem dL_pass_22 : decode cL_pass 22 = .ok (.iload 8, 2) := by decide +kernel
theorem dL_pass_24 : decode cL_pass 24 = .ok (.bipush 7, 2) := by decide +kernel
theorem dL_pass_26 : decode cL_pass 26 = .ok (.if_icmp .ge 62, 3) := by decide +kernel
theorem dL_pass_29 : decode cL_pass 29 = .ok (.aload_n 2, 1) := by decide +kernel
theorem dL_pass_30 : decode cL_pass 30 = .ok (.bipush 10, 2) := by decide +kernel
theorem dL_pass_32 : decode cL_pass 32 = .ok (.iload 8, 2) := by decide +kernel
theorem dL_pass_34 : decode cL_pass 34 = .ok (.iadd, 1) := by decide +kernel
theorem dL_pass_35 : decode cL_pass 35 = .ok (.iaload, 1) := by decide +kernel
theorem dL_pass_36 : decode cL_pass 36 = .ok (.ifCond .ge 6, 3) := by decide +kernel
theorem dL_pass_39 : decode cL_pass 39 = .ok (.goto 43, 3) := by decide +kernel
theorem dL_pass_42 : decode cL_pass 42 = .ok (.iload 8, 2) := by decide +kernel
theorem dL_pass_44 : decode cL_pass 44 = .ok (.aload_n 2, 1) := by decide +kernel
theorem dL_pass_45 : decode cL_pass 45 = .ok (.iconst 0, 1) := by decide +kernel
theorem dL_pass_46 : decode cL_pass 46 = .ok (.iaload, 1) := by decide +kernel
theorem dL_pass_47 : decode cL_pass 47 = .ok (.aload_n 1, 1) := by decide +kernel
theorem dL_pass_48 : decode cL_pass 48 = .ok (.aload_n 2, 1) := by decide +kernel
theorem dL_pass_49 : decode cL_pass 49 = .ok (.invokestatic 32, 3) := by decide +kernel
theorem dL_pass_52 : decode cL_pass 52 = .ok (.lstore 9, 2) := by decide +kernel
theorem dL_pass_54 : decode cL_pass 54 = .ok (.lload 9, 2) := by decide +kernel
theorem dL_pass_56 : decode cL_pass 56 = .ok (.lconst 0, 1) := by decide +kernel
theorem dL_pass_57 : decode cL_pass 57 = .ok (.lcmp, 1) := by decide +kernel
theorem dL_pass_58 : decode cL_pass 58 = .ok (.ifCond .le 17, 3) := by decide +kernel
theorem dL_pass_61 : decode cL_pass 61 = .ok (.iconst 5, 1) := by decide +kernel
theorem dL_pass_62 : decode cL_pass 62 = .ok (.iload 8, 2) := by decide +kernel
theorem dL_pass_64 : decode cL_pass 64 = .ok (.iconst 0, 1) := by decide +kernel
theorem dL_pass_65 : decode cL_pass 65 = .ok (.lload 9, 2) := by decide +kernel
theorem dL_pass_67 : decode cL_pass 67 = .ok (.l2i, 1) := by decide +kernel
theorem dL_pass_68 : decode cL_pass 68 = .ok (.aload_n 1, 1) := by decide +kernel
theorem dL_pass_69 : decode cL_pass 69 = .ok (.aload_n 2, 1) := by decide +kernel
theorem dL_pass_70 : decode cL_pass 70 = .ok (.aload 4, 2) := by decide +kernel
theorem dL_pass_72 : decode cL_pass 72 = .ok (.invokestatic 36, 3) := by decide +kernel
theorem dL_pass_75 : decode cL_pass 75 = .ok (.lload 5, 2) := by decide +kernel
theorem dL_pass_77 : decode cL_pass 77 = .ok (.lload 9, 2) := by decide +kernel
theorem dL_pass_79 : decode cL_pass 79 = .ok (.ladd, 1) := by decide +kernel
theorem dL_pass_80 : decode cL_pass 80 = .ok (.lstore 5, 2) := by decide +kernel
theorem dL_pass_82 : decode cL_pass 82 = .ok (.iinc 8 1, 3) := by decide +kernel
theorem dL_pass_85 : decode cL_pass 85 = .ok (.goto (-63), 3) := by decide +kernel
theorem dL_pass_88 : decode cL_pass 88 = .ok (.iconst 0, 1) := by decide +kernel
theorem dL_pass_89 : decode cL_pass 89 = .ok (.istore 8, 2) := by decide +kernel
theorem dL_pass_91 : decode cL_pass 91 = .ok (.iload 8, 2) := by decide +kernel
theorem dL_pass_93 : decode cL_pass 93 = .ok (.bipush 60, 2) := by decide +kernel
theorem dL_pass_95 : decode cL_pass 95 = .ok (.if_icmp .ge 33, 3) := by decide +kernel
theorem dL_pass_98 : decode cL_pass 98 = .ok (.aload_n 3, 1) := by decide +kernel
theorem dL_pass_99 : decode cL_pass 99 = .ok (.iload 8, 2) := by decide +kernel
theorem dL_pass_101 : decode cL_pass 101 = .ok (.aload_n 2, 1) := by decide +kernel
theorem dL_pass_102 : decode cL_pass 102 = .ok (.iconst 0, 1) := by decide +kernel
theorem dL_pass_103 : decode cL_pass 103 = .ok (.iaload, 1) := by decide +kernel
theorem dL_pass_104 : decode cL_pass 104 = .ok (.aload_n 3, 1) := by decide +kernel
theorem dL_pass_105 : decode cL_pass 105 = .ok (.iload 8, 2) := by decide +kernel
theorem dL_pass_107 : decode cL_pass 107 = .ok (.iconst 2, 1) := by decide +kernel
theorem dL_pass_108 : decode cL_pass 108 = .ok (.iadd, 1) := by decide +kernel
theorem dL_pass_109 : decode cL_pass 109 = .ok (.iaload, 1) := by decide +kernel
theorem dL_pass_110 : decode cL_pass 110 = .ok (.if_icmp .le 7, 3) := by decide +kernel
theorem dL_pass_113 : decode cL_pass 113 = .ok (.iconst 0, 1) := by decide +kernel
theorem dL_pass_114 : decode cL_pass 114 = .ok (.goto 7, 3) := by decide +kernel
theorem dL_pass_117 : decode cL_pass 117 = .ok (.aload_n 3, 1) := by decide +kernel
theorem dL_pass_118 : decode cL_pass 118 = .ok (.iload 8, 2) := by decide +kernel
theorem dL_pass_120 : decode cL_pass 120 = .ok (.iaload, 1) := by decide +kernel
theorem dL_pass_121 : decode cL_pass 121 = .ok (.iastore, 1) := by decide +kernel
theorem dL_pass_122 : decode cL_pass 122 = .ok (.iinc 8 3, 3) := by decide +kernel
theorem dL_pass_125 : decode cL_pass 125 = .ok (.goto (-34), 3) := by decide +kernel
theorem dL_pass_128 : decode cL_pass 128 = .ok (.iinc 7 1, 3) := by decide +kernel
theorem dL_pass_131 : decode cL_pass 131 = .ok (.goto (-125), 3) := by decide +kernel
theorem dL_pass_134 : decode cL_pass 134 = .ok (.aload_n 1, 1) := by decide +kernel
theorem dL_pass_135 : decode cL_pass 135 = .ok (.bipush 21, 2) := by decide +kernel
theorem dL_pass_137 : decode cL_pass 137 = .ok (.dup2, 1) := by decide +kernel
theorem dL_pass_138 : decode cL_pass 138 = .ok (.laload, 1) := by decide +kernel
theorem dL_pass_139 : decode cL_pass 139 = .ok (.lload 5, 2) := by decide +kernel
theorem dL_pass_141 : decode cL_pass 141 = .ok (.ladd, 1) := by decide +kernel
theorem dL_pass_142 : decode cL_pass 142 = .ok (.lastore, 1) := by decide +kernel
theorem dL_pass_143 : decode cL_pass 143 = .ok (.lload 5, 2) := by decide +kernel
theorem dL_pass_145 : decode cL_pass 145 = .ok (.lreturn, 1) := by decide +kernel
theorem dL_same_0 : decode cL_same 0 = .ok (.iconst 0, 1) := by decide +kernel
theorem dL_same_1 : decode cL_same 1 = .ok (.istore 7, 2) := by decide +kernel
theorem dL_same_3 : decode cL_same 3 = .ok (.lconst 0, 1) := by decide +kernel
theorem dL_same_4 : decode cL_same 4 = .ok (.lstore 8, 2) := by decide +kernel
theorem dL_same_6 : decode cL_same 6 = .ok (.lconst 0, 1) := by decide +kernel
theorem dL_same_7 : decode cL_same 7 = .ok (.lstore 10, 2) := by decide +kernel
theorem dL_same_9 : decode cL_same 9 = .ok (.iconst 1, 1) := by decide +kernel
theorem dL_same_10 : decode cL_same 10 = .ok (.istore 12, 2) := by decide +kernel
theorem dL_same_12 : decode cL_same 12 = .ok (.iload 12, 2) := by decide +kernel
theorem dL_same_14 : decode cL_same 14 = .ok (.bipush 7, 2) := by decide +kernel
theorem dL_same_16 : decode cL_same 16 = .ok (.if_icmp .ge 319, 3) := by decide +kernel
theorem dL_same_19 : decode cL_same 19 = .ok (.aload_n 3, 1) := by decide +kernel
theorem dL_same_20 : decode cL_same 20 = .ok (.bipush 10, 2) := by decide +kernel
theorem dL_same_22 : decode cL_same 22 = .ok (.iload 12, 2) := by decide +kernel
theorem dL_same_24 : decode cL_same 24 = .ok (.iadd, 1) := by decide +kernel
theorem dL_same_25 : decode cL_same 25 = .ok (.iaload, 1) := by decide +kernel
theorem dL_same_26 : decode cL_same 26 = .ok (.ifCond .ge 16, 3) := by decide +kernel
theorem dL_same_29 : decode cL_same 29 = .ok (.aload_n 0, 1) := by decide +kernel
theorem dL_same_30 : decode cL_same 30 = .ok (.iload 12, 2) := by decide +kernel
theorem dL_same_32 : decode cL_same 32 = .ok (.iconst 0, 1) := by decide +kernel
theorem dL_same_33 : decode cL_same 33 = .ok (.invokevirtual 40, 3) := by decide +kernel
theorem dL_same_36 : decode cL_same 36 = .ok (.iconst (-1), 1) := by decide +kernel
theorem dL_same_37 : decode cL_same 37 = .ok (.if_icmp .eq 292, 3) := by decide +kernel
theorem dL_same_40 : decode cL_same 40 = .ok (.iconst 0, 1) := by decide +kernel
theorem dL_same_41 : decode cL_same 41 = .ok (.ireturn, 1) := by decide +kernel
theorem dL_same_42 : decode cL_same 42 = .ok (.aload_n 0, 1) := by decide +kernel
theorem dL_same_43 : decode cL_same 43 = .ok (.iconst 0, 1) := by decide +kernel
theorem dL_same_44 : decode cL_same 44 = .ok (.iload 7, 2) := by decide +kernel
theorem dL_same_46 : decode cL_same 46 = .ok (.invokevirtual 46, 3) := by decide +kernel
theorem dL_same_49 : decode cL_same 49 = .ok (.iload 12, 2) := by decide +kernel
theorem dL_same_51 : decode cL_same 51 = .ok (.if_icmp .eq 5, 3) := by decide +kernel
theorem dL_same_54 : decode cL_same 54 = .ok (.iconst 0, 1) := by decide +kernel
theorem dL_same_55 : decode cL_same 55 = .ok (.ireturn, 1) := by decide +kernel
theorem dL_same_56 : decode cL_same 56 = .ok (.iinc 7 1, 3) := by decide +kernel
theorem dL_same_59 : decode cL_same 59 = .ok (.iconst 0, 1) := by decide +kernel
theorem dL_same_60 : decode cL_same 60 = .ok (.istore 13, 2) := by decide +kernel
theorem dL_same_62 : decode cL_same 62 = .ok (.iconst 0, 1) := by decide +kernel
theorem dL_same_63 : decode cL_same 63 = .ok (.istore 14, 2) := by decide +kernel
theorem dL_same_65 : decode cL_same 65 = .ok (.iconst 0, 1) := by decide +kernel
theorem dL_same_66 : decode cL_same 66 = .ok (.istore 15, 2) := by decide +kernel
theorem dL_same_68 : decode cL_same 68 = .ok (.iconst 0, 1) := by decide +kernel
theorem dL_same_69 : decode cL_same 69 = .ok (.istore 16, 2) := by decide +kernel
theorem dL_same_71 : decode cL_same 71 = .ok (.iload 16, 2) := by decide +kernel
theorem dL_same_73 : decode cL_same 73 = .ok (.bipush 60, 2) := by decide +kernel
theorem dL_same_75 : decode cL_same 75 = .ok (.if_icmp .ge 75, 3) := by decide +kernel
theorem dL_same_78 : decode cL_same 78 = .ok (.iload 13, 2) := by decide +kernel
theorem dL_same_80 : decode cL_same 80 = .ok (.aload 4, 2) := by decide +kernel
theorem dL_same_82 : decode cL_same 82 = .ok (.iload 16, 2) := by decide +kernel
theorem dL_same_84 : decode cL_same 84 = .ok (.iaload, 1) := by decide +kernel
theorem dL_same_85 : decode cL_same 85 = .ok (.iload 12, 2) := by decide +kernel
theorem dL_same_87 : decode cL_same 87 = .ok (.if_icmp .ne 7, 3) := by decide +kernel
theorem dL_same_90 : decode cL_same 90 = .ok (.iconst 1, 1) := by decide +kernel
theorem dL_same_91 : decode cL_same 91 = .ok (.goto 4, 3) := by decide +kernel
theorem dL_same_94 : decode cL_same 94 = .ok (.iconst 0, 1) := by decide +kernel
theorem dL_same_95 : decode cL_same 95 = .ok (.iadd, 1) := by decide +kernel
theorem dL_same_96 : decode cL_same 96 = .ok (.istore 13, 2) := by decide +kernel
theorem dL_same_98 : decode cL_same 98 = .ok (.iload 14, 2) := by decide +kernel
theorem dL_same_100 : decode cL_same 100 = .ok (.aload 5, 2) := by decide +kernel
theorem dL_same_102 : decode cL_same 102 = .ok (.iload 16, 2) := by decide +kernel
theorem dL_same_104 : decode cL_same 104 = .ok (.iaload, 1) := by decide +kernel
theorem dL_same_105 : decode cL_same 105 = .ok (.iload 12, 2) := by decide +kernel
theorem dL_same_107 : decode cL_same 107 = .ok (.if_icmp .ne 7, 3) := by decide +kernel
theorem dL_same_110 : decode cL_same 110 = .ok (.iconst 1, 1) := by decide +kernel
theorem dL_same_111 : decode cL_same 111 = .ok (.goto 4, 3) := by decide +kernel
theorem dL_same_114 : decode cL_same 114 = .ok (.iconst 0, 1) := by decide +kernel
theorem dL_same_115 : decode cL_same 115 = .ok (.iadd, 1) := by decide +kernel
theorem dL_same_116 : decode cL_same 116 = .ok (.istore 14, 2) := by decide +kernel
theorem dL_same_118 : decode cL_same 118 = .ok (.iload 15, 2) := by decide +kernel
theorem dL_same_120 : decode cL_same 120 = .ok (.aload 5, 2) := by decide +kernel
theorem dL_same_122 : decode cL_same 122 = .ok (.iload 16, 2) := by decide +kernel
theorem dL_same_124 : decode cL_same 124 = .ok (.iaload, 1) := by decide +kernel
theorem dL_same_125 : decode cL_same 125 = .ok (.iload 12, 2) := by decide +kernel
theorem dL_same_127 : decode cL_same 127 = .ok (.if_icmp .ne 13, 3) := by decide +kernel
theorem dL_same_130 : decode cL_same 130 = .ok (.aload 5, 2) := by decide +kernel
theorem dL_same_132 : decode cL_same 132 = .ok (.iload 16, 2) := by decide +kernel
theorem dL_same_134 : decode cL_same 134 = .ok (.iconst 1, 1) := by decide +kernel
theorem dL_same_135 : decode cL_same 135 = .ok (.iadd, 1) := by decide +kernel
theorem dL_same_136 : decode cL_same 136 = .ok (.iaload, 1) := by decide +kernel
theorem dL_same_137 : decode cL_same 137 = .ok (.goto 4, 3) := by decide +kernel
theorem dL_same_140 : decode cL_same 140 = .ok (.iconst 0, 1) := by decide +kernel
theorem dL_same_141 : decode cL_same 141 = .ok (.iadd, 1) := by decide +kernel
theorem dL_same_142 : decode cL_same 142 = .ok (.istore 15, 2) := by decide +kernel
theorem dL_same_144 : decode cL_same 144 = .ok (.iinc 16 3, 3) := by decide +kernel
theorem dL_same_147 : decode cL_same 147 = .ok (.goto (-76), 3) := by decide +kernel
theorem dL_same_150 : decode cL_same 150 = .ok (.aload_n 2, 1) := by decide +kernel
theorem dL_same_151 : decode cL_same 151 = .ok (.bipush 10, 2) := by decide +kernel
theorem dL_same_153 : decode cL_same 153 = .ok (.iload 12, 2) := by decide +kernel
theorem dL_same_155 : decode cL_same 155 = .ok (.iadd, 1) := by decide +kernel
theorem dL_same_156 : decode cL_same 156 = .ok (.laload, 1) := by decide +kernel
theorem dL_same_157 : decode cL_same 157 = .ok (.ldc2_w 28, 3) := by decide +kernel
theorem dL_same_160 : decode cL_same 160 = .ok (.ldiv, 1) := by decide +kernel
theorem dL_same_161 : decode cL_same 161 = .ok (.lstore 16, 2) := by decide +kernel
