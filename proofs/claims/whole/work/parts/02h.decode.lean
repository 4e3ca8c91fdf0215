theorem dX7_carryOutOrder_177 : decode cX7_carryOutOrder 177 = .ok (.getfield 26, 3) := by decide +kernel
theorem dX7_carryOutOrder_180 : decode cX7_carryOutOrder 180 = .ok (.getfield 235, 3) := by decide +kernel
theorem dX7_carryOutOrder_183 : decode cX7_carryOutOrder 183 = .ok (.aload_n 0, 1) := by decide +kernel
theorem dX7_carryOutOrder_184 : decode cX7_carryOutOrder 184 = .ok (.getfield 26, 3) := by decide +kernel
theorem dX7_carryOutOrder_187 : decode cX7_carryOutOrder 187 = .ok (.getfield 238, 3) := by decide +kernel
theorem dX7_carryOutOrder_190 : decode cX7_carryOutOrder 190 = .ok (.invokevirtual 74, 3) := by decide +kernel
theorem dX7_carryOutOrder_193 : decode cX7_carryOutOrder 193 = .ok (.i2l, 1) := by decide +kernel
theorem dX7_carryOutOrder_194 : decode cX7_carryOutOrder 194 = .ok (.lreturn, 1) := by decide +kernel
theorem dX7_carryOutOrder_195 : decode cX7_carryOutOrder 195 = .ok (.aload_n 0, 1) := by decide +kernel
theorem dX7_carryOutOrder_196 : decode cX7_carryOutOrder 196 = .ok (.getfield 10, 3) := by decide +kernel
theorem dX7_carryOutOrder_199 : decode cX7_carryOutOrder 199 = .ok (.aload_n 0, 1) := by decide +kernel
theorem dX7_carryOutOrder_200 : decode cX7_carryOutOrder 200 = .ok (.getfield 26, 3) := by decide +kernel
theorem dX7_carryOutOrder_203 : decode cX7_carryOutOrder 203 = .ok (.getfield 235, 3) := by decide +kernel
theorem dX7_carryOutOrder_206 : decode cX7_carryOutOrder 206 = .ok (.invokevirtual 77, 3) := by decide +kernel
theorem dX7_carryOutOrder_209 : decode cX7_carryOutOrder 209 = .ok (.i2l, 1) := by decide +kernel
theorem dX7_carryOutOrder_210 : decode cX7_carryOutOrder 210 = .ok (.lreturn, 1) := by decide +kernel
theorem dX7_carryOutOrder_211 : decode cX7_carryOutOrder 211 = .ok (.aload_n 0, 1) := by decide +kernel
theorem dX7_carryOutOrder_212 : decode cX7_carryOutOrder 212 = .ok (.getfield 10, 3) := by decide +kernel
theorem dX7_carryOutOrder_215 : decode cX7_carryOutOrder 215 = .ok (.aload_n 0, 1) := by decide +kernel
theorem dX7_carryOutOrder_216 : decode cX7_carryOutOrder 216 = .ok (.getfield 26, 3) := by decide +kernel
theorem dX7_carryOutOrder_219 : decode cX7_carryOutOrder 219 = .ok (.getfield 235, 3) := by decide +kernel
theorem dX7_carryOutOrder_222 : decode cX7_carryOutOrder 222 = .ok (.invokevirtual 80, 3) := by decide +kernel
theorem dX7_carryOutOrder_225 : decode cX7_carryOutOrder 225 = .ok (.lreturn, 1) := by decide +kernel
theorem dX7_carryOutOrder_226 : decode cX7_carryOutOrder 226 = .ok (.ldc2_w 244, 3) := by decide +kernel
theorem dX7_carryOutOrder_229 : decode cX7_carryOutOrder 229 = .ok (.lreturn, 1) := by decide +kernel
theorem dX7_hashOfClients_0 : decode cX7_hashOfClients 0 = .ok (.lload_n 1, 1) := by decide +kernel
theorem dX7_hashOfClients_1 : decode cX7_hashOfClients 1 = .ok (.lstore_n 3, 1) := by decide +kernel
theorem dX7_hashOfClients_2 : decode cX7_hashOfClients 2 = .ok (.iconst 0, 1) := by decide +kernel
theorem dX7_hashOfClients_3 : decode cX7_hashOfClients 3 = .ok (.istore 5, 2) := by decide +kernel
theorem dX7_hashOfClients_5 : decode cX7_hashOfClients 5 = .ok (.iload 5, 2) := by decide +kernel
theorem dX7_hashOfClients_7 : decode cX7_hashOfClients 7 = .ok (.aload_n 0, 1) := by decide +kernel
theorem dX7_hashOfClients_8 : decode cX7_hashOfClients 8 = .ok (.getfield 10, 3) := by decide +kernel
theorem dX7_hashOfClients_11 : decode cX7_hashOfClients 11 = .ok (.getfield 94, 3) := by decide +kernel
theorem dX7_hashOfClients_14 : decode cX7_hashOfClients 14 = .ok (.getfield 98, 3) := by decide +kernel
theorem dX7_hashOfClients_17 : decode cX7_hashOfClients 17 = .ok (.if_icmp .ge 64, 3) := by decide +kernel
theorem dX7_hashOfClients_20 : decode cX7_hashOfClients 20 = .ok (.ldc2_w 209, 3) := by decide +kernel
theorem dX7_hashOfClients_23 : decode cX7_hashOfClients 23 = .ok (.lload_n 3, 1) := by decide +kernel
theorem dX7_hashOfClients_24 : decode cX7_hashOfClients 24 = .ok (.lmul, 1) := by decide +kernel
theorem dX7_hashOfClients_25 : decode cX7_hashOfClients 25 = .ok (.aload_n 0, 1) := by decide +kernel
theorem dX7_hashOfClients_26 : decode cX7_hashOfClients 26 = .ok (.getfield 10, 3) := by decide +kernel
theorem dX7_hashOfClients_29 : decode cX7_hashOfClients 29 = .ok (.getfield 94, 3) := by decide +kernel
theorem dX7_hashOfClients_32 : decode cX7_hashOfClients 32 = .ok (.iload 5, 2) := by decide +kernel
theorem dX7_hashOfClients_34 : decode cX7_hashOfClients 34 = .ok (.invokevirtual 246, 3) := by decide +kernel
theorem dX7_hashOfClients_37 : decode cX7_hashOfClients 37 = .ok (.i2l, 1) := by decide +kernel
theorem dX7_hashOfClients_38 : decode cX7_hashOfClients 38 = .ok (.ladd, 1) := by decide +kernel
theorem dX7_hashOfClients_39 : decode cX7_hashOfClients 39 = .ok (.lstore_n 3, 1) := by decide +kernel
theorem dX7_hashOfClients_40 : decode cX7_hashOfClients 40 = .ok (.iconst 0, 1) := by decide +kernel
theorem dX7_hashOfClients_41 : decode cX7_hashOfClients 41 = .ok (.istore 6, 2) := by decide +kernel
theorem dX7_hashOfClients_43 : decode cX7_hashOfClients 43 = .ok (.iload 6, 2) := by decide +kernel
theorem dX7_hashOfClients_45 : decode cX7_hashOfClients 45 = .ok (.bipush 7, 2) := by decide +kernel
theorem dX7_hashOfClients_47 : decode cX7_hashOfClients 47 = .ok (.if_icmp .gt 28, 3) := by decide +kernel
theorem dX7_hashOfClients_50 : decode cX7_hashOfClients 50 = .ok (.ldc2_w 209, 3) := by decide +kernel
theorem dX7_hashOfClients_53 : decode cX7_hashOfClients 53 = .ok (.lload_n 3, 1) := by decide +kernel
theorem dX7_hashOfClients_54 : decode cX7_hashOfClients 54 = .ok (.lmul, 1) := by decide +kernel
theorem dX7_hashOfClients_55 : decode cX7_hashOfClients 55 = .ok (.aload_n 0, 1) := by decide +kernel
theorem dX7_hashOfClients_56 : decode cX7_hashOfClients 56 = .ok (.getfield 10, 3) := by decide +kernel
theorem dX7_hashOfClients_59 : decode cX7_hashOfClients 59 = .ok (.iload 5, 2) := by decide +kernel
theorem dX7_hashOfClients_61 : decode cX7_hashOfClients 61 = .ok (.iload 6, 2) := by decide +kernel
theorem dX7_hashOfClients_63 : decode cX7_hashOfClients 63 = .ok (.invokevirtual 113, 3) := by decide +kernel
theorem dX7_hashOfClients_66 : decode cX7_hashOfClients 66 = .ok (.i2l, 1) := by decide +kernel
theorem dX7_hashOfClients_67 : decode cX7_hashOfClients 67 = .ok (.ladd, 1) := by decide +kernel
theorem dX7_hashOfClients_68 : decode cX7_hashOfClients 68 = .ok (.lstore_n 3, 1) := by decide +kernel
theorem dX7_hashOfClients_69 : decode cX7_hashOfClients 69 = .ok (.iinc 6 1, 3) := by decide +kernel
theorem dX7_hashOfClients_72 : decode cX7_hashOfClients 72 = .ok (.goto (-29), 3) := by decide +kernel
theorem dX7_hashOfClients_75 : decode cX7_hashOfClients 75 = .ok (.iinc 5 1, 3) := by decide +kernel
theorem dX7_hashOfClients_78 : decode cX7_hashOfClients 78 = .ok (.goto (-73), 3) := by decide +kernel
theorem dX7_hashOfClients_81 : decode cX7_hashOfClients 81 = .ok (.lload_n 3, 1) := by decide +kernel
theorem dX7_hashOfClients_82 : decode cX7_hashOfClients 82 = .ok (.lreturn, 1) := by decide +kernel
theorem dX7_hashOfRows_0 : decode cX7_hashOfRows 0 = .ok (.lload_n 0, 1) := by decide +kernel
theorem dX7_hashOfRows_1 : decode cX7_hashOfRows 1 = .ok (.lstore_n 3, 1) := by decide +kernel
theorem dX7_hashOfRows_2 : decode cX7_hashOfRows 2 = .ok (.iconst 0, 1) := by decide +kernel
theorem dX7_hashOfRows_3 : decode cX7_hashOfRows 3 = .ok (.istore 5, 2) := by decide +kernel
theorem dX7_hashOfRows_5 : decode cX7_hashOfRows 5 = .ok (.iload 5, 2) := by decide +kernel
theorem dX7_hashOfRows_7 : decode cX7_hashOfRows 7 = .ok (.aload_n 2, 1) := by decide +kernel
theorem dX7_hashOfRows_8 : decode cX7_hashOfRows 8 = .ok (.getfield 249, 3) := by decide +kernel
theorem dX7_hashOfRows_11 : decode cX7_hashOfRows 11 = .ok (.if_icmp .ge 40, 3) := by decide +kernel
theorem dX7_hashOfRows_14 : decode cX7_hashOfRows 14 = .ok (.iconst 0, 1) := by decide +kernel
theorem dX7_hashOfRows_15 : decode cX7_hashOfRows 15 = .ok (.istore 6, 2) := by decide +kernel
theorem dX7_hashOfRows_17 : decode cX7_hashOfRows 17 = .ok (.iload 6, 2) := by decide +kernel
theorem dX7_hashOfRows_19 : decode cX7_hashOfRows 19 = .ok (.iconst 4, 1) := by decide +kernel
theorem dX7_hashOfRows_20 : decode cX7_hashOfRows 20 = .ok (.if_icmp .ge 25, 3) := by decide +kernel
theorem dX7_hashOfRows_23 : decode cX7_hashOfRows 23 = .ok (.ldc2_w 209, 3) := by decide +kernel
theorem dX7_hashOfRows_26 : decode cX7_hashOfRows 26 = .ok (.lload_n 3, 1) := by decide +kernel
theorem dX7_hashOfRows_27 : decode cX7_hashOfRows 27 = .ok (.lmul, 1) := by decide +kernel
theorem dX7_hashOfRows_28 : decode cX7_hashOfRows 28 = .ok (.aload_n 2, 1) := by decide +kernel
theorem dX7_hashOfRows_29 : decode cX7_hashOfRows 29 = .ok (.iload 5, 2) := by decide +kernel
theorem dX7_hashOfRows_31 : decode cX7_hashOfRows 31 = .ok (.iload 6, 2) := by decide +kernel
theorem dX7_hashOfRows_33 : decode cX7_hashOfRows 33 = .ok (.invokevirtual 229, 3) := by decide +kernel
theorem dX7_hashOfRows_36 : decode cX7_hashOfRows 36 = .ok (.i2l, 1) := by decide +kernel
theorem dX7_hashOfRows_37 : decode cX7_hashOfRows 37 = .ok (.ladd, 1) := by decide +kernel
theorem dX7_hashOfRows_38 : decode cX7_hashOfRows 38 = .ok (.lstore_n 3, 1) := by decide +kernel
theorem dX7_hashOfRows_39 : decode cX7_hashOfRows 39 = .ok (.iinc 6 1, 3) := by decide +kernel
theorem dX7_hashOfRows_42 : decode cX7_hashOfRows 42 = .ok (.goto (-25), 3) := by decide +kernel
theorem dX7_hashOfRows_45 : decode cX7_hashOfRows 45 = .ok (.iinc 5 1, 3) := by decide +kernel
theorem dX7_hashOfRows_48 : decode cX7_hashOfRows 48 = .ok (.goto (-43), 3) := by decide +kernel
theorem dX7_hashOfRows_51 : decode cX7_hashOfRows 51 = .ok (.lload_n 3, 1) := by decide +kernel
theorem dX7_hashOfRows_52 : decode cX7_hashOfRows 52 = .ok (.lreturn, 1) := by decide +kernel
theorem dX7_hashOfTrail_0 : decode cX7_hashOfTrail 0 = .ok (.aload_n 0, 1) := by decide +kernel
theorem dX7_hashOfTrail_1 : decode cX7_hashOfTrail 1 = .ok (.getfield 10, 3) := by decide +kernel
theorem dX7_hashOfTrail_4 : decode cX7_hashOfTrail 4 = .ok (.getfield 127, 3) := by decide +kernel
theorem dX7_hashOfTrail_7 : decode cX7_hashOfTrail 7 = .ok (.astore_n 3, 1) := by decide +kernel
theorem dX7_hashOfTrail_8 : decode cX7_hashOfTrail 8 = .ok (.ldc2_w 209, 3) := by decide +kernel
theorem dX7_hashOfTrail_11 : decode cX7_hashOfTrail 11 = .ok (.lload_n 1, 1) := by decide +kernel
theorem dX7_hashOfTrail_12 : decode cX7_hashOfTrail 12 = .ok (.lmul, 1) := by decide +kernel
theorem dX7_hashOfTrail_13 : decode cX7_hashOfTrail 13 = .ok (.aload_n 3, 1) := by decide +kernel
theorem dX7_hashOfTrail_14 : decode cX7_hashOfTrail 14 = .ok (.getfield 131, 3) := by decide +kernel
theorem dX7_hashOfTrail_17 : decode cX7_hashOfTrail 17 = .ok (.i2l, 1) := by decide +kernel
theorem dX7_hashOfTrail_18 : decode cX7_hashOfTrail 18 = .ok (.ladd, 1) := by decide +kernel
theorem dX7_hashOfTrail_19 : decode cX7_hashOfTrail 19 = .ok (.lstore 4, 2) := by decide +kernel
theorem dX7_hashOfTrail_21 : decode cX7_hashOfTrail 21 = .ok (.bipush 23, 2) := by decide +kernel
theorem dX7_hashOfTrail_23 : decode cX7_hashOfTrail 23 = .ok (.istore 6, 2) := by decide +kernel
theorem dX7_hashOfTrail_25 : decode cX7_hashOfTrail 25 = .ok (.iload 6, 2) := by decide +kernel
theorem dX7_hashOfTrail_27 : decode cX7_hashOfTrail 27 = .ok (.ifCond .lt 61, 3) := by decide +kernel
theorem dX7_hashOfTrail_30 : decode cX7_hashOfTrail 30 = .ok (.aload_n 3, 1) := by decide +kernel
theorem dX7_hashOfTrail_31 : decode cX7_hashOfTrail 31 = .ok (.getfield 131, 3) := by decide +kernel
theorem dX7_hashOfTrail_34 : decode cX7_hashOfTrail 34 = .ok (.iload 6, 2) := by decide +kernel
theorem dX7_hashOfTrail_36 : decode cX7_hashOfTrail 36 = .ok (.isub, 1) := by decide +kernel
theorem dX7_hashOfTrail_37 : decode cX7_hashOfTrail 37 = .ok (.istore 7, 2) := by decide +kernel
theorem dX7_hashOfTrail_39 : decode cX7_hashOfTrail 39 = .ok (.aload_n 3, 1) := by decide +kernel
theorem dX7_hashOfTrail_40 : decode cX7_hashOfTrail 40 = .ok (.iload 7, 2) := by decide +kernel
theorem dX7_hashOfTrail_42 : decode cX7_hashOfTrail 42 = .ok (.invokevirtual 136, 3) := by decide +kernel
theorem dX7_hashOfTrail_45 : decode cX7_hashOfTrail 45 = .ok (.ifCond .eq 37, 3) := by decide +kernel
theorem dX7_hashOfTrail_48 : decode cX7_hashOfTrail 48 = .ok (.iconst 0, 1) := by decide +kernel
theorem dX7_hashOfTrail_49 : decode cX7_hashOfTrail 49 = .ok (.istore 8, 2) := by decide +kernel
theorem dX7_hashOfTrail_51 : decode cX7_hashOfTrail 51 = .ok (.iload 8, 2) := by decide +kernel
theorem dX7_hashOfTrail_53 : decode cX7_hashOfTrail 53 = .ok (.bipush 6, 2) := by decide +kernel
theorem dX7_hashOfTrail_55 : decode cX7_hashOfTrail 55 = .ok (.if_icmp .gt 27, 3) := by decide +kernel
theorem dX7_hashOfTrail_58 : decode cX7_hashOfTrail 58 = .ok (.ldc2_w 209, 3) := by decide +kernel
theorem dX7_hashOfTrail_61 : decode cX7_hashOfTrail 61 = .ok (.lload 4, 2) := by decide +kernel
theorem dX7_hashOfTrail_63 : decode cX7_hashOfTrail 63 = .ok (.lmul, 1) := by decide +kernel
theorem dX7_hashOfTrail_64 : decode cX7_hashOfTrail 64 = .ok (.aload_n 3, 1) := by decide +kernel
theorem dX7_hashOfTrail_65 : decode cX7_hashOfTrail 65 = .ok (.iload 7, 2) := by decide +kernel
theorem dX7_hashOfTrail_67 : decode cX7_hashOfTrail 67 = .ok (.iload 8, 2) := by decide +kernel
theorem dX7_hashOfTrail_69 : decode cX7_hashOfTrail 69 = .ok (.invokevirtual 140, 3) := by decide +kernel
theorem dX7_hashOfTrail_72 : decode cX7_hashOfTrail 72 = .ok (.i2l, 1) := by decide +kernel
theorem dX7_hashOfTrail_73 : decode cX7_hashOfTrail 73 = .ok (.ladd, 1) := by decide +kernel
theorem dX7_hashOfTrail_74 : decode cX7_hashOfTrail 74 = .ok (.lstore 4, 2) := by decide +kernel
theorem dX7_hashOfTrail_76 : decode cX7_hashOfTrail 76 = .ok (.iinc 8 1, 3) := by decide +kernel
theorem dX7_hashOfTrail_79 : decode cX7_hashOfTrail 79 = .ok (.goto (-28), 3) := by decide +kernel
theorem dX7_hashOfTrail_82 : decode cX7_hashOfTrail 82 = .ok (.iinc 6 (-1), 3) := by decide +kernel
theorem dX7_hashOfTrail_85 : decode cX7_hashOfTrail 85 = .ok (.goto (-60), 3) := by decide +kernel
theorem dX7_hashOfTrail_88 : decode cX7_hashOfTrail 88 = .ok (.lload 4, 2) := by decide +kernel
theorem dX7_hashOfTrail_90 : decode cX7_hashOfTrail 90 = .ok (.lreturn, 1) := by decide +kernel
theorem dX7_hashOfRanks_0 : decode cX7_hashOfRanks 0 = .ok (.lload_n 1, 1) := by decide +kernel
theorem dX7_hashOfRanks_1 : decode cX7_hashOfRanks 1 = .ok (.lstore_n 3, 1) := by decide +kernel
theorem dX7_hashOfRanks_2 : decode cX7_hashOfRanks 2 = .ok (.iconst 1, 1) := by decide +kernel
theorem dX7_hashOfRanks_3 : decode cX7_hashOfRanks 3 = .ok (.istore 5, 2) := by decide +kernel
theorem dX7_hashOfRanks_5 : decode cX7_hashOfRanks 5 = .ok (.iload 5, 2) := by decide +kernel
theorem dX7_hashOfRanks_7 : decode cX7_hashOfRanks 7 = .ok (.iconst 3, 1) := by decide +kernel
theorem dX7_hashOfRanks_8 : decode cX7_hashOfRanks 8 = .ok (.if_icmp .gt 63, 3) := by decide +kernel
theorem dX7_hashOfRanks_11 : decode cX7_hashOfRanks 11 = .ok (.aload_n 0, 1) := by decide +kernel
theorem dX7_hashOfRanks_12 : decode cX7_hashOfRanks 12 = .ok (.getfield 33, 3) := by decide +kernel
theorem dX7_hashOfRanks_15 : decode cX7_hashOfRanks 15 = .ok (.aload_n 0, 1) := by decide +kernel
theorem dX7_hashOfRanks_16 : decode cX7_hashOfRanks 16 = .ok (.getfield 10, 3) := by decide +kernel
theorem dX7_hashOfRanks_19 : decode cX7_hashOfRanks 19 = .ok (.iload 5, 2) := by decide +kernel
theorem dX7_hashOfRanks_21 : decode cX7_hashOfRanks 21 = .ok (.invokevirtual 103, 3) := by decide +kernel
theorem dX7_hashOfRanks_24 : decode cX7_hashOfRanks 24 = .ok (.iconst 0, 1) := by decide +kernel
theorem dX7_hashOfRanks_25 : decode cX7_hashOfRanks 25 = .ok (.istore 6, 2) := by decide +kernel
theorem dX7_hashOfRanks_27 : decode cX7_hashOfRanks 27 = .ok (.iload 6, 2) := by decide +kernel
theorem dX7_hashOfRanks_29 : decode cX7_hashOfRanks 29 = .ok (.aload_n 0, 1) := by decide +kernel
theorem dX7_hashOfRanks_30 : decode cX7_hashOfRanks 30 = .ok (.getfield 10, 3) := by decide +kernel
theorem dX7_hashOfRanks_33 : decode cX7_hashOfRanks 33 = .ok (.getfield 94, 3) := by decide +kernel
theorem dX7_hashOfRanks_36 : decode cX7_hashOfRanks 36 = .ok (.getfield 98, 3) := by decide +kernel
theorem dX7_hashOfRanks_39 : decode cX7_hashOfRanks 39 = .ok (.if_icmp .ge 26, 3) := by decide +kernel
theorem dX7_hashOfRanks_42 : decode cX7_hashOfRanks 42 = .ok (.ldc2_w 209, 3) := by decide +kernel
theorem dX7_hashOfRanks_45 : decode cX7_hashOfRanks 45 = .ok (.lload_n 3, 1) := by decide +kernel
theorem dX7_hashOfRanks_46 : decode cX7_hashOfRanks 46 = .ok (.lmul, 1) := by decide +kernel
theorem dX7_hashOfRanks_47 : decode cX7_hashOfRanks 47 = .ok (.aload_n 0, 1) := by decide +kernel
theorem dX7_hashOfRanks_48 : decode cX7_hashOfRanks 48 = .ok (.getfield 33, 3) := by decide +kernel
theorem dX7_hashOfRanks_51 : decode cX7_hashOfRanks 51 = .ok (.iload 6, 2) := by decide +kernel
theorem dX7_hashOfRanks_53 : decode cX7_hashOfRanks 53 = .ok (.invokevirtual 107, 3) := by decide +kernel
theorem dX7_hashOfRanks_56 : decode cX7_hashOfRanks 56 = .ok (.i2l, 1) := by decide +kernel
theorem dX7_hashOfRanks_57 : decode cX7_hashOfRanks 57 = .ok (.ladd, 1) := by decide +kernel
theorem dX7_hashOfRanks_58 : decode cX7_hashOfRanks 58 = .ok (.lstore_n 3, 1) := by decide +kernel
theorem dX7_hashOfRanks_59 : decode cX7_hashOfRanks 59 = .ok (.iinc 6 1, 3) := by decide +kernel
theorem dX7_hashOfRanks_62 : decode cX7_hashOfRanks 62 = .ok (.goto (-35), 3) := by decide +kernel
theorem dX7_hashOfRanks_65 : decode cX7_hashOfRanks 65 = .ok (.iinc 5 1, 3) := by decide +kernel
theorem dX7_hashOfRanks_68 : decode cX7_hashOfRanks 68 = .ok (.goto (-63), 3) := by decide +kernel
theorem dX7_hashOfRanks_71 : decode cX7_hashOfRanks 71 = .ok (.lload_n 3, 1) := by decide +kernel
theorem dX7_hashOfRanks_72 : decode cX7_hashOfRanks 72 = .ok (.lreturn, 1) := by decide +kernel
theorem dX8_init_0 : decode cX8_init 0 = .ok (.aload_n 0, 1) := by decide +kernel
theorem dX8_init_1 : decode cX8_init 1 = .ok (.invokespecial 1, 3) := by decide +kernel
theorem dX8_init_4 : decode cX8_init 4 = .ok (.aload_n 0, 1) := by decide +kernel
theorem dX8_init_5 : decode cX8_init 5 = .ok (.sipush 336, 3) := by decide +kernel
theorem dX8_init_8 : decode cX8_init 8 = .ok (.newarray .int, 2) := by decide +kernel
theorem dX8_init_10 : decode cX8_init 10 = .ok (.putfield 7, 3) := by decide +kernel
theorem dX8_init_13 : decode cX8_init 13 = .ok (.aload_n 0, 1) := by decide +kernel
theorem dX8_init_14 : decode cX8_init 14 = .ok (.bipush 16, 2) := by decide +kernel
theorem dX8_init_16 : decode cX8_init 16 = .ok (.newarray .long, 2) := by decide +kernel
theorem dX8_init_18 : decode cX8_init 18 = .ok (.putfield 13, 3) := by decide +kernel
theorem dX8_init_21 : decode cX8_init 21 = .ok (.aload_n 0, 1) := by decide +kernel
theorem dX8_init_22 : decode cX8_init 22 = .ok (.sipush 2016, 3) := by decide +kernel
theorem dX8_init_25 : decode cX8_init 25 = .ok (.newarray .int, 2) := by decide +kernel
theorem dX8_init_27 : decode cX8_init 27 = .ok (.putfield 17, 3) := by decide +kernel
theorem dX8_init_30 : decode cX8_init 30 = .ok (.aload_n 0, 1) := by decide +kernel
theorem dX8_init_31 : decode cX8_init 31 = .ok (.bipush 96, 2) := by decide +kernel
theorem dX8_init_33 : decode cX8_init 33 = .ok (.newarray .long, 2) := by decide +kernel
theorem dX8_init_35 : decode cX8_init 35 = .ok (.putfield 20, 3) := by decide +kernel
theorem dX8_init_38 : decode cX8_init 38 = .ok (.aload_n 0, 1) := by decide +kernel
theorem dX8_init_39 : decode cX8_init 39 = .ok (.bipush 80, 2) := by decide +kernel
theorem dX8_init_41 : decode cX8_init 41 = .ok (.newarray .int, 2) := by decide +kernel
theorem dX8_init_43 : decode cX8_init 43 = .ok (.putfield 23, 3) := by decide +kernel
theorem dX8_init_46 : decode cX8_init 46 = .ok (.aload_n 0, 1) := by decide +kernel
theorem dX8_init_47 : decode cX8_init 47 = .ok (.bipush 12, 2) := by decide +kernel
theorem dX8_init_49 : decode cX8_init 49 = .ok (.newarray .int, 2) := by decide +kernel
theorem dX8_init_51 : decode cX8_init 51 = .ok (.putfield 26, 3) := by decide +kernel
theorem dX8_init_54 : decode cX8_init 54 = .ok (.aload_n 0, 1) := by decide +kernel
theorem dX8_init_55 : decode cX8_init 55 = .ok (.getfield 7, 3) := by decide +kernel
theorem dX8_init_58 : decode cX8_init 58 = .ok (.iconst 1, 1) := by decide +kernel
theorem dX8_init_59 : decode cX8_init 59 = .ok (.ldc 29, 2) := by decide +kernel
theorem dX8_init_61 : decode cX8_init 61 = .ok (.iastore, 1) := by decide +kernel
theorem dX8_init_62 : decode cX8_init 62 = .ok (.aload_n 0, 1) := by decide +kernel
theorem dX8_init_63 : decode cX8_init 63 = .ok (.getfield 7, 3) := by decide +kernel
theorem dX8_init_66 : decode cX8_init 66 = .ok (.iconst 2, 1) := by decide +kernel
theorem dX8_init_67 : decode cX8_init 67 = .ok (.bipush 100, 2) := by decide +kernel
theorem dX8_init_69 : decode cX8_init 69 = .ok (.iastore, 1) := by decide +kernel
theorem dX8_init_70 : decode cX8_init 70 = .ok (.aload_n 0, 1) := by decide +kernel
theorem dX8_init_71 : decode cX8_init 71 = .ok (.getfield 7, 3) := by decide +kernel
theorem dX8_init_74 : decode cX8_init 74 = .ok (.iconst 3, 1) := by decide +kernel
theorem dX8_init_75 : decode cX8_init 75 = .ok (.sipush 250, 3) := by decide +kernel
theorem dX8_init_78 : decode cX8_init 78 = .ok (.iastore, 1) := by decide +kernel
theorem dX8_init_79 : decode cX8_init 79 = .ok (.aload_n 0, 1) := by decide +kernel
theorem dX8_init_80 : decode cX8_init 80 = .ok (.getfield 7, 3) := by decide +kernel
theorem dX8_init_83 : decode cX8_init 83 = .ok (.iconst 4, 1) := by decide +kernel
theorem dX8_init_84 : decode cX8_init 84 = .ok (.bipush 20, 2) := by decide +kernel
theorem dX8_init_86 : decode cX8_init 86 = .ok (.iastore, 1) := by decide +kernel
theorem dX8_init_87 : decode cX8_init 87 = .ok (.aload_n 0, 1) := by decide +kernel
theorem dX8_init_88 : decode cX8_init 88 = .ok (.getfield 7, 3) := by decide +kernel
theorem dX8_init_91 : decode cX8_init 91 = .ok (.bipush 11, 2) := by decide +kernel
theorem dX8_init_93 : decode cX8_init 93 = .ok (.bipush 7, 2) := by decide +kernel
theorem dX8_init_95 : decode cX8_init 95 = .ok (.iastore, 1) := by decide +kernel
theorem dX8_init_96 : decode cX8_init 96 = .ok (.return_, 1) := by decide +kernel
theorem dX8_within_0 : decode cX8_within 0 = .ok (.iload_n 0, 1) := by decide +kernel
theorem dX8_within_1 : decode cX8_within 1 = .ok (.iload_n 1, 1) := by decide +kernel
theorem dX8_within_2 : decode cX8_within 2 = .ok (.if_icmp .lt 12, 3) := by decide +kernel
theorem dX8_within_5 : decode cX8_within 5 = .ok (.iload_n 0, 1) := by decide +kernel
theorem dX8_within_6 : decode cX8_within 6 = .ok (.iload_n 2, 1) := by decide +kernel
theorem dX8_within_7 : decode cX8_within 7 = .ok (.if_icmp .gt 7, 3) := by decide +kernel
theorem dX8_within_10 : decode cX8_within 10 = .ok (.iconst 1, 1) := by decide +kernel
theorem dX8_within_11 : decode cX8_within 11 = .ok (.goto 4, 3) := by decide +kernel
theorem dX8_within_14 : decode cX8_within 14 = .ok (.iconst 0, 1) := by decide +kernel
theorem dX8_within_15 : decode cX8_within 15 = .ok (.ireturn, 1) := by decide +kernel
theorem dX8_record_0 : decode cX8_record 0 = .ok (.aload_n 0, 1) := by decide +kernel
theorem dX8_record_1 : decode cX8_record 1 = .ok (.getfield 30, 3) := by decide +kernel
theorem dX8_record_4 : decode cX8_record 4 = .ok (.bipush 6, 2) := by decide +kernel
theorem dX8_record_6 : decode cX8_record 6 = .ok (.if_icmp .ne 73, 3) := by decide +kernel
theorem dX8_record_9 : decode cX8_record 9 = .ok (.iconst 0, 1) := by decide +kernel
theorem dX8_record_10 : decode cX8_record 10 = .ok (.istore_n 1, 1) := by decide +kernel
theorem dX8_record_11 : decode cX8_record 11 = .ok (.iload_n 1, 1) := by decide +kernel
theorem dX8_record_12 : decode cX8_record 12 = .ok (.sipush 1680, 3) := by decide +kernel
theorem dX8_record_15 : decode cX8_record 15 = .ok (.if_icmp .ge 25, 3) := by decide +kernel
theorem dX8_record_18 : decode cX8_record 18 = .ok (.aload_n 0, 1) := by decide +kernel
theorem dX8_record_19 : decode cX8_record 19 = .ok (.getfield 17, 3) := by decide +kernel
theorem dX8_record_22 : decode cX8_record 22 = .ok (.iload_n 1, 1) := by decide +kernel
theorem dX8_record_23 : decode cX8_record 23 = .ok (.aload_n 0, 1) := by decide +kernel
theorem dX8_record_24 : decode cX8_record 24 = .ok (.getfield 17, 3) := by decide +kernel
theorem dX8_record_27 : decode cX8_record 27 = .ok (.iload_n 1, 1) := by decide +kernel
theorem dX8_record_28 : decode cX8_record 28 = .ok (.sipush 336, 3) := by decide +kernel
theorem dX8_record_31 : decode cX8_record 31 = .ok (.iadd, 1) := by decide +kernel
theorem dX8_record_32 : decode cX8_record 32 = .ok (.iaload, 1) := by decide +kernel
theorem dX8_record_33 : decode cX8_record 33 = .ok (.iastore, 1) := by decide +kernel
theorem dX8_record_34 : decode cX8_record 34 = .ok (.iinc 1 1, 3) := by decide +kernel
theorem dX8_record_37 : decode cX8_record 37 = .ok (.goto (-26), 3) := by decide +kernel
theorem dX8_record_40 : decode cX8_record 40 = .ok (.iconst 0, 1) := by decide +kernel
theorem dX8_record_41 : decode cX8_record 41 = .ok (.istore_n 1, 1) := by decide +kernel
theorem dX8_record_42 : decode cX8_record 42 = .ok (.iload_n 1, 1) := by decide +kernel
theorem dX8_record_43 : decode cX8_record 43 = .ok (.bipush 80, 2) := by decide +kernel
theorem dX8_record_45 : decode cX8_record 45 = .ok (.if_icmp .ge 24, 3) := by decide +kernel
theorem dX8_record_48 : decode cX8_record 48 = .ok (.aload_n 0, 1) := by decide +kernel
theorem dX8_record_49 : decode cX8_record 49 = .ok (.getfield 20, 3) := by decide +kernel
theorem dX8_record_52 : decode cX8_record 52 = .ok (.iload_n 1, 1) := by decide +kernel
theorem dX8_record_53 : decode cX8_record 53 = .ok (.aload_n 0, 1) := by decide +kernel
theorem dX8_record_54 : decode cX8_record 54 = .ok (.getfield 20, 3) := by decide +kernel
theorem dX8_record_57 : decode cX8_record 57 = .ok (.iload_n 1, 1) := by decide +kernel
theorem dX8_record_58 : decode cX8_record 58 = .ok (.bipush 16, 2) := by decide +kernel
theorem dX8_record_60 : decode cX8_record 60 = .ok (.iadd, 1) := by decide +kernel
theorem dX8_record_61 : decode cX8_record 61 = .ok (.laload, 1) := by decide +kernel
theorem dX8_record_62 : decode cX8_record 62 = .ok (.lastore, 1) := by decide +kernel
theorem dX8_record_63 : decode cX8_record 63 = .ok (.iinc 1 1, 3) := by decide +kernel
theorem dX8_record_66 : decode cX8_record 66 = .ok (.goto (-24), 3) := by decide +kernel
theorem dX8_record_69 : decode cX8_record 69 = .ok (.aload_n 0, 1) := by decide +kernel
theorem dX8_record_70 : decode cX8_record 70 = .ok (.dup, 1) := by decide +kernel
theorem dX8_record_71 : decode cX8_record 71 = .ok (.getfield 30, 3) := by decide +kernel
theorem dX8_record_74 : decode cX8_record 74 = .ok (.iconst 1, 1) := by decide +kernel
theorem dX8_record_75 : decode cX8_record 75 = .ok (.isub, 1) := by decide +kernel
theorem dX8_record_76 : decode cX8_record 76 = .ok (.putfield 30, 3) := by decide +kernel
theorem dX8_record_79 : decode cX8_record 79 = .ok (.iconst 0, 1) := by decide +kernel
theorem dX8_record_80 : decode cX8_record 80 = .ok (.istore_n 1, 1) := by decide +kernel
theorem dX8_record_81 : decode cX8_record 81 = .ok (.iload_n 1, 1) := by decide +kernel
theorem dX8_record_82 : decode cX8_record 82 = .ok (.sipush 336, 3) := by decide +kernel
theorem dX8_record_85 : decode cX8_record 85 = .ok (.if_icmp .ge 30, 3) := by decide +kernel
theorem dX8_record_88 : decode cX8_record 88 = .ok (.aload_n 0, 1) := by decide +kernel
theorem dX8_record_89 : decode cX8_record 89 = .ok (.getfield 17, 3) := by decide +kernel
theorem dX8_record_92 : decode cX8_record 92 = .ok (.aload_n 0, 1) := by decide +kernel
theorem dX8_record_93 : decode cX8_record 93 = .ok (.getfield 30, 3) := by decide +kernel
theorem dX8_record_96 : decode cX8_record 96 = .ok (.sipush 336, 3) := by decide +kernel
theorem dX8_record_99 : decode cX8_record 99 = .ok (.imul, 1) := by decide +kernel
theorem dX8_record_100 : decode cX8_record 100 = .ok (.iload_n 1, 1) := by decide +kernel
theorem dX8_record_101 : decode cX8_record 101 = .ok (.iadd, 1) := by decide +kernel
theorem dX8_record_102 : decode cX8_record 102 = .ok (.aload_n 0, 1) := by decide +kernel
theorem dX8_record_103 : decode cX8_record 103 = .ok (.getfield 7, 3) := by decide +kernel
theorem dX8_record_106 : decode cX8_record 106 = .ok (.iload_n 1, 1) := by decide +kernel
theorem dX8_record_107 : decode cX8_record 107 = .ok (.iaload, 1) := by decide +kernel
theorem dX8_record_108 : decode cX8_record 108 = .ok (.iastore, 1) := by decide +kernel
theorem dX8_record_109 : decode cX8_record 109 = .ok (.iinc 1 1, 3) := by decide +kernel
theorem dX8_record_112 : decode cX8_record 112 = .ok (.goto (-31), 3) := by decide +kernel
theorem dX8_record_115 : decode cX8_record 115 = .ok (.iconst 0, 1) := by decide +kernel
theorem dX8_record_116 : decode cX8_record 116 = .ok (.istore_n 1, 1) := by decide +kernel
theorem dX8_record_117 : decode cX8_record 117 = .ok (.iload_n 1, 1) := by decide +kernel
theorem dX8_record_118 : decode cX8_record 118 = .ok (.bipush 16, 2) := by decide +kernel
theorem dX8_record_120 : decode cX8_record 120 = .ok (.if_icmp .ge 29, 3) := by decide +kernel
theorem dX8_record_123 : decode cX8_record 123 = .ok (.aload_n 0, 1) := by decide +kernel
theorem dX8_record_124 : decode cX8_record 124 = .ok (.getfield 20, 3) := by decide +kernel
theorem dX8_record_127 : decode cX8_record 127 = .ok (.aload_n 0, 1) := by decide +kernel
theorem dX8_record_128 : decode cX8_record 128 = .ok (.getfield 30, 3) := by decide +kernel
theorem dX8_record_131 : decode cX8_record 131 = .ok (.bipush 16, 2) := by decide +kernel
theorem dX8_record_133 : decode cX8_record 133 = .ok (.imul, 1) := by decide +kernel
theorem dX8_record_134 : decode cX8_record 134 = .ok (.iload_n 1, 1) := by decide +kernel
theorem dX8_record_135 : decode cX8_record 135 = .ok (.iadd, 1) := by decide +kernel
theorem dX8_record_136 : decode cX8_record 136 = .ok (.aload_n 0, 1) := by decide +kernel
theorem dX8_record_137 : decode cX8_record 137 = .ok (.getfield 13, 3) := by decide +kernel
theorem dX8_record_140 : decode cX8_record 140 = .ok (.iload_n 1, 1) := by decide +kernel
theorem dX8_record_141 : decode cX8_record 141 = .ok (.laload, 1) := by decide +kernel
theorem dX8_record_142 : decode cX8_record 142 = .ok (.lastore, 1) := by decide +kernel
theorem dX8_record_143 : decode cX8_record 143 = .ok (.iinc 1 1, 3) := by decide +kernel
theorem dX8_record_146 : decode cX8_record 146 = .ok (.goto (-29), 3) := by decide +kernel
theorem dX8_record_149 : decode cX8_record 149 = .ok (.aload_n 0, 1) := by decide +kernel
theorem dX8_record_150 : decode cX8_record 150 = .ok (.dup, 1) := by decide +kernel
theorem dX8_record_151 : decode cX8_record 151 = .ok (.getfield 30, 3) := by decide +kernel
theorem dX8_record_154 : decode cX8_record 154 = .ok (.iconst 1, 1) := by decide +kernel
theorem dX8_record_155 : decode cX8_record 155 = .ok (.iadd, 1) := by decide +kernel
theorem dX8_record_156 : decode cX8_record 156 = .ok (.putfield 30, 3) := by decide +kernel
theorem dX8_record_159 : decode cX8_record 159 = .ok (.return_, 1) := by decide +kernel
theorem dX8_part_0 : decode cX8_part 0 = .ok (.aload_n 0, 1) := by decide +kernel
theorem dX8_part_1 : decode cX8_part 1 = .ok (.getfield 7, 3) := by decide +kernel
theorem dX8_part_4 : decode cX8_part 4 = .ok (.bipush 12, 2) := by decide +kernel
theorem dX8_part_6 : decode cX8_part 6 = .ok (.iconst 3, 1) := by decide +kernel
theorem dX8_part_7 : decode cX8_part 7 = .ok (.iload_n 1, 1) := by decide +kernel
theorem dX8_part_8 : decode cX8_part 8 = .ok (.imul, 1) := by decide +kernel
theorem dX8_part_9 : decode cX8_part 9 = .ok (.iadd, 1) := by decide +kernel
theorem dX8_part_10 : decode cX8_part 10 = .ok (.iload_n 2, 1) := by decide +kernel
theorem dX8_part_11 : decode cX8_part 11 = .ok (.iadd, 1) := by decide +kernel
theorem dX8_part_12 : decode cX8_part 12 = .ok (.iaload, 1) := by decide +kernel
theorem dX8_part_13 : decode cX8_part 13 = .ok (.ireturn, 1) := by decide +kernel
theorem dX8_setPart_0 : decode cX8_setPart 0 = .ok (.aload_n 0, 1) := by decide +kernel
theorem dX8_setPart_1 : decode cX8_setPart 1 = .ok (.getfield 7, 3) := by decide +kernel
theorem dX8_setPart_4 : decode cX8_setPart 4 = .ok (.bipush 12, 2) := by decide +kernel
theorem dX8_setPart_6 : decode cX8_setPart 6 = .ok (.iconst 3, 1) := by decide +kernel
theorem dX8_setPart_7 : decode cX8_setPart 7 = .ok (.iload_n 1, 1) := by decide +kernel
theorem dX8_setPart_8 : decode cX8_setPart 8 = .ok (.imul, 1) := by decide +kernel
theorem dX8_setPart_9 : decode cX8_setPart 9 = .ok (.iadd, 1) := by decide +kernel
theorem dX8_setPart_10 : decode cX8_setPart 10 = .ok (.iload_n 2, 1) := by decide +kernel
theorem dX8_setPart_11 : decode cX8_setPart 11 = .ok (.iadd, 1) := by decide +kernel
theorem dX8_setPart_12 : decode cX8_setPart 12 = .ok (.iload_n 3, 1) := by decide +kernel
theorem dX8_setPart_13 : decode cX8_setPart 13 = .ok (.iastore, 1) := by decide +kernel
theorem dX8_setPart_14 : decode cX8_setPart 14 = .ok (.return_, 1) := by decide +kernel
theorem dX8_find_0 : decode cX8_find 0 = .ok (.bipush (-6), 2) := by decide +kernel
theorem dX8_find_2 : decode cX8_find 2 = .ok (.istore_n 2, 1) := by decide +kernel
theorem dX8_find_3 : decode cX8_find 3 = .ok (.iconst 0, 1) := by decide +kernel
theorem dX8_find_4 : decode cX8_find 4 = .ok (.istore_n 3, 1) := by decide +kernel
theorem dX8_find_5 : decode cX8_find 5 = .ok (.iload_n 3, 1) := by decide +kernel
theorem dX8_find_6 : decode cX8_find 6 = .ok (.aload_n 0, 1) := by decide +kernel
theorem dX8_find_7 : decode cX8_find 7 = .ok (.getfield 7, 3) := by decide +kernel
theorem dX8_find_10 : decode cX8_find 10 = .ok (.iconst 5, 1) := by decide +kernel
theorem dX8_find_11 : decode cX8_find 11 = .ok (.iaload, 1) := by decide +kernel
theorem dX8_find_12 : decode cX8_find 12 = .ok (.if_icmp .ge 25, 3) := by decide +kernel
theorem dX8_find_15 : decode cX8_find 15 = .ok (.aload_n 0, 1) := by decide +kernel
theorem dX8_find_16 : decode cX8_find 16 = .ok (.iload_n 3, 1) := by decide +kernel
theorem dX8_find_17 : decode cX8_find 17 = .ok (.iconst 0, 1) := by decide +kernel
theorem dX8_find_18 : decode cX8_find 18 = .ok (.invokevirtual 34, 3) := by decide +kernel
theorem dX8_find_21 : decode cX8_find 21 = .ok (.iload_n 1, 1) := by decide +kernel
theorem dX8_find_22 : decode cX8_find 22 = .ok (.if_icmp .ne 7, 3) := by decide +kernel
theorem dX8_find_25 : decode cX8_find 25 = .ok (.iload_n 3, 1) := by decide +kernel
theorem dX8_find_26 : decode cX8_find 26 = .ok (.goto 4, 3) := by decide +kernel
theorem dX8_find_29 : decode cX8_find 29 = .ok (.iload_n 2, 1) := by decide +kernel
theorem dX8_find_30 : decode cX8_find 30 = .ok (.istore_n 2, 1) := by decide +kernel
theorem dX8_find_31 : decode cX8_find 31 = .ok (.iinc 3 1, 3) := by decide +kernel
theorem dX8_find_34 : decode cX8_find 34 = .ok (.goto (-29), 3) := by decide +kernel
theorem dX8_find_37 : decode cX8_find 37 = .ok (.iload_n 2, 1) := by decide +kernel
theorem dX8_find_38 : decode cX8_find 38 = .ok (.ireturn, 1) := by decide +kernel
theorem dX8_holdPart_0 : decode cX8_holdPart 0 = .ok (.aload_n 0, 1) := by decide +kernel
theorem dX8_holdPart_1 : decode cX8_holdPart 1 = .ok (.getfield 7, 3) := by decide +kernel
theorem dX8_holdPart_4 : decode cX8_holdPart 4 = .ok (.bipush 48, 2) := by decide +kernel
theorem dX8_holdPart_6 : decode cX8_holdPart 6 = .ok (.iconst 4, 1) := by decide +kernel
theorem dX8_holdPart_7 : decode cX8_holdPart 7 = .ok (.iload_n 1, 1) := by decide +kernel
theorem dX8_holdPart_8 : decode cX8_holdPart 8 = .ok (.imul, 1) := by decide +kernel
theorem dX8_holdPart_9 : decode cX8_holdPart 9 = .ok (.iadd, 1) := by decide +kernel
theorem dX8_holdPart_10 : decode cX8_holdPart 10 = .ok (.iload_n 2, 1) := by decide +kernel
theorem dX8_holdPart_11 : decode cX8_holdPart 11 = .ok (.iadd, 1) := by decide +kernel
theorem dX8_holdPart_12 : decode cX8_holdPart 12 = .ok (.iaload, 1) := by decide +kernel
theorem dX8_holdPart_13 : decode cX8_holdPart 13 = .ok (.ireturn, 1) := by decide +kernel
theorem dX8_billPart_0 : decode cX8_billPart 0 = .ok (.aload_n 0, 1) := by decide +kernel
theorem dX8_billPart_1 : decode cX8_billPart 1 = .ok (.getfield 7, 3) := by decide +kernel
theorem dX8_billPart_4 : decode cX8_billPart 4 = .ok (.bipush 108, 2) := by decide +kernel
theorem dX8_billPart_6 : decode cX8_billPart 6 = .ok (.iconst 4, 1) := by decide +kernel
theorem dX8_billPart_7 : decode cX8_billPart 7 = .ok (.iload_n 1, 1) := by decide +kernel
theorem dX8_billPart_8 : decode cX8_billPart 8 = .ok (.imul, 1) := by decide +kernel
theorem dX8_billPart_9 : decode cX8_billPart 9 = .ok (.iadd, 1) := by decide +kernel
theorem dX8_billPart_10 : decode cX8_billPart 10 = .ok (.iload_n 2, 1) := by decide +kernel
theorem dX8_billPart_11 : decode cX8_billPart 11 = .ok (.iadd, 1) := by decide +kernel
theorem dX8_billPart_12 : decode cX8_billPart 12 = .ok (.iaload, 1) := by decide +kernel
theorem dX8_billPart_13 : decode cX8_billPart 13 = .ok (.ireturn, 1) := by decide +kernel
theorem dX8_heldOn_0 : decode cX8_heldOn 0 = .ok (.iconst 0, 1) := by decide +kernel
theorem dX8_heldOn_1 : decode cX8_heldOn 1 = .ok (.istore_n 3, 1) := by decide +kernel
theorem dX8_heldOn_2 : decode cX8_heldOn 2 = .ok (.iconst 0, 1) := by decide +kernel
theorem dX8_heldOn_3 : decode cX8_heldOn 3 = .ok (.istore 4, 2) := by decide +kernel
theorem dX8_heldOn_5 : decode cX8_heldOn 5 = .ok (.iload 4, 2) := by decide +kernel
theorem dX8_heldOn_7 : decode cX8_heldOn 7 = .ok (.aload_n 0, 1) := by decide +kernel
theorem dX8_heldOn_8 : decode cX8_heldOn 8 = .ok (.getfield 7, 3) := by decide +kernel
theorem dX8_heldOn_11 : decode cX8_heldOn 11 = .ok (.bipush 6, 2) := by decide +kernel
theorem dX8_heldOn_13 : decode cX8_heldOn 13 = .ok (.iaload, 1) := by decide +kernel
theorem dX8_heldOn_14 : decode cX8_heldOn 14 = .ok (.if_icmp .ge 45, 3) := by decide +kernel
theorem dX8_heldOn_17 : decode cX8_heldOn 17 = .ok (.iload_n 3, 1) := by decide +kernel
theorem dX8_heldOn_18 : decode cX8_heldOn 18 = .ok (.aload_n 0, 1) := by decide +kernel
theorem dX8_heldOn_19 : decode cX8_heldOn 19 = .ok (.iload 4, 2) := by decide +kernel
theorem dX8_heldOn_21 : decode cX8_heldOn 21 = .ok (.iconst 1, 1) := by decide +kernel
theorem dX8_heldOn_22 : decode cX8_heldOn 22 = .ok (.invokevirtual 38, 3) := by decide +kernel
theorem dX8_heldOn_25 : decode cX8_heldOn 25 = .ok (.iload_n 1, 1) := by decide +kernel
theorem dX8_heldOn_26 : decode cX8_heldOn 26 = .ok (.if_icmp .ne 24, 3) := by decide +kernel
theorem dX8_heldOn_29 : decode cX8_heldOn 29 = .ok (.iload_n 2, 1) := by decide +kernel
theorem dX8_heldOn_30 : decode cX8_heldOn 30 = .ok (.aload_n 0, 1) := by decide +kernel
theorem dX8_heldOn_31 : decode cX8_heldOn 31 = .ok (.iload 4, 2) := by decide +kernel
theorem dX8_heldOn_33 : decode cX8_heldOn 33 = .ok (.iconst 3, 1) := by decide +kernel
theorem dX8_heldOn_34 : decode cX8_heldOn 34 = .ok (.invokevirtual 38, 3) := by decide +kernel
theorem dX8_heldOn_37 : decode cX8_heldOn 37 = .ok (.if_icmp .gt 13, 3) := by decide +kernel
theorem dX8_heldOn_40 : decode cX8_heldOn 40 = .ok (.aload_n 0, 1) := by decide +kernel
theorem dX8_heldOn_41 : decode cX8_heldOn 41 = .ok (.iload 4, 2) := by decide +kernel
theorem dX8_heldOn_43 : decode cX8_heldOn 43 = .ok (.iconst 2, 1) := by decide +kernel
theorem dX8_heldOn_44 : decode cX8_heldOn 44 = .ok (.invokevirtual 38, 3) := by decide +kernel
theorem dX8_heldOn_47 : decode cX8_heldOn 47 = .ok (.goto 4, 3) := by decide +kernel
theorem dX8_heldOn_50 : decode cX8_heldOn 50 = .ok (.iconst 0, 1) := by decide +kernel
theorem dX8_heldOn_51 : decode cX8_heldOn 51 = .ok (.iadd, 1) := by decide +kernel
theorem dX8_heldOn_52 : decode cX8_heldOn 52 = .ok (.istore_n 3, 1) := by decide +kernel
theorem dX8_heldOn_53 : decode cX8_heldOn 53 = .ok (.iinc 4 1, 3) := by decide +kernel
theorem dX8_heldOn_56 : decode cX8_heldOn 56 = .ok (.goto (-51), 3) := by decide +kernel
theorem dX8_heldOn_59 : decode cX8_heldOn 59 = .ok (.iload_n 3, 1) := by decide +kernel
theorem dX8_heldOn_60 : decode cX8_heldOn 60 = .ok (.ireturn, 1) := by decide +kernel
theorem dX8_held_0 : decode cX8_held 0 = .ok (.aload_n 0, 1) := by decide +kernel
theorem dX8_held_1 : decode cX8_held 1 = .ok (.aload_n 0, 1) := by decide +kernel
theorem dX8_held_2 : decode cX8_held 2 = .ok (.iload_n 1, 1) := by decide +kernel
theorem dX8_held_3 : decode cX8_held 3 = .ok (.iconst 0, 1) := by decide +kernel
theorem dX8_held_4 : decode cX8_held 4 = .ok (.invokevirtual 34, 3) := by decide +kernel
theorem dX8_held_7 : decode cX8_held 7 = .ok (.aload_n 0, 1) := by decide +kernel
theorem dX8_held_8 : decode cX8_held 8 = .ok (.getfield 7, 3) := by decide +kernel
theorem dX8_held_11 : decode cX8_held 11 = .ok (.iconst 0, 1) := by decide +kernel
theorem dX8_held_12 : decode cX8_held 12 = .ok (.iaload, 1) := by decide +kernel
theorem dX8_held_13 : decode cX8_held 13 = .ok (.invokevirtual 41, 3) := by decide +kernel
theorem dX8_held_16 : decode cX8_held 16 = .ok (.ireturn, 1) := by decide +kernel
theorem dX8_free_0 : decode cX8_free 0 = .ok (.aload_n 0, 1) := by decide +kernel
theorem dX8_free_1 : decode cX8_free 1 = .ok (.iload_n 1, 1) := by decide +kernel
theorem dX8_free_2 : decode cX8_free 2 = .ok (.iconst 1, 1) := by decide +kernel
theorem dX8_free_3 : decode cX8_free 3 = .ok (.invokevirtual 34, 3) := by decide +kernel
theorem dX8_free_6 : decode cX8_free 6 = .ok (.aload_n 0, 1) := by decide +kernel
theorem dX8_free_7 : decode cX8_free 7 = .ok (.iload_n 1, 1) := by decide +kernel
theorem dX8_free_8 : decode cX8_free 8 = .ok (.invokevirtual 44, 3) := by decide +kernel
theorem dX8_free_11 : decode cX8_free 11 = .ok (.isub, 1) := by decide +kernel
theorem dX8_free_12 : decode cX8_free 12 = .ok (.ireturn, 1) := by decide +kernel
theorem dX8_findHold_0 : decode cX8_findHold 0 = .ok (.bipush (-6), 2) := by decide +kernel
theorem dX8_findHold_2 : decode cX8_findHold 2 = .ok (.istore_n 2, 1) := by decide +kernel
theorem dX8_findHold_3 : decode cX8_findHold 3 = .ok (.iconst 0, 1) := by decide +kernel
theorem dX8_findHold_4 : decode cX8_findHold 4 = .ok (.istore_n 3, 1) := by decide +kernel
theorem dX8_findHold_5 : decode cX8_findHold 5 = .ok (.iload_n 3, 1) := by decide +kernel
theorem dX8_findHold_6 : decode cX8_findHold 6 = .ok (.aload_n 0, 1) := by decide +kernel
theorem dX8_findHold_7 : decode cX8_findHold 7 = .ok (.getfield 7, 3) := by decide +kernel
theorem dX8_findHold_10 : decode cX8_findHold 10 = .ok (.bipush 6, 2) := by decide +kernel
theorem dX8_findHold_12 : decode cX8_findHold 12 = .ok (.iaload, 1) := by decide +kernel
theorem dX8_findHold_13 : decode cX8_findHold 13 = .ok (.if_icmp .ge 25, 3) := by decide +kernel
theorem dX8_findHold_16 : decode cX8_findHold 16 = .ok (.aload_n 0, 1) := by decide +kernel
theorem dX8_findHold_17 : decode cX8_findHold 17 = .ok (.iload_n 3, 1) := by decide +kernel
theorem dX8_findHold_18 : decode cX8_findHold 18 = .ok (.iconst 0, 1) := by decide +kernel
theorem dX8_findHold_19 : decode cX8_findHold 19 = .ok (.invokevirtual 38, 3) := by decide +kernel
theorem dX8_findHold_22 : decode cX8_findHold 22 = .ok (.iload_n 1, 1) := by decide +kernel
theorem dX8_findHold_23 : decode cX8_findHold 23 = .ok (.if_icmp .ne 7, 3) := by decide +kernel
theorem dX8_findHold_26 : decode cX8_findHold 26 = .ok (.iload_n 3, 1) := by decide +kernel
theorem dX8_findHold_27 : decode cX8_findHold 27 = .ok (.goto 4, 3) := by decide +kernel
theorem dX8_findHold_30 : decode cX8_findHold 30 = .ok (.iload_n 2, 1) := by decide +kernel
theorem dX8_findHold_31 : decode cX8_findHold 31 = .ok (.istore_n 2, 1) := by decide +kernel
theorem dX8_findHold_32 : decode cX8_findHold 32 = .ok (.iinc 3 1, 3) := by decide +kernel
theorem dX8_findHold_35 : decode cX8_findHold 35 = .ok (.goto (-30), 3) := by decide +kernel
theorem dX8_findHold_38 : decode cX8_findHold 38 = .ok (.iload_n 2, 1) := by decide +kernel
theorem dX8_findHold_39 : decode cX8_findHold 39 = .ok (.ireturn, 1) := by decide +kernel
theorem dX8_findBill_0 : decode cX8_findBill 0 = .ok (.bipush (-6), 2) := by decide +kernel
theorem dX8_findBill_2 : decode cX8_findBill 2 = .ok (.istore_n 2, 1) := by decide +kernel
theorem dX8_findBill_3 : decode cX8_findBill 3 = .ok (.iconst 0, 1) := by decide +kernel
theorem dX8_findBill_4 : decode cX8_findBill 4 = .ok (.istore_n 3, 1) := by decide +kernel
theorem dX8_findBill_5 : decode cX8_findBill 5 = .ok (.iload_n 3, 1) := by decide +kernel
theorem dX8_findBill_6 : decode cX8_findBill 6 = .ok (.aload_n 0, 1) := by decide +kernel
theorem dX8_findBill_7 : decode cX8_findBill 7 = .ok (.getfield 7, 3) := by decide +kernel
theorem dX8_findBill_10 : decode cX8_findBill 10 = .ok (.bipush 7, 2) := by decide +kernel
theorem dX8_findBill_12 : decode cX8_findBill 12 = .ok (.iaload, 1) := by decide +kernel
theorem dX8_findBill_13 : decode cX8_findBill 13 = .ok (.if_icmp .ge 25, 3) := by decide +kernel
theorem dX8_findBill_16 : decode cX8_findBill 16 = .ok (.aload_n 0, 1) := by decide +kernel
theorem dX8_findBill_17 : decode cX8_findBill 17 = .ok (.iload_n 3, 1) := by decide +kernel
theorem dX8_findBill_18 : decode cX8_findBill 18 = .ok (.iconst 0, 1) := by decide +kernel
theorem dX8_findBill_19 : decode cX8_findBill 19 = .ok (.invokevirtual 48, 3) := by decide +kernel
theorem dX8_findBill_22 : decode cX8_findBill 22 = .ok (.iload_n 1, 1) := by decide +kernel
theorem dX8_findBill_23 : decode cX8_findBill 23 = .ok (.if_icmp .ne 7, 3) := by decide +kernel
theorem dX8_findBill_26 : decode cX8_findBill 26 = .ok (.iload_n 3, 1) := by decide +kernel
theorem dX8_findBill_27 : decode cX8_findBill 27 = .ok (.goto 4, 3) := by decide +kernel
theorem dX8_findBill_30 : decode cX8_findBill 30 = .ok (.iload_n 2, 1) := by decide +kernel
theorem dX8_findBill_31 : decode cX8_findBill 31 = .ok (.istore_n 2, 1) := by decide +kernel
theorem dX8_findBill_32 : decode cX8_findBill 32 = .ok (.iinc 3 1, 3) := by decide +kernel
theorem dX8_findBill_35 : decode cX8_findBill 35 = .ok (.goto (-30), 3) := by decide +kernel
theorem dX8_findBill_38 : decode cX8_findBill 38 = .ok (.iload_n 2, 1) := by decide +kernel
theorem dX8_findBill_39 : decode cX8_findBill 39 = .ok (.ireturn, 1) := by decide +kernel
theorem dX8_takesOut_0 : decode cX8_takesOut 0 = .ok (.iload_n 1, 1) := by decide +kernel
theorem dX8_takesOut_1 : decode cX8_takesOut 1 = .ok (.iconst 4, 1) := by decide +kernel
theorem dX8_takesOut_2 : decode cX8_takesOut 2 = .ok (.iload_n 2, 1) := by decide +kernel
theorem dX8_takesOut_3 : decode cX8_takesOut 3 = .ok (.imul, 1) := by decide +kernel
theorem dX8_takesOut_4 : decode cX8_takesOut 4 = .ok (.iadd, 1) := by decide +kernel
theorem dX8_takesOut_5 : decode cX8_takesOut 5 = .ok (.istore 4, 2) := by decide +kernel
theorem dX8_takesOut_7 : decode cX8_takesOut 7 = .ok (.iload 4, 2) := by decide +kernel
theorem dX8_takesOut_9 : decode cX8_takesOut 9 = .ok (.iload_n 1, 1) := by decide +kernel
theorem dX8_takesOut_10 : decode cX8_takesOut 10 = .ok (.iconst 4, 1) := by decide +kernel
theorem dX8_takesOut_11 : decode cX8_takesOut 11 = .ok (.iload_n 3, 1) := by decide +kernel
theorem dX8_takesOut_12 : decode cX8_takesOut 12 = .ok (.iconst 1, 1) := by decide +kernel
theorem dX8_takesOut_13 : decode cX8_takesOut 13 = .ok (.isub, 1) := by decide +kernel
theorem dX8_takesOut_14 : decode cX8_takesOut 14 = .ok (.imul, 1) := by decide +kernel
theorem dX8_takesOut_15 : decode cX8_takesOut 15 = .ok (.iadd, 1) := by decide +kernel
theorem dX8_takesOut_16 : decode cX8_takesOut 16 = .ok (.if_icmp .ge 25, 3) := by decide +kernel
theorem dX8_takesOut_19 : decode cX8_takesOut 19 = .ok (.aload_n 0, 1) := by decide +kernel
theorem dX8_takesOut_20 : decode cX8_takesOut 20 = .ok (.getfield 7, 3) := by decide +kernel
theorem dX8_takesOut_23 : decode cX8_takesOut 23 = .ok (.iload 4, 2) := by decide +kernel
theorem dX8_takesOut_25 : decode cX8_takesOut 25 = .ok (.aload_n 0, 1) := by decide +kernel
theorem dX8_takesOut_26 : decode cX8_takesOut 26 = .ok (.getfield 7, 3) := by decide +kernel
theorem dX8_takesOut_29 : decode cX8_takesOut 29 = .ok (.iload 4, 2) := by decide +kernel
theorem dX8_takesOut_31 : decode cX8_takesOut 31 = .ok (.iconst 4, 1) := by decide +kernel
theorem dX8_takesOut_32 : decode cX8_takesOut 32 = .ok (.iadd, 1) := by decide +kernel
theorem dX8_takesOut_33 : decode cX8_takesOut 33 = .ok (.iaload, 1) := by decide +kernel
theorem dX8_takesOut_34 : decode cX8_takesOut 34 = .ok (.iastore, 1) := by decide +kernel
theorem dX8_takesOut_35 : decode cX8_takesOut 35 = .ok (.iinc 4 1, 3) := by decide +kernel
theorem dX8_takesOut_38 : decode cX8_takesOut 38 = .ok (.goto (-31), 3) := by decide +kernel
theorem dX8_takesOut_41 : decode cX8_takesOut 41 = .ok (.iload_n 1, 1) := by decide +kernel
theorem dX8_takesOut_42 : decode cX8_takesOut 42 = .ok (.iconst 4, 1) := by decide +kernel
theorem dX8_takesOut_43 : decode cX8_takesOut 43 = .ok (.iload_n 3, 1) := by decide +kernel
theorem dX8_takesOut_44 : decode cX8_takesOut 44 = .ok (.iconst 1, 1) := by decide +kernel
theorem dX8_takesOut_45 : decode cX8_takesOut 45 = .ok (.isub, 1) := by decide +kernel
theorem dX8_takesOut_46 : decode cX8_takesOut 46 = .ok (.imul, 1) := by decide +kernel
theorem dX8_takesOut_47 : decode cX8_takesOut 47 = .ok (.iadd, 1) := by decide +kernel
theorem dX8_takesOut_48 : decode cX8_takesOut 48 = .ok (.istore 4, 2) := by decide +kernel
theorem dX8_takesOut_50 : decode cX8_takesOut 50 = .ok (.iload 4, 2) := by decide +kernel
theorem dX8_takesOut_52 : decode cX8_takesOut 52 = .ok (.iload_n 1, 1) := by decide +kernel
theorem dX8_takesOut_53 : decode cX8_takesOut 53 = .ok (.iconst 4, 1) := by decide +kernel
theorem dX8_takesOut_54 : decode cX8_takesOut 54 = .ok (.iload_n 3, 1) := by decide +kernel
theorem dX8_takesOut_55 : decode cX8_takesOut 55 = .ok (.imul, 1) := by decide +kernel
theorem dX8_takesOut_56 : decode cX8_takesOut 56 = .ok (.iadd, 1) := by decide +kernel
theorem dX8_takesOut_57 : decode cX8_takesOut 57 = .ok (.if_icmp .ge 17, 3) := by decide +kernel
theorem dX8_takesOut_60 : decode cX8_takesOut 60 = .ok (.aload_n 0, 1) := by decide +kernel
theorem dX8_takesOut_61 : decode cX8_takesOut 61 = .ok (.getfield 7, 3) := by decide +kernel
theorem dX8_takesOut_64 : decode cX8_takesOut 64 = .ok (.iload 4, 2) := by decide +kernel
theorem dX8_takesOut_66 : decode cX8_takesOut 66 = .ok (.iconst 0, 1) := by decide +kernel
theorem dX8_takesOut_67 : decode cX8_takesOut 67 = .ok (.iastore, 1) := by decide +kernel
theorem dX8_takesOut_68 : decode cX8_takesOut 68 = .ok (.iinc 4 1, 3) := by decide +kernel
theorem dX8_takesOut_71 : decode cX8_takesOut 71 = .ok (.goto (-21), 3) := by decide +kernel
theorem dX8_takesOut_74 : decode cX8_takesOut 74 = .ok (.return_, 1) := by decide +kernel
theorem dX8_enters_0 : decode cX8_enters 0 = .ok (.aload_n 0, 1) := by decide +kernel
theorem dX8_enters_1 : decode cX8_enters 1 = .ok (.getfield 7, 3) := by decide +kernel
theorem dX8_enters_4 : decode cX8_enters 4 = .ok (.bipush 11, 2) := by decide +kernel
theorem dX8_enters_6 : decode cX8_enters 6 = .ok (.iaload, 1) := by decide +kernel
theorem dX8_enters_7 : decode cX8_enters 7 = .ok (.i2l, 1) := by decide +kernel
theorem dX8_enters_8 : decode cX8_enters 8 = .ok (.ldc2_w 51, 3) := by decide +kernel
theorem dX8_enters_11 : decode cX8_enters 11 = .ok (.lmul, 1) := by decide +kernel
theorem dX8_enters_12 : decode cX8_enters 12 = .ok (.aload_n 0, 1) := by decide +kernel
theorem dX8_enters_13 : decode cX8_enters 13 = .ok (.getfield 7, 3) := by decide +kernel
theorem dX8_enters_16 : decode cX8_enters 16 = .ok (.iconst 0, 1) := by decide +kernel
theorem dX8_enters_17 : decode cX8_enters 17 = .ok (.iaload, 1) := by decide +kernel
theorem dX8_enters_18 : decode cX8_enters 18 = .ok (.i2l, 1) := by decide +kernel
theorem dX8_enters_19 : decode cX8_enters 19 = .ok (.ldc2_w 53, 3) := by decide +kernel
theorem dX8_enters_22 : decode cX8_enters 22 = .ok (.lmul, 1) := by decide +kernel
theorem dX8_enters_23 : decode cX8_enters 23 = .ok (.ladd, 1) := by decide +kernel
theorem dX8_enters_24 : decode cX8_enters 24 = .ok (.iload_n 1, 1) := by decide +kernel
theorem dX8_enters_25 : decode cX8_enters 25 = .ok (.i2l, 1) := by decide +kernel
theorem dX8_enters_26 : decode cX8_enters 26 = .ok (.ldc2_w 55, 3) := by decide +kernel
theorem dX8_enters_29 : decode cX8_enters 29 = .ok (.lmul, 1) := by decide +kernel
theorem dX8_enters_30 : decode cX8_enters 30 = .ok (.ladd, 1) := by decide +kernel
theorem dX8_enters_31 : decode cX8_enters 31 = .ok (.iload_n 2, 1) := by decide +kernel
theorem dX8_enters_32 : decode cX8_enters 32 = .ok (.i2l, 1) := by decide +kernel
theorem dX8_enters_33 : decode cX8_enters 33 = .ok (.ldc2_w 57, 3) := by decide +kernel
theorem dX8_enters_36 : decode cX8_enters 36 = .ok (.lmul, 1) := by decide +kernel
theorem dX8_enters_37 : decode cX8_enters 37 = .ok (.ladd, 1) := by decide +kernel
theorem dX8_enters_38 : decode cX8_enters 38 = .ok (.iload_n 3, 1) := by decide +kernel
theorem dX8_enters_39 : decode cX8_enters 39 = .ok (.i2l, 1) := by decide +kernel
theorem dX8_enters_40 : decode cX8_enters 40 = .ok (.ldc2_w 59, 3) := by decide +kernel
theorem dX8_enters_43 : decode cX8_enters 43 = .ok (.lmul, 1) := by decide +kernel
theorem dX8_enters_44 : decode cX8_enters 44 = .ok (.ladd, 1) := by decide +kernel
theorem dX8_enters_45 : decode cX8_enters 45 = .ok (.iload 4, 2) := by decide +kernel
theorem dX8_enters_47 : decode cX8_enters 47 = .ok (.i2l, 1) := by decide +kernel
theorem dX8_enters_48 : decode cX8_enters 48 = .ok (.ladd, 1) := by decide +kernel
theorem dX8_enters_49 : decode cX8_enters 49 = .ok (.lstore 5, 2) := by decide +kernel
theorem dX8_enters_51 : decode cX8_enters 51 = .ok (.aload_n 0, 1) := by decide +kernel
theorem dX8_enters_52 : decode cX8_enters 52 = .ok (.getfield 7, 3) := by decide +kernel
theorem dX8_enters_55 : decode cX8_enters 55 = .ok (.bipush 11, 2) := by decide +kernel
theorem dX8_enters_57 : decode cX8_enters 57 = .ok (.lload 5, 2) := by decide +kernel
theorem dX8_enters_59 : decode cX8_enters 59 = .ok (.ldc2_w 61, 3) := by decide +kernel
theorem dX8_enters_62 : decode cX8_enters 62 = .ok (.lrem, 1) := by decide +kernel
theorem dX8_enters_63 : decode cX8_enters 63 = .ok (.l2i, 1) := by decide +kernel
theorem dX8_enters_64 : decode cX8_enters 64 = .ok (.iastore, 1) := by decide +kernel
theorem dX8_enters_65 : decode cX8_enters 65 = .ok (.sipush 168, 3) := by decide +kernel
theorem dX8_enters_68 : decode cX8_enters 68 = .ok (.bipush 7, 2) := by decide +kernel
theorem dX8_enters_70 : decode cX8_enters 70 = .ok (.aload_n 0, 1) := by decide +kernel
theorem dX8_enters_71 : decode cX8_enters 71 = .ok (.getfield 7, 3) := by decide +kernel
theorem dX8_enters_74 : decode cX8_enters 74 = .ok (.bipush 10, 2) := by decide +kernel
theorem dX8_enters_76 : decode cX8_enters 76 = .ok (.iaload, 1) := by decide +kernel
theorem dX8_enters_77 : decode cX8_enters 77 = .ok (.bipush 24, 2) := by decide +kernel
theorem dX8_enters_79 : decode cX8_enters 79 = .ok (.irem, 1) := by decide +kernel
theorem dX8_enters_80 : decode cX8_enters 80 = .ok (.imul, 1) := by decide +kernel
theorem dX8_enters_81 : decode cX8_enters 81 = .ok (.iadd, 1) := by decide +kernel
theorem dX8_enters_82 : decode cX8_enters 82 = .ok (.istore 7, 2) := by decide +kernel
theorem dX8_enters_84 : decode cX8_enters 84 = .ok (.aload_n 0, 1) := by decide +kernel
theorem dX8_enters_85 : decode cX8_enters 85 = .ok (.getfield 7, 3) := by decide +kernel
theorem dX8_enters_88 : decode cX8_enters 88 = .ok (.iload 7, 2) := by decide +kernel
theorem dX8_enters_90 : decode cX8_enters 90 = .ok (.iconst 0, 1) := by decide +kernel
theorem dX8_enters_91 : decode cX8_enters 91 = .ok (.iadd, 1) := by decide +kernel
theorem dX8_enters_92 : decode cX8_enters 92 = .ok (.aload_n 0, 1) := by decide +kernel
theorem dX8_enters_93 : decode cX8_enters 93 = .ok (.getfield 7, 3) := by decide +kernel
theorem dX8_enters_96 : decode cX8_enters 96 = .ok (.iconst 0, 1) := by decide +kernel
theorem dX8_enters_97 : decode cX8_enters 97 = .ok (.iaload, 1) := by decide +kernel
theorem dX8_enters_98 : decode cX8_enters 98 = .ok (.iastore, 1) := by decide +kernel
theorem dX8_enters_99 : decode cX8_enters 99 = .ok (.aload_n 0, 1) := by decide +kernel
theorem dX8_enters_100 : decode cX8_enters 100 = .ok (.getfield 7, 3) := by decide +kernel
theorem dX8_enters_103 : decode cX8_enters 103 = .ok (.iload 7, 2) := by decide +kernel
theorem dX8_enters_105 : decode cX8_enters 105 = .ok (.iconst 1, 1) := by decide +kernel
theorem dX8_enters_106 : decode cX8_enters 106 = .ok (.iadd, 1) := by decide +kernel
theorem dX8_enters_107 : decode cX8_enters 107 = .ok (.iload_n 1, 1) := by decide +kernel
theorem dX8_enters_108 : decode cX8_enters 108 = .ok (.iastore, 1) := by decide +kernel
theorem dX8_enters_109 : decode cX8_enters 109 = .ok (.aload_n 0, 1) := by decide +kernel
theorem dX8_enters_110 : decode cX8_enters 110 = .ok (.getfield 7, 3) := by decide +kernel
theorem dX8_enters_113 : decode cX8_enters 113 = .ok (.iload 7, 2) := by decide +kernel
theorem dX8_enters_115 : decode cX8_enters 115 = .ok (.iconst 2, 1) := by decide +kernel
theorem dX8_enters_116 : decode cX8_enters 116 = .ok (.iadd, 1) := by decide +kernel
theorem dX8_enters_117 : decode cX8_enters 117 = .ok (.iload_n 2, 1) := by decide +kernel
theorem dX8_enters_118 : decode cX8_enters 118 = .ok (.iastore, 1) := by decide +kernel
theorem dX8_enters_119 : decode cX8_enters 119 = .ok (.aload_n 0, 1) := by decide +kernel
theorem dX8_enters_120 : decode cX8_enters 120 = .ok (.getfield 7, 3) := by decide +kernel
theorem dX8_enters_123 : decode cX8_enters 123 = .ok (.iload 7, 2) := by decide +kernel
theorem dX8_enters_125 : decode cX8_enters 125 = .ok (.iconst 3, 1) := by decide +kernel
theorem dX8_enters_126 : decode cX8_enters 126 = .ok (.iadd, 1) := by decide +kernel
theorem dX8_enters_127 : decode cX8_enters 127 = .ok (.iload_n 3, 1) := by decide +kernel
theorem dX8_enters_128 : decode cX8_enters 128 = .ok (.iastore, 1) := by decide +kernel
theorem dX8_enters_129 : decode cX8_enters 129 = .ok (.aload_n 0, 1) := by decide +kernel
theorem dX8_enters_130 : decode cX8_enters 130 = .ok (.getfield 7, 3) := by decide +kernel
theorem dX8_enters_133 : decode cX8_enters 133 = .ok (.iload 7, 2) := by decide +kernel
theorem dX8_enters_135 : decode cX8_enters 135 = .ok (.iconst 4, 1) := by decide +kernel
theorem dX8_enters_136 : decode cX8_enters 136 = .ok (.iadd, 1) := by decide +kernel
theorem dX8_enters_137 : decode cX8_enters 137 = .ok (.iload 4, 2) := by decide +kernel
theorem dX8_enters_139 : decode cX8_enters 139 = .ok (.iastore, 1) := by decide +kernel
theorem dX8_enters_140 : decode cX8_enters 140 = .ok (.aload_n 0, 1) := by decide +kernel
theorem dX8_enters_141 : decode cX8_enters 141 = .ok (.getfield 7, 3) := by decide +kernel
theorem dX8_enters_144 : decode cX8_enters 144 = .ok (.iload 7, 2) := by decide +kernel
theorem dX8_enters_146 : decode cX8_enters 146 = .ok (.iconst 5, 1) := by decide +kernel
theorem dX8_enters_147 : decode cX8_enters 147 = .ok (.iadd, 1) := by decide +kernel
theorem dX8_enters_148 : decode cX8_enters 148 = .ok (.aload_n 0, 1) := by decide +kernel
theorem dX8_enters_149 : decode cX8_enters 149 = .ok (.getfield 7, 3) := by decide +kernel
theorem dX8_enters_152 : decode cX8_enters 152 = .ok (.bipush 11, 2) := by decide +kernel
theorem dX8_enters_154 : decode cX8_enters 154 = .ok (.iaload, 1) := by decide +kernel
theorem dX8_enters_155 : decode cX8_enters 155 = .ok (.iastore, 1) := by decide +kernel
theorem dX8_enters_156 : decode cX8_enters 156 = .ok (.aload_n 0, 1) := by decide +kernel
theorem dX8_enters_157 : decode cX8_enters 157 = .ok (.getfield 7, 3) := by decide +kernel
theorem dX8_enters_160 : decode cX8_enters 160 = .ok (.iload 7, 2) := by decide +kernel
theorem dX8_enters_162 : decode cX8_enters 162 = .ok (.bipush 6, 2) := by decide +kernel
theorem dX8_enters_164 : decode cX8_enters 164 = .ok (.iadd, 1) := by decide +kernel
theorem dX8_enters_165 : decode cX8_enters 165 = .ok (.iconst 0, 1) := by decide +kernel
theorem dX8_enters_166 : decode cX8_enters 166 = .ok (.iastore, 1) := by decide +kernel
theorem dX8_enters_167 : decode cX8_enters 167 = .ok (.aload_n 0, 1) := by decide +kernel
theorem dX8_enters_168 : decode cX8_enters 168 = .ok (.getfield 7, 3) := by decide +kernel
theorem dX8_enters_171 : decode cX8_enters 171 = .ok (.bipush 10, 2) := by decide +kernel
theorem dX8_enters_173 : decode cX8_enters 173 = .ok (.dup2, 1) := by decide +kernel
theorem dX8_enters_174 : decode cX8_enters 174 = .ok (.iaload, 1) := by decide +kernel
theorem dX8_enters_175 : decode cX8_enters 175 = .ok (.iconst 1, 1) := by decide +kernel
theorem dX8_enters_176 : decode cX8_enters 176 = .ok (.iadd, 1) := by decide +kernel
theorem dX8_enters_177 : decode cX8_enters 177 = .ok (.iastore, 1) := by decide +kernel
theorem dX8_enters_178 : decode cX8_enters 178 = .ok (.iconst 0, 1) := by decide +kernel
theorem dX8_enters_179 : decode cX8_enters 179 = .ok (.istore 8, 2) := by decide +kernel
theorem dX8_enters_181 : decode cX8_enters 181 = .ok (.iload 8, 2) := by decide +kernel
theorem dX8_enters_183 : decode cX8_enters 183 = .ok (.aload_n 0, 1) := by decide +kernel
theorem dX8_enters_184 : decode cX8_enters 184 = .ok (.getfield 7, 3) := by decide +kernel
theorem dX8_enters_187 : decode cX8_enters 187 = .ok (.iconst 5, 1) := by decide +kernel
theorem dX8_enters_188 : decode cX8_enters 188 = .ok (.iaload, 1) := by decide +kernel
theorem dX8_enters_189 : decode cX8_enters 189 = .ok (.if_icmp .ge 44, 3) := by decide +kernel
theorem dX8_enters_192 : decode cX8_enters 192 = .ok (.aload_n 0, 1) := by decide +kernel
theorem dX8_enters_193 : decode cX8_enters 193 = .ok (.iload 8, 2) := by decide +kernel
theorem dX8_enters_195 : decode cX8_enters 195 = .ok (.iconst 0, 1) := by decide +kernel
theorem dX8_enters_196 : decode cX8_enters 196 = .ok (.invokevirtual 34, 3) := by decide +kernel
theorem dX8_enters_199 : decode cX8_enters 199 = .ok (.iload_n 2, 1) := by decide +kernel
theorem dX8_enters_200 : decode cX8_enters 200 = .ok (.if_icmp .eq 14, 3) := by decide +kernel
theorem dX8_enters_203 : decode cX8_enters 203 = .ok (.aload_n 0, 1) := by decide +kernel
theorem dX8_enters_204 : decode cX8_enters 204 = .ok (.iload 8, 2) := by decide +kernel
theorem dX8_enters_206 : decode cX8_enters 206 = .ok (.iconst 0, 1) := by decide +kernel
theorem dX8_enters_207 : decode cX8_enters 207 = .ok (.invokevirtual 34, 3) := by decide +kernel
theorem dX8_enters_210 : decode cX8_enters 210 = .ok (.iload_n 3, 1) := by decide +kernel
theorem dX8_enters_211 : decode cX8_enters 211 = .ok (.if_icmp .ne 16, 3) := by decide +kernel
theorem dX8_enters_214 : decode cX8_enters 214 = .ok (.aload_n 0, 1) := by decide +kernel
theorem dX8_enters_215 : decode cX8_enters 215 = .ok (.iload 8, 2) := by decide +kernel
theorem dX8_enters_217 : decode cX8_enters 217 = .ok (.iconst 2, 1) := by decide +kernel
theorem dX8_enters_218 : decode cX8_enters 218 = .ok (.aload_n 0, 1) := by decide +kernel
theorem dX8_enters_219 : decode cX8_enters 219 = .ok (.getfield 7, 3) := by decide +kernel
theorem dX8_enters_222 : decode cX8_enters 222 = .ok (.iconst 0, 1) := by decide +kernel
theorem dX8_enters_223 : decode cX8_enters 223 = .ok (.iaload, 1) := by decide +kernel
theorem dX8_enters_224 : decode cX8_enters 224 = .ok (.invokevirtual 63, 3) := by decide +kernel
theorem dX8_enters_227 : decode cX8_enters 227 = .ok (.iinc 8 1, 3) := by decide +kernel
theorem dX8_enters_230 : decode cX8_enters 230 = .ok (.goto (-49), 3) := by decide +kernel
theorem dX8_enters_233 : decode cX8_enters 233 = .ok (.aload_n 0, 1) := by decide +kernel
theorem dX8_enters_234 : decode cX8_enters 234 = .ok (.getfield 7, 3) := by decide +kernel
theorem dX8_enters_237 : decode cX8_enters 237 = .ok (.bipush 10, 2) := by decide +kernel
theorem dX8_enters_239 : decode cX8_enters 239 = .ok (.iaload, 1) := by decide +kernel
theorem dX8_enters_240 : decode cX8_enters 240 = .ok (.ireturn, 1) := by decide +kernel
theorem dX8_isEntry_0 : decode cX8_isEntry 0 = .ok (.iload_n 1, 1) := by decide +kernel
theorem dX8_isEntry_1 : decode cX8_isEntry 1 = .ok (.iconst 1, 1) := by decide +kernel
theorem dX8_isEntry_2 : decode cX8_isEntry 2 = .ok (.aload_n 0, 1) := by decide +kernel
theorem dX8_isEntry_3 : decode cX8_isEntry 3 = .ok (.getfield 7, 3) := by decide +kernel
theorem dX8_isEntry_6 : decode cX8_isEntry 6 = .ok (.bipush 10, 2) := by decide +kernel
theorem dX8_isEntry_8 : decode cX8_isEntry 8 = .ok (.iaload, 1) := by decide +kernel
theorem dX8_isEntry_9 : decode cX8_isEntry 9 = .ok (.invokestatic 67, 3) := by decide +kernel
theorem dX8_isEntry_12 : decode cX8_isEntry 12 = .ok (.ifCond .eq 21, 3) := by decide +kernel
theorem dX8_isEntry_15 : decode cX8_isEntry 15 = .ok (.iload_n 1, 1) := by decide +kernel
theorem dX8_isEntry_16 : decode cX8_isEntry 16 = .ok (.aload_n 0, 1) := by decide +kernel
theorem dX8_isEntry_17 : decode cX8_isEntry 17 = .ok (.getfield 7, 3) := by decide +kernel
theorem dX8_isEntry_20 : decode cX8_isEntry 20 = .ok (.bipush 10, 2) := by decide +kernel
theorem dX8_isEntry_22 : decode cX8_isEntry 22 = .ok (.iaload, 1) := by decide +kernel
theorem dX8_isEntry_23 : decode cX8_isEntry 23 = .ok (.bipush 24, 2) := by decide +kernel
theorem dX8_isEntry_25 : decode cX8_isEntry 25 = .ok (.isub, 1) := by decide +kernel
theorem dX8_isEntry_26 : decode cX8_isEntry 26 = .ok (.if_icmp .le 7, 3) := by decide +kernel
theorem dX8_isEntry_29 : decode cX8_isEntry 29 = .ok (.iconst 1, 1) := by decide +kernel
theorem dX8_isEntry_30 : decode cX8_isEntry 30 = .ok (.goto 4, 3) := by decide +kernel
theorem dX8_isEntry_33 : decode cX8_isEntry 33 = .ok (.iconst 0, 1) := by decide +kernel
theorem dX8_isEntry_34 : decode cX8_isEntry 34 = .ok (.ireturn, 1) := by decide +kernel
theorem dX8_entryPart_0 : decode cX8_entryPart 0 = .ok (.aload_n 0, 1) := by decide +kernel
theorem dX8_entryPart_1 : decode cX8_entryPart 1 = .ok (.getfield 7, 3) := by decide +kernel
theorem dX8_entryPart_4 : decode cX8_entryPart 4 = .ok (.sipush 168, 3) := by decide +kernel
theorem dX8_entryPart_7 : decode cX8_entryPart 7 = .ok (.bipush 7, 2) := by decide +kernel
theorem dX8_entryPart_9 : decode cX8_entryPart 9 = .ok (.iload_n 1, 1) := by decide +kernel
theorem dX8_entryPart_10 : decode cX8_entryPart 10 = .ok (.iconst 1, 1) := by decide +kernel
theorem dX8_entryPart_11 : decode cX8_entryPart 11 = .ok (.isub, 1) := by decide +kernel
theorem dX8_entryPart_12 : decode cX8_entryPart 12 = .ok (.bipush 24, 2) := by decide +kernel
theorem dX8_entryPart_14 : decode cX8_entryPart 14 = .ok (.irem, 1) := by decide +kernel
theorem dX8_entryPart_15 : decode cX8_entryPart 15 = .ok (.imul, 1) := by decide +kernel
theorem dX8_entryPart_16 : decode cX8_entryPart 16 = .ok (.iadd, 1) := by decide +kernel
theorem dX8_entryPart_17 : decode cX8_entryPart 17 = .ok (.iload_n 2, 1) := by decide +kernel
theorem dX8_entryPart_18 : decode cX8_entryPart 18 = .ok (.iadd, 1) := by decide +kernel
theorem dX8_entryPart_19 : decode cX8_entryPart 19 = .ok (.iaload, 1) := by decide +kernel
theorem dX8_entryPart_20 : decode cX8_entryPart 20 = .ok (.ireturn, 1) := by decide +kernel
theorem dX8_setRates_0 : decode cX8_setRates 0 = .ok (.iload_n 1, 1) := by decide +kernel
theorem dX8_setRates_1 : decode cX8_setRates 1 = .ok (.iconst 0, 1) := by decide +kernel
theorem dX8_setRates_2 : decode cX8_setRates 2 = .ok (.ldc 71, 2) := by decide +kernel
theorem dX8_setRates_4 : decode cX8_setRates 4 = .ok (.invokestatic 67, 3) := by decide +kernel
theorem dX8_setRates_7 : decode cX8_setRates 7 = .ok (.ifCond .eq 25, 3) := by decide +kernel
theorem dX8_setRates_10 : decode cX8_setRates 10 = .ok (.iload_n 2, 1) := by decide +kernel
theorem dX8_setRates_11 : decode cX8_setRates 11 = .ok (.iconst 0, 1) := by decide +kernel
theorem dX8_setRates_12 : decode cX8_setRates 12 = .ok (.sipush 2000, 3) := by decide +kernel
theorem dX8_setRates_15 : decode cX8_setRates 15 = .ok (.invokestatic 67, 3) := by decide +kernel
theorem dX8_setRates_18 : decode cX8_setRates 18 = .ok (.ifCond .eq 14, 3) := by decide +kernel
theorem dX8_setRates_21 : decode cX8_setRates 21 = .ok (.iload_n 3, 1) := by decide +kernel
theorem dX8_setRates_22 : decode cX8_setRates 22 = .ok (.iconst 0, 1) := by decide +kernel
theorem dX8_setRates_23 : decode cX8_setRates 23 = .ok (.sipush 2000, 3) := by decide +kernel
theorem dX8_setRates_26 : decode cX8_setRates 26 = .ok (.invokestatic 67, 3) := by decide +kernel
theorem dX8_setRates_29 : decode cX8_setRates 29 = .ok (.ifCond .ne 6, 3) := by decide +kernel
theorem dX8_setRates_32 : decode cX8_setRates 32 = .ok (.bipush (-2), 2) := by decide +kernel
theorem dX8_setRates_34 : decode cX8_setRates 34 = .ok (.ireturn, 1) := by decide +kernel
theorem dX8_setRates_35 : decode cX8_setRates 35 = .ok (.aload_n 0, 1) := by decide +kernel
theorem dX8_setRates_36 : decode cX8_setRates 36 = .ok (.invokevirtual 72, 3) := by decide +kernel
theorem dX8_setRates_39 : decode cX8_setRates 39 = .ok (.aload_n 0, 1) := by decide +kernel
theorem dX8_setRates_40 : decode cX8_setRates 40 = .ok (.getfield 7, 3) := by decide +kernel
theorem dX8_setRates_43 : decode cX8_setRates 43 = .ok (.iconst 1, 1) := by decide +kernel
theorem dX8_setRates_44 : decode cX8_setRates 44 = .ok (.iaload, 1) := by decide +kernel
theorem dX8_setRates_45 : decode cX8_setRates 45 = .ok (.istore 4, 2) := by decide +kernel
theorem dX8_setRates_47 : decode cX8_setRates 47 = .ok (.aload_n 0, 1) := by decide +kernel
theorem dX8_setRates_48 : decode cX8_setRates 48 = .ok (.getfield 7, 3) := by decide +kernel
theorem dX8_setRates_51 : decode cX8_setRates 51 = .ok (.iconst 1, 1) := by decide +kernel
theorem dX8_setRates_52 : decode cX8_setRates 52 = .ok (.iload_n 1, 1) := by decide +kernel
theorem dX8_setRates_53 : decode cX8_setRates 53 = .ok (.iastore, 1) := by decide +kernel
theorem dX8_setRates_54 : decode cX8_setRates 54 = .ok (.aload_n 0, 1) := by decide +kernel
theorem dX8_setRates_55 : decode cX8_setRates 55 = .ok (.getfield 7, 3) := by decide +kernel
theorem dX8_setRates_58 : decode cX8_setRates 58 = .ok (.iconst 2, 1) := by decide +kernel
theorem dX8_setRates_59 : decode cX8_setRates 59 = .ok (.iload_n 2, 1) := by decide +kernel
theorem dX8_setRates_60 : decode cX8_setRates 60 = .ok (.iastore, 1) := by decide +kernel
theorem dX8_setRates_61 : decode cX8_setRates 61 = .ok (.aload_n 0, 1) := by decide +kernel
theorem dX8_setRates_62 : decode cX8_setRates 62 = .ok (.getfield 7, 3) := by decide +kernel
theorem dX8_setRates_65 : decode cX8_setRates 65 = .ok (.iconst 3, 1) := by decide +kernel
theorem dX8_setRates_66 : decode cX8_setRates 66 = .ok (.iload_n 3, 1) := by decide +kernel
theorem dX8_setRates_67 : decode cX8_setRates 67 = .ok (.iastore, 1) := by decide +kernel
theorem dX8_setRates_68 : decode cX8_setRates 68 = .ok (.iload 4, 2) := by decide +kernel
theorem dX8_setRates_70 : decode cX8_setRates 70 = .ok (.ireturn, 1) := by decide +kernel
theorem dX8_setThreshold_0 : decode cX8_setThreshold 0 = .ok (.iload_n 1, 1) := by decide +kernel
theorem dX8_setThreshold_1 : decode cX8_setThreshold 1 = .ok (.iconst 0, 1) := by decide +kernel
theorem dX8_setThreshold_2 : decode cX8_setThreshold 2 = .ok (.sipush 10000, 3) := by decide +kernel
theorem dX8_setThreshold_5 : decode cX8_setThreshold 5 = .ok (.invokestatic 67, 3) := by decide +kernel
theorem dX8_setThreshold_8 : decode cX8_setThreshold 8 = .ok (.ifCond .ne 6, 3) := by decide +kernel
theorem dX8_setThreshold_11 : decode cX8_setThreshold 11 = .ok (.bipush (-2), 2) := by decide +kernel
theorem dX8_setThreshold_13 : decode cX8_setThreshold 13 = .ok (.ireturn, 1) := by decide +kernel
theorem dX8_setThreshold_14 : decode cX8_setThreshold 14 = .ok (.aload_n 0, 1) := by decide +kernel
theorem dX8_setThreshold_15 : decode cX8_setThreshold 15 = .ok (.invokevirtual 72, 3) := by decide +kernel
theorem dX8_setThreshold_18 : decode cX8_setThreshold 18 = .ok (.aload_n 0, 1) := by decide +kernel
theorem dX8_setThreshold_19 : decode cX8_setThreshold 19 = .ok (.getfield 7, 3) := by decide +kernel
theorem dX8_setThreshold_22 : decode cX8_setThreshold 22 = .ok (.iconst 4, 1) := by decide +kernel
theorem dX8_setThreshold_23 : decode cX8_setThreshold 23 = .ok (.iaload, 1) := by decide +kernel
theorem dX8_setThreshold_24 : decode cX8_setThreshold 24 = .ok (.istore_n 2, 1) := by decide +kernel
theorem dX8_setThreshold_25 : decode cX8_setThreshold 25 = .ok (.aload_n 0, 1) := by decide +kernel
theorem dX8_setThreshold_26 : decode cX8_setThreshold 26 = .ok (.getfield 7, 3) := by decide +kernel
theorem dX8_setThreshold_29 : decode cX8_setThreshold 29 = .ok (.iconst 4, 1) := by decide +kernel
theorem dX8_setThreshold_30 : decode cX8_setThreshold 30 = .ok (.iload_n 1, 1) := by decide +kernel
theorem dX8_setThreshold_31 : decode cX8_setThreshold 31 = .ok (.iastore, 1) := by decide +kernel
theorem dX8_setThreshold_32 : decode cX8_setThreshold 32 = .ok (.iload_n 2, 1) := by decide +kernel
theorem dX8_setThreshold_33 : decode cX8_setThreshold 33 = .ok (.ireturn, 1) := by decide +kernel
theorem dX8_open_0 : decode cX8_open 0 = .ok (.iload_n 1, 1) := by decide +kernel
theorem dX8_open_1 : decode cX8_open 1 = .ok (.iconst 1, 1) := by decide +kernel
theorem dX8_open_2 : decode cX8_open 2 = .ok (.bipush 99, 2) := by decide +kernel
theorem dX8_open_4 : decode cX8_open 4 = .ok (.invokestatic 67, 3) := by decide +kernel
theorem dX8_open_7 : decode cX8_open 7 = .ok (.ifCond .ne 6, 3) := by decide +kernel
theorem dX8_open_10 : decode cX8_open 10 = .ok (.bipush (-2), 2) := by decide +kernel
theorem dX8_open_12 : decode cX8_open 12 = .ok (.ireturn, 1) := by decide +kernel
theorem dX8_open_13 : decode cX8_open 13 = .ok (.aload_n 0, 1) := by decide +kernel
theorem dX8_open_14 : decode cX8_open 14 = .ok (.iload_n 1, 1) := by decide +kernel
theorem dX8_open_15 : decode cX8_open 15 = .ok (.invokevirtual 75, 3) := by decide +kernel
theorem dX8_open_18 : decode cX8_open 18 = .ok (.bipush (-6), 2) := by decide +kernel
theorem dX8_open_20 : decode cX8_open 20 = .ok (.if_icmp .eq 6, 3) := by decide +kernel
theorem dX8_open_23 : decode cX8_open 23 = .ok (.bipush (-3), 2) := by decide +kernel
theorem dX8_open_25 : decode cX8_open 25 = .ok (.ireturn, 1) := by decide +kernel
theorem dX8_open_26 : decode cX8_open 26 = .ok (.aload_n 0, 1) := by decide +kernel
theorem dX8_open_27 : decode cX8_open 27 = .ok (.getfield 7, 3) := by decide +kernel
theorem dX8_open_30 : decode cX8_open 30 = .ok (.iconst 5, 1) := by decide +kernel
theorem dX8_open_31 : decode cX8_open 31 = .ok (.iaload, 1) := by decide +kernel
theorem dX8_open_32 : decode cX8_open 32 = .ok (.bipush 12, 2) := by decide +kernel
theorem dX8_open_34 : decode cX8_open 34 = .ok (.if_icmp .ne 6, 3) := by decide +kernel
theorem dX8_open_37 : decode cX8_open 37 = .ok (.bipush (-4), 2) := by decide +kernel
theorem dX8_open_39 : decode cX8_open 39 = .ok (.ireturn, 1) := by decide +kernel
theorem dX8_open_40 : decode cX8_open 40 = .ok (.aload_n 0, 1) := by decide +kernel
theorem dX8_open_41 : decode cX8_open 41 = .ok (.invokevirtual 72, 3) := by decide +kernel
theorem dX8_open_44 : decode cX8_open 44 = .ok (.aload_n 0, 1) := by decide +kernel
theorem dX8_open_45 : decode cX8_open 45 = .ok (.getfield 7, 3) := by decide +kernel
theorem dX8_open_48 : decode cX8_open 48 = .ok (.iconst 5, 1) := by decide +kernel
theorem dX8_open_49 : decode cX8_open 49 = .ok (.iaload, 1) := by decide +kernel
theorem dX8_open_50 : decode cX8_open 50 = .ok (.istore_n 2, 1) := by decide +kernel
theorem dX8_open_51 : decode cX8_open 51 = .ok (.iload_n 2, 1) := by decide +kernel
theorem dX8_open_52 : decode cX8_open 52 = .ok (.ifCond .le 62, 3) := by decide +kernel
theorem dX8_open_55 : decode cX8_open 55 = .ok (.aload_n 0, 1) := by decide +kernel
theorem dX8_open_56 : decode cX8_open 56 = .ok (.iload_n 2, 1) := by decide +kernel
theorem dX8_open_57 : decode cX8_open 57 = .ok (.iconst 1, 1) := by decide +kernel
theorem dX8_open_58 : decode cX8_open 58 = .ok (.isub, 1) := by decide +kernel
theorem dX8_open_59 : decode cX8_open 59 = .ok (.iconst 0, 1) := by decide +kernel
theorem dX8_open_60 : decode cX8_open 60 = .ok (.invokevirtual 34, 3) := by decide +kernel
theorem dX8_open_63 : decode cX8_open 63 = .ok (.iload_n 1, 1) := by decide +kernel
theorem dX8_open_64 : decode cX8_open 64 = .ok (.if_icmp .le 50, 3) := by decide +kernel
theorem dX8_open_67 : decode cX8_open 67 = .ok (.iconst 0, 1) := by decide +kernel
theorem dX8_open_68 : decode cX8_open 68 = .ok (.istore_n 3, 1) := by decide +kernel
theorem dX8_open_69 : decode cX8_open 69 = .ok (.iload_n 3, 1) := by decide +kernel
theorem dX8_open_70 : decode cX8_open 70 = .ok (.iconst 3, 1) := by decide +kernel
theorem dX8_open_71 : decode cX8_open 71 = .ok (.if_icmp .ge 23, 3) := by decide +kernel
theorem dX8_open_74 : decode cX8_open 74 = .ok (.aload_n 0, 1) := by decide +kernel
theorem dX8_open_75 : decode cX8_open 75 = .ok (.iload_n 2, 1) := by decide +kernel
theorem dX8_open_76 : decode cX8_open 76 = .ok (.iload_n 3, 1) := by decide +kernel
theorem dX8_open_77 : decode cX8_open 77 = .ok (.aload_n 0, 1) := by decide +kernel
theorem dX8_open_78 : decode cX8_open 78 = .ok (.iload_n 2, 1) := by decide +kernel
theorem dX8_open_79 : decode cX8_open 79 = .ok (.iconst 1, 1) := by decide +kernel
theorem dX8_open_80 : decode cX8_open 80 = .ok (.isub, 1) := by decide +kernel
theorem dX8_open_81 : decode cX8_open 81 = .ok (.iload_n 3, 1) := by decide +kernel
theorem dX8_open_82 : decode cX8_open 82 = .ok (.invokevirtual 34, 3) := by decide +kernel
theorem dX8_open_85 : decode cX8_open 85 = .ok (.invokevirtual 63, 3) := by decide +kernel
theorem dX8_open_88 : decode cX8_open 88 = .ok (.iinc 3 1, 3) := by decide +kernel
theorem dX8_open_91 : decode cX8_open 91 = .ok (.goto (-22), 3) := by decide +kernel
theorem dX8_open_94 : decode cX8_open 94 = .ok (.aload_n 0, 1) := by decide +kernel
theorem dX8_open_95 : decode cX8_open 95 = .ok (.getfield 13, 3) := by decide +kernel
theorem dX8_open_98 : decode cX8_open 98 = .ok (.iload_n 2, 1) := by decide +kernel
theorem dX8_open_99 : decode cX8_open 99 = .ok (.aload_n 0, 1) := by decide +kernel
theorem dX8_open_100 : decode cX8_open 100 = .ok (.getfield 13, 3) := by decide +kernel
theorem dX8_open_103 : decode cX8_open 103 = .ok (.iload_n 2, 1) := by decide +kernel
theorem dX8_open_104 : decode cX8_open 104 = .ok (.iconst 1, 1) := by decide +kernel
theorem dX8_open_105 : decode cX8_open 105 = .ok (.isub, 1) := by decide +kernel
theorem dX8_open_106 : decode cX8_open 106 = .ok (.laload, 1) := by decide +kernel
theorem dX8_open_107 : decode cX8_open 107 = .ok (.lastore, 1) := by decide +kernel
theorem dX8_open_108 : decode cX8_open 108 = .ok (.iinc 2 (-1), 3) := by decide +kernel
theorem dX8_open_111 : decode cX8_open 111 = .ok (.goto (-60), 3) := by decide +kernel
theorem dX8_open_114 : decode cX8_open 114 = .ok (.aload_n 0, 1) := by decide +kernel
theorem dX8_open_115 : decode cX8_open 115 = .ok (.iload_n 2, 1) := by decide +kernel
theorem dX8_open_116 : decode cX8_open 116 = .ok (.iconst 0, 1) := by decide +kernel
theorem dX8_open_117 : decode cX8_open 117 = .ok (.iload_n 1, 1) := by decide +kernel
theorem dX8_open_118 : decode cX8_open 118 = .ok (.invokevirtual 63, 3) := by decide +kernel
theorem dX8_open_121 : decode cX8_open 121 = .ok (.aload_n 0, 1) := by decide +kernel
theorem dX8_open_122 : decode cX8_open 122 = .ok (.iload_n 2, 1) := by decide +kernel
theorem dX8_open_123 : decode cX8_open 123 = .ok (.iconst 1, 1) := by decide +kernel
theorem dX8_open_124 : decode cX8_open 124 = .ok (.iconst 0, 1) := by decide +kernel
theorem dX8_open_125 : decode cX8_open 125 = .ok (.invokevirtual 63, 3) := by decide +kernel
theorem dX8_open_128 : decode cX8_open 128 = .ok (.aload_n 0, 1) := by decide +kernel
theorem dX8_open_129 : decode cX8_open 129 = .ok (.iload_n 2, 1) := by decide +kernel
theorem dX8_open_130 : decode cX8_open 130 = .ok (.iconst 2, 1) := by decide +kernel
theorem dX8_open_131 : decode cX8_open 131 = .ok (.aload_n 0, 1) := by decide +kernel
theorem dX8_open_132 : decode cX8_open 132 = .ok (.getfield 7, 3) := by decide +kernel
theorem dX8_open_135 : decode cX8_open 135 = .ok (.iconst 0, 1) := by decide +kernel
theorem dX8_open_136 : decode cX8_open 136 = .ok (.iaload, 1) := by decide +kernel
theorem dX8_open_137 : decode cX8_open 137 = .ok (.invokevirtual 63, 3) := by decide +kernel
theorem dX8_open_140 : decode cX8_open 140 = .ok (.aload_n 0, 1) := by decide +kernel
theorem dX8_open_141 : decode cX8_open 141 = .ok (.getfield 13, 3) := by decide +kernel
theorem dX8_open_144 : decode cX8_open 144 = .ok (.iload_n 2, 1) := by decide +kernel
theorem dX8_open_145 : decode cX8_open 145 = .ok (.lconst 0, 1) := by decide +kernel
theorem dX8_open_146 : decode cX8_open 146 = .ok (.lastore, 1) := by decide +kernel
theorem dX8_open_147 : decode cX8_open 147 = .ok (.aload_n 0, 1) := by decide +kernel
theorem dX8_open_148 : decode cX8_open 148 = .ok (.getfield 7, 3) := by decide +kernel
theorem dX8_open_151 : decode cX8_open 151 = .ok (.iconst 5, 1) := by decide +kernel
theorem dX8_open_152 : decode cX8_open 152 = .ok (.dup2, 1) := by decide +kernel
theorem dX8_open_153 : decode cX8_open 153 = .ok (.iaload, 1) := by decide +kernel
theorem dX8_open_154 : decode cX8_open 154 = .ok (.iconst 1, 1) := by decide +kernel
theorem dX8_open_155 : decode cX8_open 155 = .ok (.iadd, 1) := by decide +kernel
theorem dX8_open_156 : decode cX8_open 156 = .ok (.iastore, 1) := by decide +kernel
theorem dX8_open_157 : decode cX8_open 157 = .ok (.aload_n 0, 1) := by decide +kernel
theorem dX8_open_158 : decode cX8_open 158 = .ok (.getfield 7, 3) := by decide +kernel
theorem dX8_open_161 : decode cX8_open 161 = .ok (.iconst 5, 1) := by decide +kernel
theorem dX8_open_162 : decode cX8_open 162 = .ok (.iaload, 1) := by decide +kernel
theorem dX8_open_163 : decode cX8_open 163 = .ok (.ireturn, 1) := by decide +kernel
theorem dX8_billsOf_0 : decode cX8_billsOf 0 = .ok (.iconst 0, 1) := by decide +kernel
theorem dX8_billsOf_1 : decode cX8_billsOf 1 = .ok (.istore_n 2, 1) := by decide +kernel
theorem dX8_billsOf_2 : decode cX8_billsOf 2 = .ok (.iconst 0, 1) := by decide +kernel
theorem dX8_billsOf_3 : decode cX8_billsOf 3 = .ok (.istore_n 3, 1) := by decide +kernel
theorem dX8_billsOf_4 : decode cX8_billsOf 4 = .ok (.iload_n 3, 1) := by decide +kernel
theorem dX8_billsOf_5 : decode cX8_billsOf 5 = .ok (.aload_n 0, 1) := by decide +kernel
theorem dX8_billsOf_6 : decode cX8_billsOf 6 = .ok (.getfield 7, 3) := by decide +kernel
theorem dX8_billsOf_9 : decode cX8_billsOf 9 = .ok (.bipush 7, 2) := by decide +kernel
theorem dX8_billsOf_11 : decode cX8_billsOf 11 = .ok (.iaload, 1) := by decide +kernel
theorem dX8_billsOf_12 : decode cX8_billsOf 12 = .ok (.if_icmp .ge 27, 3) := by decide +kernel
theorem dX8_billsOf_15 : decode cX8_billsOf 15 = .ok (.iload_n 2, 1) := by decide +kernel
theorem dX8_billsOf_16 : decode cX8_billsOf 16 = .ok (.aload_n 0, 1) := by decide +kernel
theorem dX8_billsOf_17 : decode cX8_billsOf 17 = .ok (.iload_n 3, 1) := by decide +kernel
theorem dX8_billsOf_18 : decode cX8_billsOf 18 = .ok (.iconst 1, 1) := by decide +kernel
theorem dX8_billsOf_19 : decode cX8_billsOf 19 = .ok (.invokevirtual 48, 3) := by decide +kernel
theorem dX8_billsOf_22 : decode cX8_billsOf 22 = .ok (.iload_n 1, 1) := by decide +kernel
theorem dX8_billsOf_23 : decode cX8_billsOf 23 = .ok (.if_icmp .ne 7, 3) := by decide +kernel
theorem dX8_billsOf_26 : decode cX8_billsOf 26 = .ok (.iconst 1, 1) := by decide +kernel
theorem dX8_billsOf_27 : decode cX8_billsOf 27 = .ok (.goto 4, 3) := by decide +kernel
theorem dX8_billsOf_30 : decode cX8_billsOf 30 = .ok (.iconst 0, 1) := by decide +kernel
theorem dX8_billsOf_31 : decode cX8_billsOf 31 = .ok (.iadd, 1) := by decide +kernel
theorem dX8_billsOf_32 : decode cX8_billsOf 32 = .ok (.istore_n 2, 1) := by decide +kernel
theorem dX8_billsOf_33 : decode cX8_billsOf 33 = .ok (.iinc 3 1, 3) := by decide +kernel
theorem dX8_billsOf_36 : decode cX8_billsOf 36 = .ok (.goto (-32), 3) := by decide +kernel
theorem dX8_billsOf_39 : decode cX8_billsOf 39 = .ok (.iload_n 2, 1) := by decide +kernel
theorem dX8_billsOf_40 : decode cX8_billsOf 40 = .ok (.ireturn, 1) := by decide +kernel
theorem dX8_close_0 : decode cX8_close 0 = .ok (.aload_n 0, 1) := by decide +kernel
theorem dX8_close_1 : decode cX8_close 1 = .ok (.iload_n 1, 1) := by decide +kernel
theorem dX8_close_2 : decode cX8_close 2 = .ok (.invokevirtual 75, 3) := by decide +kernel
theorem dX8_close_5 : decode cX8_close 5 = .ok (.istore_n 2, 1) := by decide +kernel
theorem dX8_close_6 : decode cX8_close 6 = .ok (.iload_n 2, 1) := by decide +kernel
theorem dX8_close_7 : decode cX8_close 7 = .ok (.bipush (-6), 2) := by decide +kernel
theorem dX8_close_9 : decode cX8_close 9 = .ok (.if_icmp .ne 5, 3) := by decide +kernel
theorem dX8_close_12 : decode cX8_close 12 = .ok (.iconst (-1), 1) := by decide +kernel
theorem dX8_close_13 : decode cX8_close 13 = .ok (.ireturn, 1) := by decide +kernel
theorem dX8_close_14 : decode cX8_close 14 = .ok (.aload_n 0, 1) := by decide +kernel
theorem dX8_close_15 : decode cX8_close 15 = .ok (.iload_n 2, 1) := by decide +kernel
theorem dX8_close_16 : decode cX8_close 16 = .ok (.iconst 1, 1) := by decide +kernel
theorem dX8_close_17 : decode cX8_close 17 = .ok (.invokevirtual 34, 3) := by decide +kernel
theorem dX8_close_20 : decode cX8_close 20 = .ok (.ifCond .ne 11, 3) := by decide +kernel
theorem dX8_close_23 : decode cX8_close 23 = .ok (.aload_n 0, 1) := by decide +kernel
theorem dX8_close_24 : decode cX8_close 24 = .ok (.iload_n 1, 1) := by decide +kernel
theorem dX8_close_25 : decode cX8_close 25 = .ok (.invokevirtual 78, 3) := by decide +kernel
theorem dX8_close_28 : decode cX8_close 28 = .ok (.ifCond .le 6, 3) := by decide +kernel
theorem dX8_close_31 : decode cX8_close 31 = .ok (.bipush (-3), 2) := by decide +kernel
theorem dX8_close_33 : decode cX8_close 33 = .ok (.ireturn, 1) := by decide +kernel
theorem dX8_close_34 : decode cX8_close 34 = .ok (.aload_n 0, 1) := by decide +kernel
theorem dX8_close_35 : decode cX8_close 35 = .ok (.invokevirtual 72, 3) := by decide +kernel
theorem dX8_close_38 : decode cX8_close 38 = .ok (.aload_n 0, 1) := by decide +kernel
theorem dX8_close_39 : decode cX8_close 39 = .ok (.getfield 7, 3) := by decide +kernel
theorem dX8_close_42 : decode cX8_close 42 = .ok (.iconst 5, 1) := by decide +kernel
theorem dX8_close_43 : decode cX8_close 43 = .ok (.dup2, 1) := by decide +kernel
theorem dX8_close_44 : decode cX8_close 44 = .ok (.iaload, 1) := by decide +kernel
theorem dX8_close_45 : decode cX8_close 45 = .ok (.iconst 1, 1) := by decide +kernel
theorem dX8_close_46 : decode cX8_close 46 = .ok (.isub, 1) := by decide +kernel
theorem dX8_close_47 : decode cX8_close 47 = .ok (.iastore, 1) := by decide +kernel
theorem dX8_close_48 : decode cX8_close 48 = .ok (.iload_n 2, 1) := by decide +kernel
theorem dX8_close_49 : decode cX8_close 49 = .ok (.istore_n 3, 1) := by decide +kernel
theorem dX8_close_50 : decode cX8_close 50 = .ok (.iload_n 3, 1) := by decide +kernel
theorem dX8_close_51 : decode cX8_close 51 = .ok (.aload_n 0, 1) := by decide +kernel
theorem dX8_close_52 : decode cX8_close 52 = .ok (.getfield 7, 3) := by decide +kernel
theorem dX8_close_55 : decode cX8_close 55 = .ok (.iconst 5, 1) := by decide +kernel
theorem dX8_close_56 : decode cX8_close 56 = .ok (.iaload, 1) := by decide +kernel
theorem dX8_close_57 : decode cX8_close 57 = .ok (.if_icmp .ge 54, 3) := by decide +kernel
theorem dX8_close_60 : decode cX8_close 60 = .ok (.iconst 0, 1) := by decide +kernel
theorem dX8_close_61 : decode cX8_close 61 = .ok (.istore 4, 2) := by decide +kernel
theorem dX8_close_63 : decode cX8_close 63 = .ok (.iload 4, 2) := by decide +kernel
theorem dX8_close_65 : decode cX8_close 65 = .ok (.iconst 3, 1) := by decide +kernel
theorem dX8_close_66 : decode cX8_close 66 = .ok (.if_icmp .ge 25, 3) := by decide +kernel
theorem dX8_close_69 : decode cX8_close 69 = .ok (.aload_n 0, 1) := by decide +kernel
theorem dX8_close_70 : decode cX8_close 70 = .ok (.iload_n 3, 1) := by decide +kernel
theorem dX8_close_71 : decode cX8_close 71 = .ok (.iload 4, 2) := by decide +kernel
theorem dX8_close_73 : decode cX8_close 73 = .ok (.aload_n 0, 1) := by decide +kernel
theorem dX8_close_74 : decode cX8_close 74 = .ok (.iload_n 3, 1) := by decide +kernel
theorem dX8_close_75 : decode cX8_close 75 = .ok (.iconst 1, 1) := by decide +kernel
theorem dX8_close_76 : decode cX8_close 76 = .ok (.iadd, 1) := by decide +kernel
theorem dX8_close_77 : decode cX8_close 77 = .ok (.iload 4, 2) := by decide +kernel
theorem dX8_close_79 : decode cX8_close 79 = .ok (.invokevirtual 34, 3) := by decide +kernel
theorem dX8_close_82 : decode cX8_close 82 = .ok (.invokevirtual 63, 3) := by decide +kernel
theorem dX8_close_85 : decode cX8_close 85 = .ok (.iinc 4 1, 3) := by decide +kernel
theorem dX8_close_88 : decode cX8_close 88 = .ok (.goto (-25), 3) := by decide +kernel
theorem dX8_close_91 : decode cX8_close 91 = .ok (.aload_n 0, 1) := by decide +kernel
theorem dX8_close_92 : decode cX8_close 92 = .ok (.getfield 13, 3) := by decide +kernel
theorem dX8_close_95 : decode cX8_close 95 = .ok (.iload_n 3, 1) := by decide +kernel
theorem dX8_close_96 : decode cX8_close 96 = .ok (.aload_n 0, 1) := by decide +kernel
theorem dX8_close_97 : decode cX8_close 97 = .ok (.getfield 13, 3) := by decide +kernel
theorem dX8_close_100 : decode cX8_close 100 = .ok (.iload_n 3, 1) := by decide +kernel
theorem dX8_close_101 : decode cX8_close 101 = .ok (.iconst 1, 1) := by decide +kernel
theorem dX8_close_102 : decode cX8_close 102 = .ok (.iadd, 1) := by decide +kernel
theorem dX8_close_103 : decode cX8_close 103 = .ok (.laload, 1) := by decide +kernel
theorem dX8_close_104 : decode cX8_close 104 = .ok (.lastore, 1) := by decide +kernel
theorem dX8_close_105 : decode cX8_close 105 = .ok (.iinc 3 1, 3) := by decide +kernel
theorem dX8_close_108 : decode cX8_close 108 = .ok (.goto (-58), 3) := by decide +kernel
theorem dX8_close_111 : decode cX8_close 111 = .ok (.iconst 0, 1) := by decide +kernel
theorem dX8_close_112 : decode cX8_close 112 = .ok (.istore_n 3, 1) := by decide +kernel
theorem dX8_close_113 : decode cX8_close 113 = .ok (.iload_n 3, 1) := by decide +kernel
theorem dX8_close_114 : decode cX8_close 114 = .ok (.iconst 3, 1) := by decide +kernel
theorem dX8_close_115 : decode cX8_close 115 = .ok (.if_icmp .ge 21, 3) := by decide +kernel
theorem dX8_close_118 : decode cX8_close 118 = .ok (.aload_n 0, 1) := by decide +kernel
theorem dX8_close_119 : decode cX8_close 119 = .ok (.aload_n 0, 1) := by decide +kernel
theorem dX8_close_120 : decode cX8_close 120 = .ok (.getfield 7, 3) := by decide +kernel
theorem dX8_close_123 : decode cX8_close 123 = .ok (.iconst 5, 1) := by decide +kernel
theorem dX8_close_124 : decode cX8_close 124 = .ok (.iaload, 1) := by decide +kernel
theorem dX8_close_125 : decode cX8_close 125 = .ok (.iload_n 3, 1) := by decide +kernel
theorem dX8_close_126 : decode cX8_close 126 = .ok (.iconst 0, 1) := by decide +kernel
theorem dX8_close_127 : decode cX8_close 127 = .ok (.invokevirtual 63, 3) := by decide +kernel
theorem dX8_close_130 : decode cX8_close 130 = .ok (.iinc 3 1, 3) := by decide +kernel
theorem dX8_close_133 : decode cX8_close 133 = .ok (.goto (-20), 3) := by decide +kernel
theorem dX8_close_136 : decode cX8_close 136 = .ok (.aload_n 0, 1) := by decide +kernel
theorem dX8_close_137 : decode cX8_close 137 = .ok (.getfield 13, 3) := by decide +kernel
theorem dX8_close_140 : decode cX8_close 140 = .ok (.aload_n 0, 1) := by decide +kernel
theorem dX8_close_141 : decode cX8_close 141 = .ok (.getfield 7, 3) := by decide +kernel
theorem dX8_close_144 : decode cX8_close 144 = .ok (.iconst 5, 1) := by decide +kernel
theorem dX8_close_145 : decode cX8_close 145 = .ok (.iaload, 1) := by decide +kernel
theorem dX8_close_146 : decode cX8_close 146 = .ok (.lconst 0, 1) := by decide +kernel
theorem dX8_close_147 : decode cX8_close 147 = .ok (.lastore, 1) := by decide +kernel
theorem dX8_close_148 : decode cX8_close 148 = .ok (.aload_n 0, 1) := by decide +kernel
theorem dX8_close_149 : decode cX8_close 149 = .ok (.getfield 7, 3) := by decide +kernel
theorem dX8_close_152 : decode cX8_close 152 = .ok (.iconst 5, 1) := by decide +kernel
theorem dX8_close_153 : decode cX8_close 153 = .ok (.iaload, 1) := by decide +kernel
theorem dX8_close_154 : decode cX8_close 154 = .ok (.ireturn, 1) := by decide +kernel
theorem dX8_isAmount_0 : decode cX8_isAmount 0 = .ok (.iload_n 0, 1) := by decide +kernel
theorem dX8_isAmount_1 : decode cX8_isAmount 1 = .ok (.iconst 1, 1) := by decide +kernel
theorem dX8_isAmount_2 : decode cX8_isAmount 2 = .ok (.ldc 81, 2) := by decide +kernel
theorem dX8_isAmount_4 : decode cX8_isAmount 4 = .ok (.invokestatic 67, 3) := by decide +kernel
theorem dX8_isAmount_7 : decode cX8_isAmount 7 = .ok (.ireturn, 1) := by decide +kernel
theorem dX8_hasRoom_0 : decode cX8_hasRoom 0 = .ok (.aload_n 0, 1) := by decide +kernel
theorem dX8_hasRoom_1 : decode cX8_hasRoom 1 = .ok (.iload_n 1, 1) := by decide +kernel
theorem dX8_hasRoom_2 : decode cX8_hasRoom 2 = .ok (.iconst 1, 1) := by decide +kernel
theorem dX8_hasRoom_3 : decode cX8_hasRoom 3 = .ok (.invokevirtual 34, 3) := by decide +kernel
theorem dX8_hasRoom_6 : decode cX8_hasRoom 6 = .ok (.ldc 71, 2) := by decide +kernel
theorem dX8_hasRoom_8 : decode cX8_hasRoom 8 = .ok (.iload_n 2, 1) := by decide +kernel
theorem dX8_hasRoom_9 : decode cX8_hasRoom 9 = .ok (.isub, 1) := by decide +kernel
theorem dX8_hasRoom_10 : decode cX8_hasRoom 10 = .ok (.if_icmp .gt 7, 3) := by decide +kernel
theorem dX8_hasRoom_13 : decode cX8_hasRoom 13 = .ok (.iconst 1, 1) := by decide +kernel
theorem dX8_hasRoom_14 : decode cX8_hasRoom 14 = .ok (.goto 4, 3) := by decide +kernel
theorem dX8_hasRoom_17 : decode cX8_hasRoom 17 = .ok (.iconst 0, 1) := by decide +kernel
theorem dX8_hasRoom_18 : decode cX8_hasRoom 18 = .ok (.ireturn, 1) := by decide +kernel
theorem dX8_adds_0 : decode cX8_adds 0 = .ok (.aload_n 0, 1) := by decide +kernel
theorem dX8_adds_1 : decode cX8_adds 1 = .ok (.iload_n 1, 1) := by decide +kernel
theorem dX8_adds_2 : decode cX8_adds 2 = .ok (.iconst 1, 1) := by decide +kernel
theorem dX8_adds_3 : decode cX8_adds 3 = .ok (.aload_n 0, 1) := by decide +kernel
theorem dX8_adds_4 : decode cX8_adds 4 = .ok (.iload_n 1, 1) := by decide +kernel
theorem dX8_adds_5 : decode cX8_adds 5 = .ok (.iconst 1, 1) := by decide +kernel
theorem dX8_adds_6 : decode cX8_adds 6 = .ok (.invokevirtual 34, 3) := by decide +kernel
theorem dX8_adds_9 : decode cX8_adds 9 = .ok (.iload_n 2, 1) := by decide +kernel
theorem dX8_adds_10 : decode cX8_adds 10 = .ok (.iadd, 1) := by decide +kernel
theorem dX8_adds_11 : decode cX8_adds 11 = .ok (.invokevirtual 63, 3) := by decide +kernel
theorem dX8_adds_14 : decode cX8_adds 14 = .ok (.aload_n 0, 1) := by decide +kernel
theorem dX8_adds_15 : decode cX8_adds 15 = .ok (.iload_n 1, 1) := by decide +kernel
theorem dX8_adds_16 : decode cX8_adds 16 = .ok (.iconst 1, 1) := by decide +kernel
theorem dX8_adds_17 : decode cX8_adds 17 = .ok (.invokevirtual 34, 3) := by decide +kernel
theorem dX8_adds_20 : decode cX8_adds 20 = .ok (.ireturn, 1) := by decide +kernel
theorem dX8_whyNotReceived_0 : decode cX8_whyNotReceived 0 = .ok (.aload_n 0, 1) := by decide +kernel
theorem dX8_whyNotReceived_1 : decode cX8_whyNotReceived 1 = .ok (.iload_n 1, 1) := by decide +kernel
theorem dX8_whyNotReceived_2 : decode cX8_whyNotReceived 2 = .ok (.invokevirtual 75, 3) := by decide +kernel
theorem dX8_whyNotReceived_5 : decode cX8_whyNotReceived 5 = .ok (.istore_n 3, 1) := by decide +kernel
theorem dX8_whyNotReceived_6 : decode cX8_whyNotReceived 6 = .ok (.iload_n 3, 1) := by decide +kernel
theorem dX8_whyNotReceived_7 : decode cX8_whyNotReceived 7 = .ok (.bipush (-6), 2) := by decide +kernel
theorem dX8_whyNotReceived_9 : decode cX8_whyNotReceived 9 = .ok (.if_icmp .ne 7, 3) := by decide +kernel
theorem dX8_whyNotReceived_12 : decode cX8_whyNotReceived 12 = .ok (.iconst (-1), 1) := by decide +kernel
theorem dX8_whyNotReceived_13 : decode cX8_whyNotReceived 13 = .ok (.goto 30, 3) := by decide +kernel
theorem dX8_whyNotReceived_16 : decode cX8_whyNotReceived 16 = .ok (.iload_n 2, 1) := by decide +kernel
theorem dX8_whyNotReceived_17 : decode cX8_whyNotReceived 17 = .ok (.invokestatic 82, 3) := by decide +kernel
theorem dX8_whyNotReceived_20 : decode cX8_whyNotReceived 20 = .ok (.ifCond .ne 8, 3) := by decide +kernel
theorem dX8_whyNotReceived_23 : decode cX8_whyNotReceived 23 = .ok (.bipush (-2), 2) := by decide +kernel
theorem dX8_whyNotReceived_25 : decode cX8_whyNotReceived 25 = .ok (.goto 18, 3) := by decide +kernel
theorem dX8_whyNotReceived_28 : decode cX8_whyNotReceived 28 = .ok (.aload_n 0, 1) := by decide +kernel
theorem dX8_whyNotReceived_29 : decode cX8_whyNotReceived 29 = .ok (.iload_n 3, 1) := by decide +kernel
theorem dX8_whyNotReceived_30 : decode cX8_whyNotReceived 30 = .ok (.iload_n 2, 1) := by decide +kernel
theorem dX8_whyNotReceived_31 : decode cX8_whyNotReceived 31 = .ok (.invokevirtual 86, 3) := by decide +kernel
theorem dX8_whyNotReceived_34 : decode cX8_whyNotReceived 34 = .ok (.ifCond .eq 7, 3) := by decide +kernel
theorem dX8_whyNotReceived_37 : decode cX8_whyNotReceived 37 = .ok (.iconst 0, 1) := by decide +kernel
theorem dX8_whyNotReceived_38 : decode cX8_whyNotReceived 38 = .ok (.goto 5, 3) := by decide +kernel
theorem dX8_whyNotReceived_41 : decode cX8_whyNotReceived 41 = .ok (.bipush (-4), 2) := by decide +kernel
theorem dX8_whyNotReceived_43 : decode cX8_whyNotReceived 43 = .ok (.ireturn, 1) := by decide +kernel
theorem dX8_receives_0 : decode cX8_receives 0 = .ok (.aload_n 0, 1) := by decide +kernel
theorem dX8_receives_1 : decode cX8_receives 1 = .ok (.getfield 13, 3) := by decide +kernel
theorem dX8_receives_4 : decode cX8_receives 4 = .ok (.bipush 14, 2) := by decide +kernel
theorem dX8_receives_6 : decode cX8_receives 6 = .ok (.dup2, 1) := by decide +kernel
theorem dX8_receives_7 : decode cX8_receives 7 = .ok (.laload, 1) := by decide +kernel
theorem dX8_receives_8 : decode cX8_receives 8 = .ok (.iload_n 2, 1) := by decide +kernel
theorem dX8_receives_9 : decode cX8_receives 9 = .ok (.i2l, 1) := by decide +kernel
theorem dX8_receives_10 : decode cX8_receives 10 = .ok (.ladd, 1) := by decide +kernel
theorem dX8_receives_11 : decode cX8_receives 11 = .ok (.lastore, 1) := by decide +kernel
theorem dX8_receives_12 : decode cX8_receives 12 = .ok (.aload_n 0, 1) := by decide +kernel
theorem dX8_receives_13 : decode cX8_receives 13 = .ok (.aload_n 0, 1) := by decide +kernel
theorem dX8_receives_14 : decode cX8_receives 14 = .ok (.iload_n 1, 1) := by decide +kernel
theorem dX8_receives_15 : decode cX8_receives 15 = .ok (.invokevirtual 75, 3) := by decide +kernel
theorem dX8_receives_18 : decode cX8_receives 18 = .ok (.iload_n 2, 1) := by decide +kernel
theorem dX8_receives_19 : decode cX8_receives 19 = .ok (.invokevirtual 90, 3) := by decide +kernel
theorem dX8_receives_22 : decode cX8_receives 22 = .ok (.istore_n 3, 1) := by decide +kernel
theorem dX8_receives_23 : decode cX8_receives 23 = .ok (.aload_n 0, 1) := by decide +kernel
theorem dX8_receives_24 : decode cX8_receives 24 = .ok (.iconst 1, 1) := by decide +kernel
theorem dX8_receives_25 : decode cX8_receives 25 = .ok (.iload_n 1, 1) := by decide +kernel
theorem dX8_receives_26 : decode cX8_receives 26 = .ok (.iconst 0, 1) := by decide +kernel
theorem dX8_receives_27 : decode cX8_receives 27 = .ok (.iload_n 2, 1) := by decide +kernel
theorem dX8_receives_28 : decode cX8_receives 28 = .ok (.invokevirtual 93, 3) := by decide +kernel
theorem dX8_receives_31 : decode cX8_receives 31 = .ok (.pop, 1) := by decide +kernel
theorem dX8_receives_32 : decode cX8_receives 32 = .ok (.iload_n 3, 1) := by decide +kernel
theorem dX8_receives_33 : decode cX8_receives 33 = .ok (.ireturn, 1) := by decide +kernel
theorem dX8_receive_0 : decode cX8_receive 0 = .ok (.aload_n 0, 1) := by decide +kernel
theorem dX8_receive_1 : decode cX8_receive 1 = .ok (.iload_n 1, 1) := by decide +kernel
theorem dX8_receive_2 : decode cX8_receive 2 = .ok (.iload_n 2, 1) := by decide +kernel
theorem dX8_receive_3 : decode cX8_receive 3 = .ok (.invokevirtual 97, 3) := by decide +kernel
theorem dX8_receive_6 : decode cX8_receive 6 = .ok (.istore_n 3, 1) := by decide +kernel
theorem dX8_receive_7 : decode cX8_receive 7 = .ok (.iload_n 3, 1) := by decide +kernel
theorem dX8_receive_8 : decode cX8_receive 8 = .ok (.ifCond .ge 5, 3) := by decide +kernel
theorem dX8_receive_11 : decode cX8_receive 11 = .ok (.iload_n 3, 1) := by decide +kernel
theorem dX8_receive_12 : decode cX8_receive 12 = .ok (.ireturn, 1) := by decide +kernel
theorem dX8_receive_13 : decode cX8_receive 13 = .ok (.aload_n 0, 1) := by decide +kernel
theorem dX8_receive_14 : decode cX8_receive 14 = .ok (.invokevirtual 72, 3) := by decide +kernel
theorem dX8_receive_17 : decode cX8_receive 17 = .ok (.aload_n 0, 1) := by decide +kernel
theorem dX8_receive_18 : decode cX8_receive 18 = .ok (.iload_n 1, 1) := by decide +kernel
theorem dX8_receive_19 : decode cX8_receive 19 = .ok (.iload_n 2, 1) := by decide +kernel
theorem dX8_receive_20 : decode cX8_receive 20 = .ok (.invokevirtual 100, 3) := by decide +kernel
theorem dX8_receive_23 : decode cX8_receive 23 = .ok (.ireturn, 1) := by decide +kernel
theorem dX8_whyNotPaid_0 : decode cX8_whyNotPaid 0 = .ok (.aload_n 0, 1) := by decide +kernel
theorem dX8_whyNotPaid_1 : decode cX8_whyNotPaid 1 = .ok (.iload_n 1, 1) := by decide +kernel
theorem dX8_whyNotPaid_2 : decode cX8_whyNotPaid 2 = .ok (.invokevirtual 75, 3) := by decide +kernel
theorem dX8_whyNotPaid_5 : decode cX8_whyNotPaid 5 = .ok (.istore_n 3, 1) := by decide +kernel
theorem dX8_whyNotPaid_6 : decode cX8_whyNotPaid 6 = .ok (.iload_n 3, 1) := by decide +kernel
theorem dX8_whyNotPaid_7 : decode cX8_whyNotPaid 7 = .ok (.bipush (-6), 2) := by decide +kernel
theorem dX8_whyNotPaid_9 : decode cX8_whyNotPaid 9 = .ok (.if_icmp .ne 7, 3) := by decide +kernel
theorem dX8_whyNotPaid_12 : decode cX8_whyNotPaid 12 = .ok (.iconst (-1), 1) := by decide +kernel
theorem dX8_whyNotPaid_13 : decode cX8_whyNotPaid 13 = .ok (.goto 30, 3) := by decide +kernel
theorem dX8_whyNotPaid_16 : decode cX8_whyNotPaid 16 = .ok (.iload_n 2, 1) := by decide +kernel
theorem dX8_whyNotPaid_17 : decode cX8_whyNotPaid 17 = .ok (.invokestatic 82, 3) := by decide +kernel
theorem dX8_whyNotPaid_20 : decode cX8_whyNotPaid 20 = .ok (.ifCond .ne 8, 3) := by decide +kernel
theorem dX8_whyNotPaid_23 : decode cX8_whyNotPaid 23 = .ok (.bipush (-2), 2) := by decide +kernel
theorem dX8_whyNotPaid_25 : decode cX8_whyNotPaid 25 = .ok (.goto 18, 3) := by decide +kernel
theorem dX8_whyNotPaid_28 : decode cX8_whyNotPaid 28 = .ok (.aload_n 0, 1) := by decide +kernel
theorem dX8_whyNotPaid_29 : decode cX8_whyNotPaid 29 = .ok (.iload_n 3, 1) := by decide +kernel
theorem dX8_whyNotPaid_30 : decode cX8_whyNotPaid 30 = .ok (.invokevirtual 103, 3) := by decide +kernel
theorem dX8_whyNotPaid_33 : decode cX8_whyNotPaid 33 = .ok (.iload_n 2, 1) := by decide +kernel
theorem dX8_whyNotPaid_34 : decode cX8_whyNotPaid 34 = .ok (.if_icmp .ge 8, 3) := by decide +kernel
theorem dX8_whyNotPaid_37 : decode cX8_whyNotPaid 37 = .ok (.bipush (-3), 2) := by decide +kernel
theorem dX8_whyNotPaid_39 : decode cX8_whyNotPaid 39 = .ok (.goto 4, 3) := by decide +kernel
theorem dX8_whyNotPaid_42 : decode cX8_whyNotPaid 42 = .ok (.iconst 0, 1) := by decide +kernel
theorem dX8_whyNotPaid_43 : decode cX8_whyNotPaid 43 = .ok (.ireturn, 1) := by decide +kernel
theorem dX8_pays_0 : decode cX8_pays 0 = .ok (.aload_n 0, 1) := by decide +kernel
theorem dX8_pays_1 : decode cX8_pays 1 = .ok (.getfield 13, 3) := by decide +kernel
theorem dX8_pays_4 : decode cX8_pays 4 = .ok (.bipush 15, 2) := by decide +kernel
theorem dX8_pays_6 : decode cX8_pays 6 = .ok (.dup2, 1) := by decide +kernel
theorem dX8_pays_7 : decode cX8_pays 7 = .ok (.laload, 1) := by decide +kernel
theorem dX8_pays_8 : decode cX8_pays 8 = .ok (.iload_n 2, 1) := by decide +kernel
theorem dX8_pays_9 : decode cX8_pays 9 = .ok (.i2l, 1) := by decide +kernel
theorem dX8_pays_10 : decode cX8_pays 10 = .ok (.ladd, 1) := by decide +kernel
theorem dX8_pays_11 : decode cX8_pays 11 = .ok (.lastore, 1) := by decide +kernel
theorem dX8_pays_12 : decode cX8_pays 12 = .ok (.aload_n 0, 1) := by decide +kernel
theorem dX8_pays_13 : decode cX8_pays 13 = .ok (.aload_n 0, 1) := by decide +kernel
theorem dX8_pays_14 : decode cX8_pays 14 = .ok (.iload_n 1, 1) := by decide +kernel
theorem dX8_pays_15 : decode cX8_pays 15 = .ok (.invokevirtual 75, 3) := by decide +kernel
theorem dX8_pays_18 : decode cX8_pays 18 = .ok (.iload_n 2, 1) := by decide +kernel
theorem dX8_pays_19 : decode cX8_pays 19 = .ok (.ineg, 1) := by decide +kernel
theorem dX8_pays_20 : decode cX8_pays 20 = .ok (.invokevirtual 90, 3) := by decide +kernel
theorem dX8_pays_23 : decode cX8_pays 23 = .ok (.istore_n 3, 1) := by decide +kernel
theorem dX8_pays_24 : decode cX8_pays 24 = .ok (.aload_n 0, 1) := by decide +kernel
theorem dX8_pays_25 : decode cX8_pays 25 = .ok (.iconst 2, 1) := by decide +kernel
theorem dX8_pays_26 : decode cX8_pays 26 = .ok (.iload_n 1, 1) := by decide +kernel
theorem dX8_pays_27 : decode cX8_pays 27 = .ok (.iconst 0, 1) := by decide +kernel
theorem dX8_pays_28 : decode cX8_pays 28 = .ok (.iload_n 2, 1) := by decide +kernel
theorem dX8_pays_29 : decode cX8_pays 29 = .ok (.invokevirtual 93, 3) := by decide +kernel
theorem dX8_pays_32 : decode cX8_pays 32 = .ok (.pop, 1) := by decide +kernel
theorem dX8_pays_33 : decode cX8_pays 33 = .ok (.iload_n 3, 1) := by decide +kernel
theorem dX8_pays_34 : decode cX8_pays 34 = .ok (.ireturn, 1) := by decide +kernel
theorem dX8_pay_0 : decode cX8_pay 0 = .ok (.aload_n 0, 1) := by decide +kernel
theorem dX8_pay_1 : decode cX8_pay 1 = .ok (.iload_n 1, 1) := by decide +kernel
theorem dX8_pay_2 : decode cX8_pay 2 = .ok (.iload_n 2, 1) := by decide +kernel
theorem dX8_pay_3 : decode cX8_pay 3 = .ok (.invokevirtual 106, 3) := by decide +kernel
theorem dX8_pay_6 : decode cX8_pay 6 = .ok (.istore_n 3, 1) := by decide +kernel
theorem dX8_pay_7 : decode cX8_pay 7 = .ok (.iload_n 3, 1) := by decide +kernel
theorem dX8_pay_8 : decode cX8_pay 8 = .ok (.ifCond .ge 5, 3) := by decide +kernel
theorem dX8_pay_11 : decode cX8_pay 11 = .ok (.iload_n 3, 1) := by decide +kernel
theorem dX8_pay_12 : decode cX8_pay 12 = .ok (.ireturn, 1) := by decide +kernel
theorem dX8_pay_13 : decode cX8_pay 13 = .ok (.aload_n 0, 1) := by decide +kernel
theorem dX8_pay_14 : decode cX8_pay 14 = .ok (.invokevirtual 72, 3) := by decide +kernel
theorem dX8_pay_17 : decode cX8_pay 17 = .ok (.aload_n 0, 1) := by decide +kernel
theorem dX8_pay_18 : decode cX8_pay 18 = .ok (.iload_n 1, 1) := by decide +kernel
theorem dX8_pay_19 : decode cX8_pay 19 = .ok (.iload_n 2, 1) := by decide +kernel
theorem dX8_pay_20 : decode cX8_pay 20 = .ok (.invokevirtual 109, 3) := by decide +kernel
theorem dX8_pay_23 : decode cX8_pay 23 = .ok (.ireturn, 1) := by decide +kernel
theorem dX8_whyNotMoved_0 : decode cX8_whyNotMoved 0 = .ok (.aload_n 0, 1) := by decide +kernel
theorem dX8_whyNotMoved_1 : decode cX8_whyNotMoved 1 = .ok (.iload_n 1, 1) := by decide +kernel
theorem dX8_whyNotMoved_2 : decode cX8_whyNotMoved 2 = .ok (.invokevirtual 75, 3) := by decide +kernel
theorem dX8_whyNotMoved_5 : decode cX8_whyNotMoved 5 = .ok (.istore 4, 2) := by decide +kernel
theorem dX8_whyNotMoved_7 : decode cX8_whyNotMoved 7 = .ok (.aload_n 0, 1) := by decide +kernel
theorem dX8_whyNotMoved_8 : decode cX8_whyNotMoved 8 = .ok (.iload_n 2, 1) := by decide +kernel
theorem dX8_whyNotMoved_9 : decode cX8_whyNotMoved 9 = .ok (.invokevirtual 75, 3) := by decide +kernel
theorem dX8_whyNotMoved_12 : decode cX8_whyNotMoved 12 = .ok (.istore 5, 2) := by decide +kernel
theorem dX8_whyNotMoved_14 : decode cX8_whyNotMoved 14 = .ok (.iload 4, 2) := by decide +kernel
theorem dX8_whyNotMoved_16 : decode cX8_whyNotMoved 16 = .ok (.bipush (-6), 2) := by decide +kernel
theorem dX8_whyNotMoved_18 : decode cX8_whyNotMoved 18 = .ok (.if_icmp .eq 10, 3) := by decide +kernel
theorem dX8_whyNotMoved_21 : decode cX8_whyNotMoved 21 = .ok (.iload 5, 2) := by decide +kernel
theorem dX8_whyNotMoved_23 : decode cX8_whyNotMoved 23 = .ok (.bipush (-6), 2) := by decide +kernel
theorem dX8_whyNotMoved_25 : decode cX8_whyNotMoved 25 = .ok (.if_icmp .ne 5, 3) := by decide +kernel
theorem dX8_whyNotMoved_28 : decode cX8_whyNotMoved 28 = .ok (.iconst (-1), 1) := by decide +kernel
theorem dX8_whyNotMoved_29 : decode cX8_whyNotMoved 29 = .ok (.ireturn, 1) := by decide +kernel
theorem dX8_whyNotMoved_30 : decode cX8_whyNotMoved 30 = .ok (.iload_n 1, 1) := by decide +kernel
theorem dX8_whyNotMoved_31 : decode cX8_whyNotMoved 31 = .ok (.iload_n 2, 1) := by decide +kernel
theorem dX8_whyNotMoved_32 : decode cX8_whyNotMoved 32 = .ok (.if_icmp .eq 10, 3) := by decide +kernel
theorem dX8_whyNotMoved_35 : decode cX8_whyNotMoved 35 = .ok (.iload_n 3, 1) := by decide +kernel
theorem dX8_whyNotMoved_36 : decode cX8_whyNotMoved 36 = .ok (.invokestatic 82, 3) := by decide +kernel
theorem dX8_whyNotMoved_39 : decode cX8_whyNotMoved 39 = .ok (.ifCond .ne 6, 3) := by decide +kernel
theorem dX8_whyNotMoved_42 : decode cX8_whyNotMoved 42 = .ok (.bipush (-2), 2) := by decide +kernel
theorem dX8_whyNotMoved_44 : decode cX8_whyNotMoved 44 = .ok (.ireturn, 1) := by decide +kernel
theorem dX8_whyNotMoved_45 : decode cX8_whyNotMoved 45 = .ok (.aload_n 0, 1) := by decide +kernel
theorem dX8_whyNotMoved_46 : decode cX8_whyNotMoved 46 = .ok (.iload 4, 2) := by decide +kernel
theorem dX8_whyNotMoved_48 : decode cX8_whyNotMoved 48 = .ok (.invokevirtual 103, 3) := by decide +kernel
theorem dX8_whyNotMoved_51 : decode cX8_whyNotMoved 51 = .ok (.iload_n 3, 1) := by decide +kernel
theorem dX8_whyNotMoved_52 : decode cX8_whyNotMoved 52 = .ok (.if_icmp .ge 8, 3) := by decide +kernel
theorem dX8_whyNotMoved_55 : decode cX8_whyNotMoved 55 = .ok (.bipush (-3), 2) := by decide +kernel
theorem dX8_whyNotMoved_57 : decode cX8_whyNotMoved 57 = .ok (.goto 19, 3) := by decide +kernel
theorem dX8_whyNotMoved_60 : decode cX8_whyNotMoved 60 = .ok (.aload_n 0, 1) := by decide +kernel
theorem dX8_whyNotMoved_61 : decode cX8_whyNotMoved 61 = .ok (.iload 5, 2) := by decide +kernel
theorem dX8_whyNotMoved_63 : decode cX8_whyNotMoved 63 = .ok (.iload_n 3, 1) := by decide +kernel
theorem dX8_whyNotMoved_64 : decode cX8_whyNotMoved 64 = .ok (.invokevirtual 86, 3) := by decide +kernel
theorem dX8_whyNotMoved_67 : decode cX8_whyNotMoved 67 = .ok (.ifCond .eq 7, 3) := by decide +kernel
theorem dX8_whyNotMoved_70 : decode cX8_whyNotMoved 70 = .ok (.iconst 0, 1) := by decide +kernel
theorem dX8_whyNotMoved_71 : decode cX8_whyNotMoved 71 = .ok (.goto 5, 3) := by decide +kernel
theorem dX8_whyNotMoved_74 : decode cX8_whyNotMoved 74 = .ok (.bipush (-4), 2) := by decide +kernel
theorem dX8_whyNotMoved_76 : decode cX8_whyNotMoved 76 = .ok (.ireturn, 1) := by decide +kernel
theorem dX8_transfers_0 : decode cX8_transfers 0 = .ok (.aload_n 0, 1) := by decide +kernel
theorem dX8_transfers_1 : decode cX8_transfers 1 = .ok (.aload_n 0, 1) := by decide +kernel
theorem dX8_transfers_2 : decode cX8_transfers 2 = .ok (.iload_n 1, 1) := by decide +kernel
theorem dX8_transfers_3 : decode cX8_transfers 3 = .ok (.invokevirtual 75, 3) := by decide +kernel
theorem dX8_transfers_6 : decode cX8_transfers 6 = .ok (.iload_n 3, 1) := by decide +kernel
theorem dX8_transfers_7 : decode cX8_transfers 7 = .ok (.ineg, 1) := by decide +kernel
theorem dX8_transfers_8 : decode cX8_transfers 8 = .ok (.invokevirtual 90, 3) := by decide +kernel
theorem dX8_transfers_11 : decode cX8_transfers 11 = .ok (.istore 4, 2) := by decide +kernel
theorem dX8_transfers_13 : decode cX8_transfers 13 = .ok (.aload_n 0, 1) := by decide +kernel
theorem dX8_transfers_14 : decode cX8_transfers 14 = .ok (.aload_n 0, 1) := by decide +kernel
theorem dX8_transfers_15 : decode cX8_transfers 15 = .ok (.iload_n 2, 1) := by decide +kernel
theorem dX8_transfers_16 : decode cX8_transfers 16 = .ok (.invokevirtual 75, 3) := by decide +kernel
theorem dX8_transfers_19 : decode cX8_transfers 19 = .ok (.iload_n 3, 1) := by decide +kernel
theorem dX8_transfers_20 : decode cX8_transfers 20 = .ok (.invokevirtual 90, 3) := by decide +kernel
theorem dX8_transfers_23 : decode cX8_transfers 23 = .ok (.pop, 1) := by decide +kernel
theorem dX8_transfers_24 : decode cX8_transfers 24 = .ok (.aload_n 0, 1) := by decide +kernel
theorem dX8_transfers_25 : decode cX8_transfers 25 = .ok (.iconst 3, 1) := by decide +kernel
theorem dX8_transfers_26 : decode cX8_transfers 26 = .ok (.iload_n 1, 1) := by decide +kernel
theorem dX8_transfers_27 : decode cX8_transfers 27 = .ok (.iload_n 2, 1) := by decide +kernel
theorem dX8_transfers_28 : decode cX8_transfers 28 = .ok (.iload_n 3, 1) := by decide +kernel
theorem dX8_transfers_29 : decode cX8_transfers 29 = .ok (.invokevirtual 93, 3) := by decide +kernel
theorem dX8_transfers_32 : decode cX8_transfers 32 = .ok (.pop, 1) := by decide +kernel
theorem dX8_transfers_33 : decode cX8_transfers 33 = .ok (.iload 4, 2) := by decide +kernel
theorem dX8_transfers_35 : decode cX8_transfers 35 = .ok (.ireturn, 1) := by decide +kernel
theorem dX8_transfer_0 : decode cX8_transfer 0 = .ok (.aload_n 0, 1) := by decide +kernel
theorem dX8_transfer_1 : decode cX8_transfer 1 = .ok (.iload_n 1, 1) := by decide +kernel
theorem dX8_transfer_2 : decode cX8_transfer 2 = .ok (.iload_n 2, 1) := by decide +kernel
theorem dX8_transfer_3 : decode cX8_transfer 3 = .ok (.iload_n 3, 1) := by decide +kernel
theorem dX8_transfer_4 : decode cX8_transfer 4 = .ok (.invokevirtual 112, 3) := by decide +kernel
theorem dX8_transfer_7 : decode cX8_transfer 7 = .ok (.istore 4, 2) := by decide +kernel
theorem dX8_transfer_9 : decode cX8_transfer 9 = .ok (.iload 4, 2) := by decide +kernel
theorem dX8_transfer_11 : decode cX8_transfer 11 = .ok (.ifCond .ge 6, 3) := by decide +kernel
theorem dX8_transfer_14 : decode cX8_transfer 14 = .ok (.iload 4, 2) := by decide +kernel
theorem dX8_transfer_16 : decode cX8_transfer 16 = .ok (.ireturn, 1) := by decide +kernel
theorem dX8_transfer_17 : decode cX8_transfer 17 = .ok (.aload_n 0, 1) := by decide +kernel
theorem dX8_transfer_18 : decode cX8_transfer 18 = .ok (.invokevirtual 72, 3) := by decide +kernel
theorem dX8_transfer_21 : decode cX8_transfer 21 = .ok (.aload_n 0, 1) := by decide +kernel
theorem dX8_transfer_22 : decode cX8_transfer 22 = .ok (.iload_n 1, 1) := by decide +kernel
theorem dX8_transfer_23 : decode cX8_transfer 23 = .ok (.iload_n 2, 1) := by decide +kernel
theorem dX8_transfer_24 : decode cX8_transfer 24 = .ok (.iload_n 3, 1) := by decide +kernel
theorem dX8_transfer_25 : decode cX8_transfer 25 = .ok (.invokevirtual 116, 3) := by decide +kernel
theorem dX8_transfer_28 : decode cX8_transfer 28 = .ok (.ireturn, 1) := by decide +kernel
theorem dX8_hold_0 : decode cX8_hold 0 = .ok (.aload_n 0, 1) := by decide +kernel
theorem dX8_hold_1 : decode cX8_hold 1 = .ok (.iload_n 1, 1) := by decide +kernel
theorem dX8_hold_2 : decode cX8_hold 2 = .ok (.invokevirtual 75, 3) := by decide +kernel
theorem dX8_hold_5 : decode cX8_hold 5 = .ok (.istore 4, 2) := by decide +kernel
theorem dX8_hold_7 : decode cX8_hold 7 = .ok (.iload 4, 2) := by decide +kernel
theorem dX8_hold_9 : decode cX8_hold 9 = .ok (.bipush (-6), 2) := by decide +kernel
theorem dX8_hold_11 : decode cX8_hold 11 = .ok (.if_icmp .ne 5, 3) := by decide +kernel
theorem dX8_hold_14 : decode cX8_hold 14 = .ok (.iconst (-1), 1) := by decide +kernel
theorem dX8_hold_15 : decode cX8_hold 15 = .ok (.ireturn, 1) := by decide +kernel
theorem dX8_hold_16 : decode cX8_hold 16 = .ok (.iload_n 2, 1) := by decide +kernel
theorem dX8_hold_17 : decode cX8_hold 17 = .ok (.invokestatic 82, 3) := by decide +kernel
theorem dX8_hold_20 : decode cX8_hold 20 = .ok (.ifCond .eq 14, 3) := by decide +kernel
theorem dX8_hold_23 : decode cX8_hold 23 = .ok (.iload_n 3, 1) := by decide +kernel
theorem dX8_hold_24 : decode cX8_hold 24 = .ok (.iconst 1, 1) := by decide +kernel
theorem dX8_hold_25 : decode cX8_hold 25 = .ok (.sipush 999, 3) := by decide +kernel
theorem dX8_hold_28 : decode cX8_hold 28 = .ok (.invokestatic 67, 3) := by decide +kernel
theorem dX8_hold_31 : decode cX8_hold 31 = .ok (.ifCond .ne 6, 3) := by decide +kernel
theorem dX8_hold_34 : decode cX8_hold 34 = .ok (.bipush (-2), 2) := by decide +kernel
theorem dX8_hold_36 : decode cX8_hold 36 = .ok (.ireturn, 1) := by decide +kernel
theorem dX8_hold_37 : decode cX8_hold 37 = .ok (.aload_n 0, 1) := by decide +kernel
theorem dX8_hold_38 : decode cX8_hold 38 = .ok (.iload 4, 2) := by decide +kernel
theorem dX8_hold_40 : decode cX8_hold 40 = .ok (.invokevirtual 103, 3) := by decide +kernel
theorem dX8_hold_43 : decode cX8_hold 43 = .ok (.iload_n 2, 1) := by decide +kernel
theorem dX8_hold_44 : decode cX8_hold 44 = .ok (.if_icmp .ge 6, 3) := by decide +kernel
theorem dX8_hold_47 : decode cX8_hold 47 = .ok (.bipush (-3), 2) := by decide +kernel
theorem dX8_hold_49 : decode cX8_hold 49 = .ok (.ireturn, 1) := by decide +kernel
theorem dX8_hold_50 : decode cX8_hold 50 = .ok (.aload_n 0, 1) := by decide +kernel
theorem dX8_hold_51 : decode cX8_hold 51 = .ok (.getfield 7, 3) := by decide +kernel
theorem dX8_hold_54 : decode cX8_hold 54 = .ok (.bipush 6, 2) := by decide +kernel
theorem dX8_hold_56 : decode cX8_hold 56 = .ok (.iaload, 1) := by decide +kernel
theorem dX8_hold_57 : decode cX8_hold 57 = .ok (.bipush 15, 2) := by decide +kernel
theorem dX8_hold_59 : decode cX8_hold 59 = .ok (.if_icmp .ne 6, 3) := by decide +kernel
theorem dX8_hold_62 : decode cX8_hold 62 = .ok (.bipush (-4), 2) := by decide +kernel
theorem dX8_hold_64 : decode cX8_hold 64 = .ok (.ireturn, 1) := by decide +kernel
theorem dX8_hold_65 : decode cX8_hold 65 = .ok (.aload_n 0, 1) := by decide +kernel
theorem dX8_hold_66 : decode cX8_hold 66 = .ok (.invokevirtual 72, 3) := by decide +kernel
theorem dX8_hold_69 : decode cX8_hold 69 = .ok (.bipush 48, 2) := by decide +kernel
theorem dX8_hold_71 : decode cX8_hold 71 = .ok (.iconst 4, 1) := by decide +kernel
theorem dX8_hold_72 : decode cX8_hold 72 = .ok (.aload_n 0, 1) := by decide +kernel
theorem dX8_hold_73 : decode cX8_hold 73 = .ok (.getfield 7, 3) := by decide +kernel
theorem dX8_hold_76 : decode cX8_hold 76 = .ok (.bipush 6, 2) := by decide +kernel
theorem dX8_hold_78 : decode cX8_hold 78 = .ok (.iaload, 1) := by decide +kernel
theorem dX8_hold_79 : decode cX8_hold 79 = .ok (.imul, 1) := by decide +kernel
theorem dX8_hold_80 : decode cX8_hold 80 = .ok (.iadd, 1) := by decide +kernel
theorem dX8_hold_81 : decode cX8_hold 81 = .ok (.istore 5, 2) := by decide +kernel
theorem dX8_hold_83 : decode cX8_hold 83 = .ok (.aload_n 0, 1) := by decide +kernel
theorem dX8_hold_84 : decode cX8_hold 84 = .ok (.getfield 7, 3) := by decide +kernel
theorem dX8_hold_87 : decode cX8_hold 87 = .ok (.bipush 6, 2) := by decide +kernel
theorem dX8_hold_89 : decode cX8_hold 89 = .ok (.dup2, 1) := by decide +kernel
theorem dX8_hold_90 : decode cX8_hold 90 = .ok (.iaload, 1) := by decide +kernel
theorem dX8_hold_91 : decode cX8_hold 91 = .ok (.iconst 1, 1) := by decide +kernel
theorem dX8_hold_92 : decode cX8_hold 92 = .ok (.iadd, 1) := by decide +kernel
theorem dX8_hold_93 : decode cX8_hold 93 = .ok (.iastore, 1) := by decide +kernel
theorem dX8_hold_94 : decode cX8_hold 94 = .ok (.aload_n 0, 1) := by decide +kernel
theorem dX8_hold_95 : decode cX8_hold 95 = .ok (.getfield 7, 3) := by decide +kernel
theorem dX8_hold_98 : decode cX8_hold 98 = .ok (.bipush 8, 2) := by decide +kernel
theorem dX8_hold_100 : decode cX8_hold 100 = .ok (.dup2, 1) := by decide +kernel
theorem dX8_hold_101 : decode cX8_hold 101 = .ok (.iaload, 1) := by decide +kernel
theorem dX8_hold_102 : decode cX8_hold 102 = .ok (.iconst 1, 1) := by decide +kernel
theorem dX8_hold_103 : decode cX8_hold 103 = .ok (.iadd, 1) := by decide +kernel
theorem dX8_hold_104 : decode cX8_hold 104 = .ok (.iastore, 1) := by decide +kernel
theorem dX8_hold_105 : decode cX8_hold 105 = .ok (.aload_n 0, 1) := by decide +kernel
theorem dX8_hold_106 : decode cX8_hold 106 = .ok (.getfield 7, 3) := by decide +kernel
theorem dX8_hold_109 : decode cX8_hold 109 = .ok (.iload 5, 2) := by decide +kernel
theorem dX8_hold_111 : decode cX8_hold 111 = .ok (.iconst 0, 1) := by decide +kernel
theorem dX8_hold_112 : decode cX8_hold 112 = .ok (.iadd, 1) := by decide +kernel
theorem dX8_hold_113 : decode cX8_hold 113 = .ok (.aload_n 0, 1) := by decide +kernel
theorem dX8_hold_114 : decode cX8_hold 114 = .ok (.getfield 7, 3) := by decide +kernel
theorem dX8_hold_117 : decode cX8_hold 117 = .ok (.bipush 8, 2) := by decide +kernel
theorem dX8_hold_119 : decode cX8_hold 119 = .ok (.iaload, 1) := by decide +kernel
theorem dX8_hold_120 : decode cX8_hold 120 = .ok (.iastore, 1) := by decide +kernel
theorem dX8_hold_121 : decode cX8_hold 121 = .ok (.aload_n 0, 1) := by decide +kernel
theorem dX8_hold_122 : decode cX8_hold 122 = .ok (.getfield 7, 3) := by decide +kernel
theorem dX8_hold_125 : decode cX8_hold 125 = .ok (.iload 5, 2) := by decide +kernel
theorem dX8_hold_127 : decode cX8_hold 127 = .ok (.iconst 1, 1) := by decide +kernel
theorem dX8_hold_128 : decode cX8_hold 128 = .ok (.iadd, 1) := by decide +kernel
theorem dX8_hold_129 : decode cX8_hold 129 = .ok (.iload_n 1, 1) := by decide +kernel
theorem dX8_hold_130 : decode cX8_hold 130 = .ok (.iastore, 1) := by decide +kernel
theorem dX8_hold_131 : decode cX8_hold 131 = .ok (.aload_n 0, 1) := by decide +kernel
theorem dX8_hold_132 : decode cX8_hold 132 = .ok (.getfield 7, 3) := by decide +kernel
theorem dX8_hold_135 : decode cX8_hold 135 = .ok (.iload 5, 2) := by decide +kernel
theorem dX8_hold_137 : decode cX8_hold 137 = .ok (.iconst 2, 1) := by decide +kernel
theorem dX8_hold_138 : decode cX8_hold 138 = .ok (.iadd, 1) := by decide +kernel
theorem dX8_hold_139 : decode cX8_hold 139 = .ok (.iload_n 2, 1) := by decide +kernel
theorem dX8_hold_140 : decode cX8_hold 140 = .ok (.iastore, 1) := by decide +kernel
theorem dX8_hold_141 : decode cX8_hold 141 = .ok (.aload_n 0, 1) := by decide +kernel
theorem dX8_hold_142 : decode cX8_hold 142 = .ok (.getfield 7, 3) := by decide +kernel
theorem dX8_hold_145 : decode cX8_hold 145 = .ok (.iload 5, 2) := by decide +kernel
theorem dX8_hold_147 : decode cX8_hold 147 = .ok (.iconst 3, 1) := by decide +kernel
theorem dX8_hold_148 : decode cX8_hold 148 = .ok (.iadd, 1) := by decide +kernel
theorem dX8_hold_149 : decode cX8_hold 149 = .ok (.aload_n 0, 1) := by decide +kernel
theorem dX8_hold_150 : decode cX8_hold 150 = .ok (.getfield 7, 3) := by decide +kernel
theorem dX8_hold_153 : decode cX8_hold 153 = .ok (.iconst 0, 1) := by decide +kernel
theorem dX8_hold_154 : decode cX8_hold 154 = .ok (.iaload, 1) := by decide +kernel
theorem dX8_hold_155 : decode cX8_hold 155 = .ok (.iload_n 3, 1) := by decide +kernel
theorem dX8_hold_156 : decode cX8_hold 156 = .ok (.iadd, 1) := by decide +kernel
theorem dX8_hold_157 : decode cX8_hold 157 = .ok (.iastore, 1) := by decide +kernel
theorem dX8_hold_158 : decode cX8_hold 158 = .ok (.aload_n 0, 1) := by decide +kernel
theorem dX8_hold_159 : decode cX8_hold 159 = .ok (.getfield 7, 3) := by decide +kernel
theorem dX8_hold_162 : decode cX8_hold 162 = .ok (.bipush 8, 2) := by decide +kernel
theorem dX8_hold_164 : decode cX8_hold 164 = .ok (.iaload, 1) := by decide +kernel
theorem dX8_hold_165 : decode cX8_hold 165 = .ok (.ireturn, 1) := by decide +kernel
theorem dX8_endsHold_0 : decode cX8_endsHold 0 = .ok (.aload_n 0, 1) := by decide +kernel
theorem dX8_endsHold_1 : decode cX8_endsHold 1 = .ok (.bipush 48, 2) := by decide +kernel
theorem dX8_endsHold_3 : decode cX8_endsHold 3 = .ok (.iload_n 1, 1) := by decide +kernel
theorem dX8_endsHold_4 : decode cX8_endsHold 4 = .ok (.aload_n 0, 1) := by decide +kernel
theorem dX8_endsHold_5 : decode cX8_endsHold 5 = .ok (.getfield 7, 3) := by decide +kernel
theorem dX8_endsHold_8 : decode cX8_endsHold 8 = .ok (.bipush 6, 2) := by decide +kernel
theorem dX8_endsHold_10 : decode cX8_endsHold 10 = .ok (.iaload, 1) := by decide +kernel
theorem dX8_endsHold_11 : decode cX8_endsHold 11 = .ok (.invokevirtual 119, 3) := by decide +kernel
theorem dX8_endsHold_14 : decode cX8_endsHold 14 = .ok (.aload_n 0, 1) := by decide +kernel
theorem dX8_endsHold_15 : decode cX8_endsHold 15 = .ok (.getfield 7, 3) := by decide +kernel
theorem dX8_endsHold_18 : decode cX8_endsHold 18 = .ok (.bipush 6, 2) := by decide +kernel
theorem dX8_endsHold_20 : decode cX8_endsHold 20 = .ok (.dup2, 1) := by decide +kernel
theorem dX8_endsHold_21 : decode cX8_endsHold 21 = .ok (.iaload, 1) := by decide +kernel
theorem dX8_endsHold_22 : decode cX8_endsHold 22 = .ok (.iconst 1, 1) := by decide +kernel
theorem dX8_endsHold_23 : decode cX8_endsHold 23 = .ok (.isub, 1) := by decide +kernel
theorem dX8_endsHold_24 : decode cX8_endsHold 24 = .ok (.iastore, 1) := by decide +kernel
theorem dX8_endsHold_25 : decode cX8_endsHold 25 = .ok (.return_, 1) := by decide +kernel
theorem dX8_release_0 : decode cX8_release 0 = .ok (.aload_n 0, 1) := by decide +kernel
theorem dX8_release_1 : decode cX8_release 1 = .ok (.iload_n 1, 1) := by decide +kernel
theorem dX8_release_2 : decode cX8_release 2 = .ok (.invokevirtual 122, 3) := by decide +kernel
theorem dX8_release_5 : decode cX8_release 5 = .ok (.istore_n 2, 1) := by decide +kernel
theorem dX8_release_6 : decode cX8_release 6 = .ok (.iload_n 2, 1) := by decide +kernel
theorem dX8_release_7 : decode cX8_release 7 = .ok (.bipush (-6), 2) := by decide +kernel
theorem dX8_release_9 : decode cX8_release 9 = .ok (.if_icmp .ne 5, 3) := by decide +kernel
theorem dX8_release_12 : decode cX8_release 12 = .ok (.iconst (-1), 1) := by decide +kernel
theorem dX8_release_13 : decode cX8_release 13 = .ok (.ireturn, 1) := by decide +kernel
theorem dX8_release_14 : decode cX8_release 14 = .ok (.aload_n 0, 1) := by decide +kernel
theorem dX8_release_15 : decode cX8_release 15 = .ok (.invokevirtual 72, 3) := by decide +kernel
theorem dX8_release_18 : decode cX8_release 18 = .ok (.aload_n 0, 1) := by decide +kernel
theorem dX8_release_19 : decode cX8_release 19 = .ok (.iload_n 2, 1) := by decide +kernel
theorem dX8_release_20 : decode cX8_release 20 = .ok (.iconst 1, 1) := by decide +kernel
theorem dX8_release_21 : decode cX8_release 21 = .ok (.invokevirtual 38, 3) := by decide +kernel
theorem dX8_release_24 : decode cX8_release 24 = .ok (.istore_n 3, 1) := by decide +kernel
theorem dX8_release_25 : decode cX8_release 25 = .ok (.aload_n 0, 1) := by decide +kernel
theorem dX8_release_26 : decode cX8_release 26 = .ok (.iload_n 2, 1) := by decide +kernel
theorem dX8_release_27 : decode cX8_release 27 = .ok (.invokevirtual 125, 3) := by decide +kernel
theorem dX8_release_30 : decode cX8_release 30 = .ok (.aload_n 0, 1) := by decide +kernel
theorem dX8_release_31 : decode cX8_release 31 = .ok (.aload_n 0, 1) := by decide +kernel
theorem dX8_release_32 : decode cX8_release 32 = .ok (.iload_n 3, 1) := by decide +kernel
theorem dX8_release_33 : decode cX8_release 33 = .ok (.invokevirtual 75, 3) := by decide +kernel
theorem dX8_release_36 : decode cX8_release 36 = .ok (.invokevirtual 103, 3) := by decide +kernel
theorem dX8_release_39 : decode cX8_release 39 = .ok (.ireturn, 1) := by decide +kernel
theorem dX8_whyNotBilled_0 : decode cX8_whyNotBilled 0 = .ok (.aload_n 0, 1) := by decide +kernel
theorem dX8_whyNotBilled_1 : decode cX8_whyNotBilled 1 = .ok (.iload_n 1, 1) := by decide +kernel
theorem dX8_whyNotBilled_2 : decode cX8_whyNotBilled 2 = .ok (.invokevirtual 75, 3) := by decide +kernel
theorem dX8_whyNotBilled_5 : decode cX8_whyNotBilled 5 = .ok (.bipush (-6), 2) := by decide +kernel
theorem dX8_whyNotBilled_7 : decode cX8_whyNotBilled 7 = .ok (.if_icmp .ne 7, 3) := by decide +kernel
theorem dX8_whyNotBilled_10 : decode cX8_whyNotBilled 10 = .ok (.iconst (-1), 1) := by decide +kernel
theorem dX8_whyNotBilled_11 : decode cX8_whyNotBilled 11 = .ok (.goto 33, 3) := by decide +kernel
theorem dX8_whyNotBilled_14 : decode cX8_whyNotBilled 14 = .ok (.iload_n 2, 1) := by decide +kernel
theorem dX8_whyNotBilled_15 : decode cX8_whyNotBilled 15 = .ok (.invokestatic 82, 3) := by decide +kernel
theorem dX8_whyNotBilled_18 : decode cX8_whyNotBilled 18 = .ok (.ifCond .ne 8, 3) := by decide +kernel
theorem dX8_whyNotBilled_21 : decode cX8_whyNotBilled 21 = .ok (.bipush (-2), 2) := by decide +kernel
theorem dX8_whyNotBilled_23 : decode cX8_whyNotBilled 23 = .ok (.goto 21, 3) := by decide +kernel
theorem dX8_whyNotBilled_26 : decode cX8_whyNotBilled 26 = .ok (.aload_n 0, 1) := by decide +kernel
theorem dX8_whyNotBilled_27 : decode cX8_whyNotBilled 27 = .ok (.getfield 7, 3) := by decide +kernel
theorem dX8_whyNotBilled_30 : decode cX8_whyNotBilled 30 = .ok (.bipush 7, 2) := by decide +kernel
theorem dX8_whyNotBilled_32 : decode cX8_whyNotBilled 32 = .ok (.iaload, 1) := by decide +kernel
theorem dX8_whyNotBilled_33 : decode cX8_whyNotBilled 33 = .ok (.bipush 15, 2) := by decide +kernel
theorem dX8_whyNotBilled_35 : decode cX8_whyNotBilled 35 = .ok (.if_icmp .ne 8, 3) := by decide +kernel
theorem dX8_whyNotBilled_38 : decode cX8_whyNotBilled 38 = .ok (.bipush (-4), 2) := by decide +kernel
theorem dX8_whyNotBilled_40 : decode cX8_whyNotBilled 40 = .ok (.goto 4, 3) := by decide +kernel
theorem dX8_whyNotBilled_43 : decode cX8_whyNotBilled 43 = .ok (.iconst 0, 1) := by decide +kernel
theorem dX8_whyNotBilled_44 : decode cX8_whyNotBilled 44 = .ok (.ireturn, 1) := by decide +kernel
theorem dX8_bills_0 : decode cX8_bills 0 = .ok (.bipush 108, 2) := by decide +kernel
theorem dX8_bills_2 : decode cX8_bills 2 = .ok (.iconst 4, 1) := by decide +kernel
theorem dX8_bills_3 : decode cX8_bills 3 = .ok (.aload_n 0, 1) := by decide +kernel
theorem dX8_bills_4 : decode cX8_bills 4 = .ok (.getfield 7, 3) := by decide +kernel
theorem dX8_bills_7 : decode cX8_bills 7 = .ok (.bipush 7, 2) := by decide +kernel
theorem dX8_bills_9 : decode cX8_bills 9 = .ok (.iaload, 1) := by decide +kernel
theorem dX8_bills_10 : decode cX8_bills 10 = .ok (.imul, 1) := by decide +kernel
theorem dX8_bills_11 : decode cX8_bills 11 = .ok (.iadd, 1) := by decide +kernel
theorem dX8_bills_12 : decode cX8_bills 12 = .ok (.istore_n 3, 1) := by decide +kernel
theorem dX8_bills_13 : decode cX8_bills 13 = .ok (.aload_n 0, 1) := by decide +kernel
theorem dX8_bills_14 : decode cX8_bills 14 = .ok (.getfield 7, 3) := by decide +kernel
theorem dX8_bills_17 : decode cX8_bills 17 = .ok (.bipush 7, 2) := by decide +kernel
theorem dX8_bills_19 : decode cX8_bills 19 = .ok (.dup2, 1) := by decide +kernel
theorem dX8_bills_20 : decode cX8_bills 20 = .ok (.iaload, 1) := by decide +kernel
theorem dX8_bills_21 : decode cX8_bills 21 = .ok (.iconst 1, 1) := by decide +kernel
theorem dX8_bills_22 : decode cX8_bills 22 = .ok (.iadd, 1) := by decide +kernel
theorem dX8_bills_23 : decode cX8_bills 23 = .ok (.iastore, 1) := by decide +kernel
theorem dX8_bills_24 : decode cX8_bills 24 = .ok (.aload_n 0, 1) := by decide +kernel
theorem dX8_bills_25 : decode cX8_bills 25 = .ok (.getfield 7, 3) := by decide +kernel
theorem dX8_bills_28 : decode cX8_bills 28 = .ok (.bipush 9, 2) := by decide +kernel
theorem dX8_bills_30 : decode cX8_bills 30 = .ok (.dup2, 1) := by decide +kernel
theorem dX8_bills_31 : decode cX8_bills 31 = .ok (.iaload, 1) := by decide +kernel
theorem dX8_bills_32 : decode cX8_bills 32 = .ok (.iconst 1, 1) := by decide +kernel
theorem dX8_bills_33 : decode cX8_bills 33 = .ok (.iadd, 1) := by decide +kernel
theorem dX8_bills_34 : decode cX8_bills 34 = .ok (.iastore, 1) := by decide +kernel
theorem dX8_bills_35 : decode cX8_bills 35 = .ok (.aload_n 0, 1) := by decide +kernel
theorem dX8_bills_36 : decode cX8_bills 36 = .ok (.getfield 7, 3) := by decide +kernel
theorem dX8_bills_39 : decode cX8_bills 39 = .ok (.iload_n 3, 1) := by decide +kernel
theorem dX8_bills_40 : decode cX8_bills 40 = .ok (.iconst 0, 1) := by decide +kernel
theorem dX8_bills_41 : decode cX8_bills 41 = .ok (.iadd, 1) := by decide +kernel
theorem dX8_bills_42 : decode cX8_bills 42 = .ok (.aload_n 0, 1) := by decide +kernel
theorem dX8_bills_43 : decode cX8_bills 43 = .ok (.getfield 7, 3) := by decide +kernel
theorem dX8_bills_46 : decode cX8_bills 46 = .ok (.bipush 9, 2) := by decide +kernel
theorem dX8_bills_48 : decode cX8_bills 48 = .ok (.iaload, 1) := by decide +kernel
theorem dX8_bills_49 : decode cX8_bills 49 = .ok (.iastore, 1) := by decide +kernel
theorem dX8_bills_50 : decode cX8_bills 50 = .ok (.aload_n 0, 1) := by decide +kernel
theorem dX8_bills_51 : decode cX8_bills 51 = .ok (.getfield 7, 3) := by decide +kernel
theorem dX8_bills_54 : decode cX8_bills 54 = .ok (.iload_n 3, 1) := by decide +kernel
theorem dX8_bills_55 : decode cX8_bills 55 = .ok (.iconst 1, 1) := by decide +kernel
theorem dX8_bills_56 : decode cX8_bills 56 = .ok (.iadd, 1) := by decide +kernel
theorem dX8_bills_57 : decode cX8_bills 57 = .ok (.iload_n 1, 1) := by decide +kernel
theorem dX8_bills_58 : decode cX8_bills 58 = .ok (.iastore, 1) := by decide +kernel
theorem dX8_bills_59 : decode cX8_bills 59 = .ok (.aload_n 0, 1) := by decide +kernel
theorem dX8_bills_60 : decode cX8_bills 60 = .ok (.getfield 7, 3) := by decide +kernel
theorem dX8_bills_63 : decode cX8_bills 63 = .ok (.iload_n 3, 1) := by decide +kernel
theorem dX8_bills_64 : decode cX8_bills 64 = .ok (.iconst 2, 1) := by decide +kernel
theorem dX8_bills_65 : decode cX8_bills 65 = .ok (.iadd, 1) := by decide +kernel
theorem dX8_bills_66 : decode cX8_bills 66 = .ok (.iload_n 2, 1) := by decide +kernel
theorem dX8_bills_67 : decode cX8_bills 67 = .ok (.iastore, 1) := by decide +kernel
theorem dX8_bills_68 : decode cX8_bills 68 = .ok (.aload_n 0, 1) := by decide +kernel
theorem dX8_bills_69 : decode cX8_bills 69 = .ok (.getfield 7, 3) := by decide +kernel
theorem dX8_bills_72 : decode cX8_bills 72 = .ok (.iload_n 3, 1) := by decide +kernel
theorem dX8_bills_73 : decode cX8_bills 73 = .ok (.iconst 3, 1) := by decide +kernel
theorem dX8_bills_74 : decode cX8_bills 74 = .ok (.iadd, 1) := by decide +kernel
theorem dX8_bills_75 : decode cX8_bills 75 = .ok (.iconst 0, 1) := by decide +kernel
theorem dX8_bills_76 : decode cX8_bills 76 = .ok (.iastore, 1) := by decide +kernel
theorem dX8_bills_77 : decode cX8_bills 77 = .ok (.aload_n 0, 1) := by decide +kernel
theorem dX8_bills_78 : decode cX8_bills 78 = .ok (.getfield 7, 3) := by decide +kernel
theorem dX8_bills_81 : decode cX8_bills 81 = .ok (.bipush 9, 2) := by decide +kernel
theorem dX8_bills_83 : decode cX8_bills 83 = .ok (.iaload, 1) := by decide +kernel
theorem dX8_bills_84 : decode cX8_bills 84 = .ok (.ireturn, 1) := by decide +kernel
theorem dX8_bill_0 : decode cX8_bill 0 = .ok (.aload_n 0, 1) := by decide +kernel
theorem dX8_bill_1 : decode cX8_bill 1 = .ok (.iload_n 1, 1) := by decide +kernel
