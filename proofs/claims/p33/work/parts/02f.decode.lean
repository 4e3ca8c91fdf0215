theorem dX0_init_0 : decode cX0_init 0 = .ok (.aload_n 0, 1) := by decide +kernel
theorem dX0_init_1 : decode cX0_init 1 = .ok (.invokespecial 3, 3) := by decide +kernel
theorem dX0_init_4 : decode cX0_init 4 = .ok (.aload_n 0, 1) := by decide +kernel
theorem dX0_init_5 : decode cX0_init 5 = .ok (.iconst 0, 1) := by decide +kernel
theorem dX0_init_6 : decode cX0_init 6 = .ok (.putfield 9, 3) := by decide +kernel
theorem dX0_init_9 : decode cX0_init 9 = .ok (.aload_n 0, 1) := by decide +kernel
theorem dX0_init_10 : decode cX0_init 10 = .ok (.bipush 12, 2) := by decide +kernel
theorem dX0_init_12 : decode cX0_init 12 = .ok (.newarray .int, 2) := by decide +kernel
theorem dX0_init_14 : decode cX0_init 14 = .ok (.putfield 15, 3) := by decide +kernel
theorem dX0_init_17 : decode cX0_init 17 = .ok (.aload_n 0, 1) := by decide +kernel
theorem dX0_init_18 : decode cX0_init 18 = .ok (.bipush 12, 2) := by decide +kernel
theorem dX0_init_20 : decode cX0_init 20 = .ok (.newarray .int, 2) := by decide +kernel
theorem dX0_init_22 : decode cX0_init 22 = .ok (.putfield 19, 3) := by decide +kernel
theorem dX0_init_25 : decode cX0_init 25 = .ok (.aload_n 0, 1) := by decide +kernel
theorem dX0_init_26 : decode cX0_init 26 = .ok (.bipush 12, 2) := by decide +kernel
theorem dX0_init_28 : decode cX0_init 28 = .ok (.newarray .int, 2) := by decide +kernel
theorem dX0_init_30 : decode cX0_init 30 = .ok (.putfield 22, 3) := by decide +kernel
theorem dX0_init_33 : decode cX0_init 33 = .ok (.aload_n 0, 1) := by decide +kernel
theorem dX0_init_34 : decode cX0_init 34 = .ok (.bipush 12, 2) := by decide +kernel
theorem dX0_init_36 : decode cX0_init 36 = .ok (.newarray .long, 2) := by decide +kernel
theorem dX0_init_38 : decode cX0_init 38 = .ok (.putfield 25, 3) := by decide +kernel
theorem dX0_init_41 : decode cX0_init 41 = .ok (.return_, 1) := by decide +kernel
theorem dX0_copyFrom_0 : decode cX0_copyFrom 0 = .ok (.aload_n 0, 1) := by decide +kernel
theorem dX0_copyFrom_1 : decode cX0_copyFrom 1 = .ok (.aload_n 1, 1) := by decide +kernel
theorem dX0_copyFrom_2 : decode cX0_copyFrom 2 = .ok (.getfield 9, 3) := by decide +kernel
theorem dX0_copyFrom_5 : decode cX0_copyFrom 5 = .ok (.putfield 9, 3) := by decide +kernel
theorem dX0_copyFrom_8 : decode cX0_copyFrom 8 = .ok (.aload_n 1, 1) := by decide +kernel
theorem dX0_copyFrom_9 : decode cX0_copyFrom 9 = .ok (.getfield 15, 3) := by decide +kernel
theorem dX0_copyFrom_12 : decode cX0_copyFrom 12 = .ok (.iconst 0, 1) := by decide +kernel
theorem dX0_copyFrom_13 : decode cX0_copyFrom 13 = .ok (.aload_n 0, 1) := by decide +kernel
theorem dX0_copyFrom_14 : decode cX0_copyFrom 14 = .ok (.getfield 15, 3) := by decide +kernel
theorem dX0_copyFrom_17 : decode cX0_copyFrom 17 = .ok (.iconst 0, 1) := by decide +kernel
theorem dX0_copyFrom_18 : decode cX0_copyFrom 18 = .ok (.bipush 12, 2) := by decide +kernel
theorem dX0_copyFrom_20 : decode cX0_copyFrom 20 = .ok (.invokestatic 29, 3) := by decide +kernel
theorem dX0_copyFrom_23 : decode cX0_copyFrom 23 = .ok (.aload_n 1, 1) := by decide +kernel
theorem dX0_copyFrom_24 : decode cX0_copyFrom 24 = .ok (.getfield 19, 3) := by decide +kernel
theorem dX0_copyFrom_27 : decode cX0_copyFrom 27 = .ok (.iconst 0, 1) := by decide +kernel
theorem dX0_copyFrom_28 : decode cX0_copyFrom 28 = .ok (.aload_n 0, 1) := by decide +kernel
theorem dX0_copyFrom_29 : decode cX0_copyFrom 29 = .ok (.getfield 19, 3) := by decide +kernel
theorem dX0_copyFrom_32 : decode cX0_copyFrom 32 = .ok (.iconst 0, 1) := by decide +kernel
theorem dX0_copyFrom_33 : decode cX0_copyFrom 33 = .ok (.bipush 12, 2) := by decide +kernel
theorem dX0_copyFrom_35 : decode cX0_copyFrom 35 = .ok (.invokestatic 29, 3) := by decide +kernel
theorem dX0_copyFrom_38 : decode cX0_copyFrom 38 = .ok (.aload_n 1, 1) := by decide +kernel
theorem dX0_copyFrom_39 : decode cX0_copyFrom 39 = .ok (.getfield 22, 3) := by decide +kernel
theorem dX0_copyFrom_42 : decode cX0_copyFrom 42 = .ok (.iconst 0, 1) := by decide +kernel
theorem dX0_copyFrom_43 : decode cX0_copyFrom 43 = .ok (.aload_n 0, 1) := by decide +kernel
theorem dX0_copyFrom_44 : decode cX0_copyFrom 44 = .ok (.getfield 22, 3) := by decide +kernel
theorem dX0_copyFrom_47 : decode cX0_copyFrom 47 = .ok (.iconst 0, 1) := by decide +kernel
theorem dX0_copyFrom_48 : decode cX0_copyFrom 48 = .ok (.bipush 12, 2) := by decide +kernel
theorem dX0_copyFrom_50 : decode cX0_copyFrom 50 = .ok (.invokestatic 29, 3) := by decide +kernel
theorem dX0_copyFrom_53 : decode cX0_copyFrom 53 = .ok (.aload_n 1, 1) := by decide +kernel
theorem dX0_copyFrom_54 : decode cX0_copyFrom 54 = .ok (.getfield 25, 3) := by decide +kernel
theorem dX0_copyFrom_57 : decode cX0_copyFrom 57 = .ok (.iconst 0, 1) := by decide +kernel
theorem dX0_copyFrom_58 : decode cX0_copyFrom 58 = .ok (.aload_n 0, 1) := by decide +kernel
theorem dX0_copyFrom_59 : decode cX0_copyFrom 59 = .ok (.getfield 25, 3) := by decide +kernel
theorem dX0_copyFrom_62 : decode cX0_copyFrom 62 = .ok (.iconst 0, 1) := by decide +kernel
theorem dX0_copyFrom_63 : decode cX0_copyFrom 63 = .ok (.bipush 12, 2) := by decide +kernel
theorem dX0_copyFrom_65 : decode cX0_copyFrom 65 = .ok (.invokestatic 29, 3) := by decide +kernel
theorem dX0_copyFrom_68 : decode cX0_copyFrom 68 = .ok (.return_, 1) := by decide +kernel
theorem dX0_find_0 : decode cX0_find 0 = .ok (.iconst 0, 1) := by decide +kernel
theorem dX0_find_1 : decode cX0_find 1 = .ok (.istore_n 2, 1) := by decide +kernel
theorem dX0_find_2 : decode cX0_find 2 = .ok (.iload_n 2, 1) := by decide +kernel
theorem dX0_find_3 : decode cX0_find 3 = .ok (.aload_n 0, 1) := by decide +kernel
theorem dX0_find_4 : decode cX0_find 4 = .ok (.getfield 9, 3) := by decide +kernel
theorem dX0_find_7 : decode cX0_find 7 = .ok (.if_icmp .ge 27, 3) := by decide +kernel
theorem dX0_find_10 : decode cX0_find 10 = .ok (.iload_n 2, 1) := by decide +kernel
theorem dX0_find_11 : decode cX0_find 11 = .ok (.bipush 12, 2) := by decide +kernel
theorem dX0_find_13 : decode cX0_find 13 = .ok (.if_icmp .ge 21, 3) := by decide +kernel
theorem dX0_find_16 : decode cX0_find 16 = .ok (.aload_n 0, 1) := by decide +kernel
theorem dX0_find_17 : decode cX0_find 17 = .ok (.getfield 15, 3) := by decide +kernel
theorem dX0_find_20 : decode cX0_find 20 = .ok (.iload_n 2, 1) := by decide +kernel
theorem dX0_find_21 : decode cX0_find 21 = .ok (.iaload, 1) := by decide +kernel
theorem dX0_find_22 : decode cX0_find 22 = .ok (.iload_n 1, 1) := by decide +kernel
theorem dX0_find_23 : decode cX0_find 23 = .ok (.if_icmp .ne 5, 3) := by decide +kernel
theorem dX0_find_26 : decode cX0_find 26 = .ok (.iload_n 2, 1) := by decide +kernel
theorem dX0_find_27 : decode cX0_find 27 = .ok (.ireturn, 1) := by decide +kernel
theorem dX0_find_28 : decode cX0_find 28 = .ok (.iinc 2 1, 3) := by decide +kernel
theorem dX0_find_31 : decode cX0_find 31 = .ok (.goto (-29), 3) := by decide +kernel
theorem dX0_find_34 : decode cX0_find 34 = .ok (.iconst (-1), 1) := by decide +kernel
theorem dX0_find_35 : decode cX0_find 35 = .ok (.ireturn, 1) := by decide +kernel
theorem dX0_insert_0 : decode cX0_insert 0 = .ok (.aload_n 0, 1) := by decide +kernel
theorem dX0_insert_1 : decode cX0_insert 1 = .ok (.getfield 9, 3) := by decide +kernel
theorem dX0_insert_4 : decode cX0_insert 4 = .ok (.bipush 12, 2) := by decide +kernel
theorem dX0_insert_6 : decode cX0_insert 6 = .ok (.if_icmp .lt 4, 3) := by decide +kernel
theorem dX0_insert_9 : decode cX0_insert 9 = .ok (.return_, 1) := by decide +kernel
theorem dX0_insert_10 : decode cX0_insert 10 = .ok (.aload_n 0, 1) := by decide +kernel
theorem dX0_insert_11 : decode cX0_insert 11 = .ok (.getfield 9, 3) := by decide +kernel
theorem dX0_insert_14 : decode cX0_insert 14 = .ok (.istore_n 3, 1) := by decide +kernel
theorem dX0_insert_15 : decode cX0_insert 15 = .ok (.aload_n 0, 1) := by decide +kernel
theorem dX0_insert_16 : decode cX0_insert 16 = .ok (.dup, 1) := by decide +kernel
theorem dX0_insert_17 : decode cX0_insert 17 = .ok (.getfield 9, 3) := by decide +kernel
theorem dX0_insert_20 : decode cX0_insert 20 = .ok (.iconst 1, 1) := by decide +kernel
theorem dX0_insert_21 : decode cX0_insert 21 = .ok (.iadd, 1) := by decide +kernel
theorem dX0_insert_22 : decode cX0_insert 22 = .ok (.putfield 9, 3) := by decide +kernel
theorem dX0_insert_25 : decode cX0_insert 25 = .ok (.iload_n 3, 1) := by decide +kernel
theorem dX0_insert_26 : decode cX0_insert 26 = .ok (.ifCond .le 28, 3) := by decide +kernel
theorem dX0_insert_29 : decode cX0_insert 29 = .ok (.aload_n 0, 1) := by decide +kernel
theorem dX0_insert_30 : decode cX0_insert 30 = .ok (.iload_n 3, 1) := by decide +kernel
theorem dX0_insert_31 : decode cX0_insert 31 = .ok (.iconst 1, 1) := by decide +kernel
theorem dX0_insert_32 : decode cX0_insert 32 = .ok (.isub, 1) := by decide +kernel
theorem dX0_insert_33 : decode cX0_insert 33 = .ok (.invokevirtual 35, 3) := by decide +kernel
theorem dX0_insert_36 : decode cX0_insert 36 = .ok (.iload_n 1, 1) := by decide +kernel
theorem dX0_insert_37 : decode cX0_insert 37 = .ok (.if_icmp .le 17, 3) := by decide +kernel
theorem dX0_insert_40 : decode cX0_insert 40 = .ok (.aload_n 0, 1) := by decide +kernel
theorem dX0_insert_41 : decode cX0_insert 41 = .ok (.iload_n 3, 1) := by decide +kernel
theorem dX0_insert_42 : decode cX0_insert 42 = .ok (.iconst 1, 1) := by decide +kernel
theorem dX0_insert_43 : decode cX0_insert 43 = .ok (.isub, 1) := by decide +kernel
theorem dX0_insert_44 : decode cX0_insert 44 = .ok (.iload_n 3, 1) := by decide +kernel
theorem dX0_insert_45 : decode cX0_insert 45 = .ok (.invokevirtual 39, 3) := by decide +kernel
theorem dX0_insert_48 : decode cX0_insert 48 = .ok (.iinc 3 (-1), 3) := by decide +kernel
theorem dX0_insert_51 : decode cX0_insert 51 = .ok (.goto (-26), 3) := by decide +kernel
theorem dX0_insert_54 : decode cX0_insert 54 = .ok (.aload_n 0, 1) := by decide +kernel
theorem dX0_insert_55 : decode cX0_insert 55 = .ok (.iload_n 3, 1) := by decide +kernel
theorem dX0_insert_56 : decode cX0_insert 56 = .ok (.invokevirtual 43, 3) := by decide +kernel
theorem dX0_insert_59 : decode cX0_insert 59 = .ok (.ifCond .eq 31, 3) := by decide +kernel
theorem dX0_insert_62 : decode cX0_insert 62 = .ok (.aload_n 0, 1) := by decide +kernel
theorem dX0_insert_63 : decode cX0_insert 63 = .ok (.getfield 15, 3) := by decide +kernel
theorem dX0_insert_66 : decode cX0_insert 66 = .ok (.iload_n 3, 1) := by decide +kernel
theorem dX0_insert_67 : decode cX0_insert 67 = .ok (.iload_n 1, 1) := by decide +kernel
theorem dX0_insert_68 : decode cX0_insert 68 = .ok (.iastore, 1) := by decide +kernel
theorem dX0_insert_69 : decode cX0_insert 69 = .ok (.aload_n 0, 1) := by decide +kernel
theorem dX0_insert_70 : decode cX0_insert 70 = .ok (.getfield 19, 3) := by decide +kernel
theorem dX0_insert_73 : decode cX0_insert 73 = .ok (.iload_n 3, 1) := by decide +kernel
theorem dX0_insert_74 : decode cX0_insert 74 = .ok (.iconst 0, 1) := by decide +kernel
theorem dX0_insert_75 : decode cX0_insert 75 = .ok (.iastore, 1) := by decide +kernel
theorem dX0_insert_76 : decode cX0_insert 76 = .ok (.aload_n 0, 1) := by decide +kernel
theorem dX0_insert_77 : decode cX0_insert 77 = .ok (.getfield 22, 3) := by decide +kernel
theorem dX0_insert_80 : decode cX0_insert 80 = .ok (.iload_n 3, 1) := by decide +kernel
theorem dX0_insert_81 : decode cX0_insert 81 = .ok (.iload_n 2, 1) := by decide +kernel
theorem dX0_insert_82 : decode cX0_insert 82 = .ok (.iastore, 1) := by decide +kernel
theorem dX0_insert_83 : decode cX0_insert 83 = .ok (.aload_n 0, 1) := by decide +kernel
theorem dX0_insert_84 : decode cX0_insert 84 = .ok (.getfield 25, 3) := by decide +kernel
theorem dX0_insert_87 : decode cX0_insert 87 = .ok (.iload_n 3, 1) := by decide +kernel
theorem dX0_insert_88 : decode cX0_insert 88 = .ok (.lconst 0, 1) := by decide +kernel
theorem dX0_insert_89 : decode cX0_insert 89 = .ok (.lastore, 1) := by decide +kernel
theorem dX0_insert_90 : decode cX0_insert 90 = .ok (.return_, 1) := by decide +kernel
theorem dX0_remove_0 : decode cX0_remove 0 = .ok (.aload_n 0, 1) := by decide +kernel
theorem dX0_remove_1 : decode cX0_remove 1 = .ok (.iload_n 1, 1) := by decide +kernel
theorem dX0_remove_2 : decode cX0_remove 2 = .ok (.invokevirtual 43, 3) := by decide +kernel
theorem dX0_remove_5 : decode cX0_remove 5 = .ok (.ifCond .ne 4, 3) := by decide +kernel
theorem dX0_remove_8 : decode cX0_remove 8 = .ok (.return_, 1) := by decide +kernel
theorem dX0_remove_9 : decode cX0_remove 9 = .ok (.iload_n 1, 1) := by decide +kernel
theorem dX0_remove_10 : decode cX0_remove 10 = .ok (.istore_n 2, 1) := by decide +kernel
theorem dX0_remove_11 : decode cX0_remove 11 = .ok (.iload_n 2, 1) := by decide +kernel
theorem dX0_remove_12 : decode cX0_remove 12 = .ok (.iconst 1, 1) := by decide +kernel
theorem dX0_remove_13 : decode cX0_remove 13 = .ok (.iadd, 1) := by decide +kernel
theorem dX0_remove_14 : decode cX0_remove 14 = .ok (.aload_n 0, 1) := by decide +kernel
theorem dX0_remove_15 : decode cX0_remove 15 = .ok (.getfield 9, 3) := by decide +kernel
theorem dX0_remove_18 : decode cX0_remove 18 = .ok (.if_icmp .ge 17, 3) := by decide +kernel
theorem dX0_remove_21 : decode cX0_remove 21 = .ok (.aload_n 0, 1) := by decide +kernel
theorem dX0_remove_22 : decode cX0_remove 22 = .ok (.iload_n 2, 1) := by decide +kernel
theorem dX0_remove_23 : decode cX0_remove 23 = .ok (.iconst 1, 1) := by decide +kernel
theorem dX0_remove_24 : decode cX0_remove 24 = .ok (.iadd, 1) := by decide +kernel
theorem dX0_remove_25 : decode cX0_remove 25 = .ok (.iload_n 2, 1) := by decide +kernel
theorem dX0_remove_26 : decode cX0_remove 26 = .ok (.invokevirtual 39, 3) := by decide +kernel
theorem dX0_remove_29 : decode cX0_remove 29 = .ok (.iinc 2 1, 3) := by decide +kernel
theorem dX0_remove_32 : decode cX0_remove 32 = .ok (.goto (-21), 3) := by decide +kernel
theorem dX0_remove_35 : decode cX0_remove 35 = .ok (.aload_n 0, 1) := by decide +kernel
theorem dX0_remove_36 : decode cX0_remove 36 = .ok (.dup, 1) := by decide +kernel
theorem dX0_remove_37 : decode cX0_remove 37 = .ok (.getfield 9, 3) := by decide +kernel
theorem dX0_remove_40 : decode cX0_remove 40 = .ok (.iconst 1, 1) := by decide +kernel
theorem dX0_remove_41 : decode cX0_remove 41 = .ok (.isub, 1) := by decide +kernel
theorem dX0_remove_42 : decode cX0_remove 42 = .ok (.putfield 9, 3) := by decide +kernel
theorem dX0_remove_45 : decode cX0_remove 45 = .ok (.return_, 1) := by decide +kernel
theorem dX0_numberAt_0 : decode cX0_numberAt 0 = .ok (.aload_n 0, 1) := by decide +kernel
theorem dX0_numberAt_1 : decode cX0_numberAt 1 = .ok (.iload_n 1, 1) := by decide +kernel
theorem dX0_numberAt_2 : decode cX0_numberAt 2 = .ok (.invokevirtual 43, 3) := by decide +kernel
theorem dX0_numberAt_5 : decode cX0_numberAt 5 = .ok (.ifCond .eq 12, 3) := by decide +kernel
theorem dX0_numberAt_8 : decode cX0_numberAt 8 = .ok (.aload_n 0, 1) := by decide +kernel
theorem dX0_numberAt_9 : decode cX0_numberAt 9 = .ok (.getfield 15, 3) := by decide +kernel
theorem dX0_numberAt_12 : decode cX0_numberAt 12 = .ok (.iload_n 1, 1) := by decide +kernel
theorem dX0_numberAt_13 : decode cX0_numberAt 13 = .ok (.iaload, 1) := by decide +kernel
theorem dX0_numberAt_14 : decode cX0_numberAt 14 = .ok (.goto 4, 3) := by decide +kernel
theorem dX0_numberAt_17 : decode cX0_numberAt 17 = .ok (.iconst 0, 1) := by decide +kernel
theorem dX0_numberAt_18 : decode cX0_numberAt 18 = .ok (.ireturn, 1) := by decide +kernel
theorem dX0_balanceAt_0 : decode cX0_balanceAt 0 = .ok (.aload_n 0, 1) := by decide +kernel
theorem dX0_balanceAt_1 : decode cX0_balanceAt 1 = .ok (.iload_n 1, 1) := by decide +kernel
theorem dX0_balanceAt_2 : decode cX0_balanceAt 2 = .ok (.invokevirtual 43, 3) := by decide +kernel
theorem dX0_balanceAt_5 : decode cX0_balanceAt 5 = .ok (.ifCond .eq 12, 3) := by decide +kernel
theorem dX0_balanceAt_8 : decode cX0_balanceAt 8 = .ok (.aload_n 0, 1) := by decide +kernel
theorem dX0_balanceAt_9 : decode cX0_balanceAt 9 = .ok (.getfield 19, 3) := by decide +kernel
theorem dX0_balanceAt_12 : decode cX0_balanceAt 12 = .ok (.iload_n 1, 1) := by decide +kernel
theorem dX0_balanceAt_13 : decode cX0_balanceAt 13 = .ok (.iaload, 1) := by decide +kernel
theorem dX0_balanceAt_14 : decode cX0_balanceAt 14 = .ok (.goto 4, 3) := by decide +kernel
theorem dX0_balanceAt_17 : decode cX0_balanceAt 17 = .ok (.iconst 0, 1) := by decide +kernel
theorem dX0_balanceAt_18 : decode cX0_balanceAt 18 = .ok (.ireturn, 1) := by decide +kernel
theorem dX0_movedAt_0 : decode cX0_movedAt 0 = .ok (.aload_n 0, 1) := by decide +kernel
theorem dX0_movedAt_1 : decode cX0_movedAt 1 = .ok (.iload_n 1, 1) := by decide +kernel
theorem dX0_movedAt_2 : decode cX0_movedAt 2 = .ok (.invokevirtual 43, 3) := by decide +kernel
theorem dX0_movedAt_5 : decode cX0_movedAt 5 = .ok (.ifCond .eq 12, 3) := by decide +kernel
theorem dX0_movedAt_8 : decode cX0_movedAt 8 = .ok (.aload_n 0, 1) := by decide +kernel
theorem dX0_movedAt_9 : decode cX0_movedAt 9 = .ok (.getfield 22, 3) := by decide +kernel
theorem dX0_movedAt_12 : decode cX0_movedAt 12 = .ok (.iload_n 1, 1) := by decide +kernel
theorem dX0_movedAt_13 : decode cX0_movedAt 13 = .ok (.iaload, 1) := by decide +kernel
theorem dX0_movedAt_14 : decode cX0_movedAt 14 = .ok (.goto 4, 3) := by decide +kernel
theorem dX0_movedAt_17 : decode cX0_movedAt 17 = .ok (.iconst 0, 1) := by decide +kernel
theorem dX0_movedAt_18 : decode cX0_movedAt 18 = .ok (.ireturn, 1) := by decide +kernel
theorem dX0_countAt_0 : decode cX0_countAt 0 = .ok (.aload_n 0, 1) := by decide +kernel
theorem dX0_countAt_1 : decode cX0_countAt 1 = .ok (.iload_n 1, 1) := by decide +kernel
theorem dX0_countAt_2 : decode cX0_countAt 2 = .ok (.invokevirtual 43, 3) := by decide +kernel
theorem dX0_countAt_5 : decode cX0_countAt 5 = .ok (.ifCond .eq 12, 3) := by decide +kernel
theorem dX0_countAt_8 : decode cX0_countAt 8 = .ok (.aload_n 0, 1) := by decide +kernel
theorem dX0_countAt_9 : decode cX0_countAt 9 = .ok (.getfield 25, 3) := by decide +kernel
theorem dX0_countAt_12 : decode cX0_countAt 12 = .ok (.iload_n 1, 1) := by decide +kernel
theorem dX0_countAt_13 : decode cX0_countAt 13 = .ok (.laload, 1) := by decide +kernel
theorem dX0_countAt_14 : decode cX0_countAt 14 = .ok (.goto 4, 3) := by decide +kernel
theorem dX0_countAt_17 : decode cX0_countAt 17 = .ok (.lconst 0, 1) := by decide +kernel
theorem dX0_countAt_18 : decode cX0_countAt 18 = .ok (.lreturn, 1) := by decide +kernel
theorem dX0_add_0 : decode cX0_add 0 = .ok (.aload_n 0, 1) := by decide +kernel
theorem dX0_add_1 : decode cX0_add 1 = .ok (.iload_n 1, 1) := by decide +kernel
theorem dX0_add_2 : decode cX0_add 2 = .ok (.invokevirtual 43, 3) := by decide +kernel
theorem dX0_add_5 : decode cX0_add 5 = .ok (.ifCond .eq 13, 3) := by decide +kernel
theorem dX0_add_8 : decode cX0_add 8 = .ok (.aload_n 0, 1) := by decide +kernel
theorem dX0_add_9 : decode cX0_add 9 = .ok (.getfield 19, 3) := by decide +kernel
theorem dX0_add_12 : decode cX0_add 12 = .ok (.iload_n 1, 1) := by decide +kernel
theorem dX0_add_13 : decode cX0_add 13 = .ok (.dup2, 1) := by decide +kernel
theorem dX0_add_14 : decode cX0_add 14 = .ok (.iaload, 1) := by decide +kernel
theorem dX0_add_15 : decode cX0_add 15 = .ok (.iload_n 2, 1) := by decide +kernel
theorem dX0_add_16 : decode cX0_add 16 = .ok (.iadd, 1) := by decide +kernel
theorem dX0_add_17 : decode cX0_add 17 = .ok (.iastore, 1) := by decide +kernel
theorem dX0_add_18 : decode cX0_add 18 = .ok (.return_, 1) := by decide +kernel
theorem dX0_addCount_0 : decode cX0_addCount 0 = .ok (.aload_n 0, 1) := by decide +kernel
theorem dX0_addCount_1 : decode cX0_addCount 1 = .ok (.iload_n 1, 1) := by decide +kernel
theorem dX0_addCount_2 : decode cX0_addCount 2 = .ok (.invokevirtual 43, 3) := by decide +kernel
theorem dX0_addCount_5 : decode cX0_addCount 5 = .ok (.ifCond .eq 13, 3) := by decide +kernel
theorem dX0_addCount_8 : decode cX0_addCount 8 = .ok (.aload_n 0, 1) := by decide +kernel
theorem dX0_addCount_9 : decode cX0_addCount 9 = .ok (.getfield 25, 3) := by decide +kernel
theorem dX0_addCount_12 : decode cX0_addCount 12 = .ok (.iload_n 1, 1) := by decide +kernel
theorem dX0_addCount_13 : decode cX0_addCount 13 = .ok (.dup2, 1) := by decide +kernel
theorem dX0_addCount_14 : decode cX0_addCount 14 = .ok (.laload, 1) := by decide +kernel
theorem dX0_addCount_15 : decode cX0_addCount 15 = .ok (.lload_n 2, 1) := by decide +kernel
theorem dX0_addCount_16 : decode cX0_addCount 16 = .ok (.ladd, 1) := by decide +kernel
theorem dX0_addCount_17 : decode cX0_addCount 17 = .ok (.lastore, 1) := by decide +kernel
theorem dX0_addCount_18 : decode cX0_addCount 18 = .ok (.return_, 1) := by decide +kernel
theorem dX0_move_0 : decode cX0_move 0 = .ok (.aload_n 0, 1) := by decide +kernel
theorem dX0_move_1 : decode cX0_move 1 = .ok (.iload_n 1, 1) := by decide +kernel
theorem dX0_move_2 : decode cX0_move 2 = .ok (.invokevirtual 43, 3) := by decide +kernel
theorem dX0_move_5 : decode cX0_move 5 = .ok (.ifCond .eq 10, 3) := by decide +kernel
theorem dX0_move_8 : decode cX0_move 8 = .ok (.aload_n 0, 1) := by decide +kernel
theorem dX0_move_9 : decode cX0_move 9 = .ok (.getfield 22, 3) := by decide +kernel
theorem dX0_move_12 : decode cX0_move 12 = .ok (.iload_n 1, 1) := by decide +kernel
theorem dX0_move_13 : decode cX0_move 13 = .ok (.iload_n 2, 1) := by decide +kernel
theorem dX0_move_14 : decode cX0_move 14 = .ok (.iastore, 1) := by decide +kernel
theorem dX0_move_15 : decode cX0_move 15 = .ok (.return_, 1) := by decide +kernel
theorem dX0_sumOfBalances_0 : decode cX0_sumOfBalances 0 = .ok (.lconst 0, 1) := by decide +kernel
theorem dX0_sumOfBalances_1 : decode cX0_sumOfBalances 1 = .ok (.lstore_n 1, 1) := by decide +kernel
theorem dX0_sumOfBalances_2 : decode cX0_sumOfBalances 2 = .ok (.iconst 0, 1) := by decide +kernel
theorem dX0_sumOfBalances_3 : decode cX0_sumOfBalances 3 = .ok (.istore_n 3, 1) := by decide +kernel
theorem dX0_sumOfBalances_4 : decode cX0_sumOfBalances 4 = .ok (.iload_n 3, 1) := by decide +kernel
theorem dX0_sumOfBalances_5 : decode cX0_sumOfBalances 5 = .ok (.aload_n 0, 1) := by decide +kernel
theorem dX0_sumOfBalances_6 : decode cX0_sumOfBalances 6 = .ok (.getfield 9, 3) := by decide +kernel
theorem dX0_sumOfBalances_9 : decode cX0_sumOfBalances 9 = .ok (.if_icmp .ge 18, 3) := by decide +kernel
theorem dX0_sumOfBalances_12 : decode cX0_sumOfBalances 12 = .ok (.lload_n 1, 1) := by decide +kernel
theorem dX0_sumOfBalances_13 : decode cX0_sumOfBalances 13 = .ok (.aload_n 0, 1) := by decide +kernel
theorem dX0_sumOfBalances_14 : decode cX0_sumOfBalances 14 = .ok (.iload_n 3, 1) := by decide +kernel
theorem dX0_sumOfBalances_15 : decode cX0_sumOfBalances 15 = .ok (.invokevirtual 47, 3) := by decide +kernel
theorem dX0_sumOfBalances_18 : decode cX0_sumOfBalances 18 = .ok (.i2l, 1) := by decide +kernel
theorem dX0_sumOfBalances_19 : decode cX0_sumOfBalances 19 = .ok (.ladd, 1) := by decide +kernel
theorem dX0_sumOfBalances_20 : decode cX0_sumOfBalances 20 = .ok (.lstore_n 1, 1) := by decide +kernel
theorem dX0_sumOfBalances_21 : decode cX0_sumOfBalances 21 = .ok (.iinc 3 1, 3) := by decide +kernel
theorem dX0_sumOfBalances_24 : decode cX0_sumOfBalances 24 = .ok (.goto (-20), 3) := by decide +kernel
theorem dX0_sumOfBalances_27 : decode cX0_sumOfBalances 27 = .ok (.lload_n 1, 1) := by decide +kernel
theorem dX0_sumOfBalances_28 : decode cX0_sumOfBalances 28 = .ok (.lreturn, 1) := by decide +kernel
theorem dX0_isPlace_0 : decode cX0_isPlace 0 = .ok (.iload_n 1, 1) := by decide +kernel
theorem dX0_isPlace_1 : decode cX0_isPlace 1 = .ok (.ifCond .lt 21, 3) := by decide +kernel
theorem dX0_isPlace_4 : decode cX0_isPlace 4 = .ok (.iload_n 1, 1) := by decide +kernel
theorem dX0_isPlace_5 : decode cX0_isPlace 5 = .ok (.aload_n 0, 1) := by decide +kernel
theorem dX0_isPlace_6 : decode cX0_isPlace 6 = .ok (.getfield 9, 3) := by decide +kernel
theorem dX0_isPlace_9 : decode cX0_isPlace 9 = .ok (.if_icmp .ge 13, 3) := by decide +kernel
theorem dX0_isPlace_12 : decode cX0_isPlace 12 = .ok (.iload_n 1, 1) := by decide +kernel
theorem dX0_isPlace_13 : decode cX0_isPlace 13 = .ok (.bipush 12, 2) := by decide +kernel
theorem dX0_isPlace_15 : decode cX0_isPlace 15 = .ok (.if_icmp .ge 7, 3) := by decide +kernel
theorem dX0_isPlace_18 : decode cX0_isPlace 18 = .ok (.iconst 1, 1) := by decide +kernel
theorem dX0_isPlace_19 : decode cX0_isPlace 19 = .ok (.goto 4, 3) := by decide +kernel
theorem dX0_isPlace_22 : decode cX0_isPlace 22 = .ok (.iconst 0, 1) := by decide +kernel
theorem dX0_isPlace_23 : decode cX0_isPlace 23 = .ok (.ireturn, 1) := by decide +kernel
theorem dX0_copyRow_0 : decode cX0_copyRow 0 = .ok (.aload_n 0, 1) := by decide +kernel
theorem dX0_copyRow_1 : decode cX0_copyRow 1 = .ok (.iload_n 1, 1) := by decide +kernel
theorem dX0_copyRow_2 : decode cX0_copyRow 2 = .ok (.invokevirtual 43, 3) := by decide +kernel
theorem dX0_copyRow_5 : decode cX0_copyRow 5 = .ok (.ifCond .eq 59, 3) := by decide +kernel
theorem dX0_copyRow_8 : decode cX0_copyRow 8 = .ok (.aload_n 0, 1) := by decide +kernel
theorem dX0_copyRow_9 : decode cX0_copyRow 9 = .ok (.iload_n 2, 1) := by decide +kernel
theorem dX0_copyRow_10 : decode cX0_copyRow 10 = .ok (.invokevirtual 43, 3) := by decide +kernel
theorem dX0_copyRow_13 : decode cX0_copyRow 13 = .ok (.ifCond .eq 51, 3) := by decide +kernel
theorem dX0_copyRow_16 : decode cX0_copyRow 16 = .ok (.aload_n 0, 1) := by decide +kernel
theorem dX0_copyRow_17 : decode cX0_copyRow 17 = .ok (.getfield 15, 3) := by decide +kernel
theorem dX0_copyRow_20 : decode cX0_copyRow 20 = .ok (.iload_n 2, 1) := by decide +kernel
theorem dX0_copyRow_21 : decode cX0_copyRow 21 = .ok (.aload_n 0, 1) := by decide +kernel
theorem dX0_copyRow_22 : decode cX0_copyRow 22 = .ok (.getfield 15, 3) := by decide +kernel
theorem dX0_copyRow_25 : decode cX0_copyRow 25 = .ok (.iload_n 1, 1) := by decide +kernel
theorem dX0_copyRow_26 : decode cX0_copyRow 26 = .ok (.iaload, 1) := by decide +kernel
theorem dX0_copyRow_27 : decode cX0_copyRow 27 = .ok (.iastore, 1) := by decide +kernel
theorem dX0_copyRow_28 : decode cX0_copyRow 28 = .ok (.aload_n 0, 1) := by decide +kernel
theorem dX0_copyRow_29 : decode cX0_copyRow 29 = .ok (.getfield 19, 3) := by decide +kernel
theorem dX0_copyRow_32 : decode cX0_copyRow 32 = .ok (.iload_n 2, 1) := by decide +kernel
theorem dX0_copyRow_33 : decode cX0_copyRow 33 = .ok (.aload_n 0, 1) := by decide +kernel
theorem dX0_copyRow_34 : decode cX0_copyRow 34 = .ok (.getfield 19, 3) := by decide +kernel
theorem dX0_copyRow_37 : decode cX0_copyRow 37 = .ok (.iload_n 1, 1) := by decide +kernel
theorem dX0_copyRow_38 : decode cX0_copyRow 38 = .ok (.iaload, 1) := by decide +kernel
theorem dX0_copyRow_39 : decode cX0_copyRow 39 = .ok (.iastore, 1) := by decide +kernel
theorem dX0_copyRow_40 : decode cX0_copyRow 40 = .ok (.aload_n 0, 1) := by decide +kernel
theorem dX0_copyRow_41 : decode cX0_copyRow 41 = .ok (.getfield 22, 3) := by decide +kernel
theorem dX0_copyRow_44 : decode cX0_copyRow 44 = .ok (.iload_n 2, 1) := by decide +kernel
theorem dX0_copyRow_45 : decode cX0_copyRow 45 = .ok (.aload_n 0, 1) := by decide +kernel
theorem dX0_copyRow_46 : decode cX0_copyRow 46 = .ok (.getfield 22, 3) := by decide +kernel
theorem dX0_copyRow_49 : decode cX0_copyRow 49 = .ok (.iload_n 1, 1) := by decide +kernel
theorem dX0_copyRow_50 : decode cX0_copyRow 50 = .ok (.iaload, 1) := by decide +kernel
theorem dX0_copyRow_51 : decode cX0_copyRow 51 = .ok (.iastore, 1) := by decide +kernel
theorem dX0_copyRow_52 : decode cX0_copyRow 52 = .ok (.aload_n 0, 1) := by decide +kernel
theorem dX0_copyRow_53 : decode cX0_copyRow 53 = .ok (.getfield 25, 3) := by decide +kernel
theorem dX0_copyRow_56 : decode cX0_copyRow 56 = .ok (.iload_n 2, 1) := by decide +kernel
theorem dX0_copyRow_57 : decode cX0_copyRow 57 = .ok (.aload_n 0, 1) := by decide +kernel
theorem dX0_copyRow_58 : decode cX0_copyRow 58 = .ok (.getfield 25, 3) := by decide +kernel
theorem dX0_copyRow_61 : decode cX0_copyRow 61 = .ok (.iload_n 1, 1) := by decide +kernel
theorem dX0_copyRow_62 : decode cX0_copyRow 62 = .ok (.laload, 1) := by decide +kernel
theorem dX0_copyRow_63 : decode cX0_copyRow 63 = .ok (.lastore, 1) := by decide +kernel
theorem dX0_copyRow_64 : decode cX0_copyRow 64 = .ok (.return_, 1) := by decide +kernel
theorem dX1_init_0 : decode cX1_init 0 = .ok (.aload_n 0, 1) := by decide +kernel
theorem dX1_init_1 : decode cX1_init 1 = .ok (.invokespecial 3, 3) := by decide +kernel
theorem dX1_init_4 : decode cX1_init 4 = .ok (.aload_n 0, 1) := by decide +kernel
theorem dX1_init_5 : decode cX1_init 5 = .ok (.iconst 0, 1) := by decide +kernel
theorem dX1_init_6 : decode cX1_init 6 = .ok (.putfield 9, 3) := by decide +kernel
theorem dX1_init_9 : decode cX1_init 9 = .ok (.aload_n 0, 1) := by decide +kernel
theorem dX1_init_10 : decode cX1_init 10 = .ok (.iconst 0, 1) := by decide +kernel
theorem dX1_init_11 : decode cX1_init 11 = .ok (.putfield 15, 3) := by decide +kernel
theorem dX1_init_14 : decode cX1_init 14 = .ok (.aload_n 0, 1) := by decide +kernel
theorem dX1_init_15 : decode cX1_init 15 = .ok (.bipush 7, 2) := by decide +kernel
theorem dX1_init_17 : decode cX1_init 17 = .ok (.anewarray 18, 3) := by decide +kernel
theorem dX1_init_20 : decode cX1_init 20 = .ok (.putfield 20, 3) := by decide +kernel
theorem dX1_init_23 : decode cX1_init 23 = .ok (.iconst 0, 1) := by decide +kernel
theorem dX1_init_24 : decode cX1_init 24 = .ok (.istore_n 1, 1) := by decide +kernel
theorem dX1_init_25 : decode cX1_init 25 = .ok (.iload_n 1, 1) := by decide +kernel
theorem dX1_init_26 : decode cX1_init 26 = .ok (.aload_n 0, 1) := by decide +kernel
theorem dX1_init_27 : decode cX1_init 27 = .ok (.getfield 20, 3) := by decide +kernel
theorem dX1_init_30 : decode cX1_init 30 = .ok (.arraylength, 1) := by decide +kernel
theorem dX1_init_31 : decode cX1_init 31 = .ok (.if_icmp .ge 22, 3) := by decide +kernel
theorem dX1_init_34 : decode cX1_init 34 = .ok (.aload_n 0, 1) := by decide +kernel
theorem dX1_init_35 : decode cX1_init 35 = .ok (.getfield 20, 3) := by decide +kernel
theorem dX1_init_38 : decode cX1_init 38 = .ok (.iload_n 1, 1) := by decide +kernel
theorem dX1_init_39 : decode cX1_init 39 = .ok (.new 18, 3) := by decide +kernel
theorem dX1_init_42 : decode cX1_init 42 = .ok (.dup, 1) := by decide +kernel
theorem dX1_init_43 : decode cX1_init 43 = .ok (.invokespecial 24, 3) := by decide +kernel
theorem dX1_init_46 : decode cX1_init 46 = .ok (.aastore, 1) := by decide +kernel
theorem dX1_init_47 : decode cX1_init 47 = .ok (.iinc 1 1, 3) := by decide +kernel
theorem dX1_init_50 : decode cX1_init 50 = .ok (.goto (-25), 3) := by decide +kernel
theorem dX1_init_53 : decode cX1_init 53 = .ok (.return_, 1) := by decide +kernel
theorem dX1_prepare_0 : decode cX1_prepare 0 = .ok (.aload_n 0, 1) := by decide +kernel
theorem dX1_prepare_1 : decode cX1_prepare 1 = .ok (.aload_n 0, 1) := by decide +kernel
theorem dX1_prepare_2 : decode cX1_prepare 2 = .ok (.getfield 15, 3) := by decide +kernel
theorem dX1_prepare_5 : decode cX1_prepare 5 = .ok (.invokevirtual 25, 3) := by decide +kernel
theorem dX1_prepare_8 : decode cX1_prepare 8 = .ok (.astore_n 2, 1) := by decide +kernel
theorem dX1_prepare_9 : decode cX1_prepare 9 = .ok (.aload_n 2, 1) := by decide +kernel
theorem dX1_prepare_10 : decode cX1_prepare 10 = .ok (.ifnull 8, 3) := by decide +kernel
theorem dX1_prepare_13 : decode cX1_prepare 13 = .ok (.aload_n 2, 1) := by decide +kernel
theorem dX1_prepare_14 : decode cX1_prepare 14 = .ok (.aload_n 1, 1) := by decide +kernel
theorem dX1_prepare_15 : decode cX1_prepare 15 = .ok (.invokevirtual 29, 3) := by decide +kernel
theorem dX1_prepare_18 : decode cX1_prepare 18 = .ok (.return_, 1) := by decide +kernel
theorem dX1_keep_0 : decode cX1_keep 0 = .ok (.aload_n 0, 1) := by decide +kernel
theorem dX1_keep_1 : decode cX1_keep 1 = .ok (.aload_n 0, 1) := by decide +kernel
theorem dX1_keep_2 : decode cX1_keep 2 = .ok (.getfield 15, 3) := by decide +kernel
theorem dX1_keep_5 : decode cX1_keep 5 = .ok (.bipush 6, 2) := by decide +kernel
theorem dX1_keep_7 : decode cX1_keep 7 = .ok (.if_icmp .ge 12, 3) := by decide +kernel
theorem dX1_keep_10 : decode cX1_keep 10 = .ok (.aload_n 0, 1) := by decide +kernel
theorem dX1_keep_11 : decode cX1_keep 11 = .ok (.getfield 15, 3) := by decide +kernel
theorem dX1_keep_14 : decode cX1_keep 14 = .ok (.iconst 1, 1) := by decide +kernel
theorem dX1_keep_15 : decode cX1_keep 15 = .ok (.iadd, 1) := by decide +kernel
theorem dX1_keep_16 : decode cX1_keep 16 = .ok (.goto 4, 3) := by decide +kernel
theorem dX1_keep_19 : decode cX1_keep 19 = .ok (.iconst 0, 1) := by decide +kernel
theorem dX1_keep_20 : decode cX1_keep 20 = .ok (.putfield 15, 3) := by decide +kernel
theorem dX1_keep_23 : decode cX1_keep 23 = .ok (.aload_n 0, 1) := by decide +kernel
theorem dX1_keep_24 : decode cX1_keep 24 = .ok (.aload_n 0, 1) := by decide +kernel
theorem dX1_keep_25 : decode cX1_keep 25 = .ok (.getfield 9, 3) := by decide +kernel
theorem dX1_keep_28 : decode cX1_keep 28 = .ok (.iconst 1, 1) := by decide +kernel
theorem dX1_keep_29 : decode cX1_keep 29 = .ok (.iadd, 1) := by decide +kernel
theorem dX1_keep_30 : decode cX1_keep 30 = .ok (.bipush 6, 2) := by decide +kernel
theorem dX1_keep_32 : decode cX1_keep 32 = .ok (.invokestatic 33, 3) := by decide +kernel
theorem dX1_keep_35 : decode cX1_keep 35 = .ok (.putfield 9, 3) := by decide +kernel
theorem dX1_keep_38 : decode cX1_keep 38 = .ok (.return_, 1) := by decide +kernel
theorem dX1_slotAt_0 : decode cX1_slotAt 0 = .ok (.iload_n 1, 1) := by decide +kernel
theorem dX1_slotAt_1 : decode cX1_slotAt 1 = .ok (.ifCond .lt 21, 3) := by decide +kernel
theorem dX1_slotAt_4 : decode cX1_slotAt 4 = .ok (.iload_n 1, 1) := by decide +kernel
theorem dX1_slotAt_5 : decode cX1_slotAt 5 = .ok (.aload_n 0, 1) := by decide +kernel
theorem dX1_slotAt_6 : decode cX1_slotAt 6 = .ok (.getfield 20, 3) := by decide +kernel
theorem dX1_slotAt_9 : decode cX1_slotAt 9 = .ok (.arraylength, 1) := by decide +kernel
theorem dX1_slotAt_10 : decode cX1_slotAt 10 = .ok (.if_icmp .ge 12, 3) := by decide +kernel
theorem dX1_slotAt_13 : decode cX1_slotAt 13 = .ok (.aload_n 0, 1) := by decide +kernel
theorem dX1_slotAt_14 : decode cX1_slotAt 14 = .ok (.getfield 20, 3) := by decide +kernel
theorem dX1_slotAt_17 : decode cX1_slotAt 17 = .ok (.iload_n 1, 1) := by decide +kernel
theorem dX1_slotAt_18 : decode cX1_slotAt 18 = .ok (.aaload, 1) := by decide +kernel
theorem dX1_slotAt_19 : decode cX1_slotAt 19 = .ok (.goto 4, 3) := by decide +kernel
theorem dX1_slotAt_22 : decode cX1_slotAt 22 = .ok (.aconst_null, 1) := by decide +kernel
theorem dX1_slotAt_23 : decode cX1_slotAt 23 = .ok (.areturn, 1) := by decide +kernel
theorem dX2_init_0 : decode cX2_init 0 = .ok (.aload_n 0, 1) := by decide +kernel
theorem dX2_init_1 : decode cX2_init 1 = .ok (.invokespecial 3, 3) := by decide +kernel
theorem dX2_init_4 : decode cX2_init 4 = .ok (.aload_n 0, 1) := by decide +kernel
theorem dX2_init_5 : decode cX2_init 5 = .ok (.iconst 0, 1) := by decide +kernel
theorem dX2_init_6 : decode cX2_init 6 = .ok (.putfield 9, 3) := by decide +kernel
theorem dX2_init_9 : decode cX2_init 9 = .ok (.aload_n 0, 1) := by decide +kernel
theorem dX2_init_10 : decode cX2_init 10 = .ok (.bipush 80, 2) := by decide +kernel
theorem dX2_init_12 : decode cX2_init 12 = .ok (.newarray .char, 2) := by decide +kernel
theorem dX2_init_14 : decode cX2_init 14 = .ok (.putfield 15, 3) := by decide +kernel
theorem dX2_init_17 : decode cX2_init 17 = .ok (.aload_n 0, 1) := by decide +kernel
theorem dX2_init_18 : decode cX2_init 18 = .ok (.iconst 0, 1) := by decide +kernel
theorem dX2_init_19 : decode cX2_init 19 = .ok (.putfield 19, 3) := by decide +kernel
theorem dX2_init_22 : decode cX2_init 22 = .ok (.aload_n 0, 1) := by decide +kernel
theorem dX2_init_23 : decode cX2_init 23 = .ok (.iconst 0, 1) := by decide +kernel
theorem dX2_init_24 : decode cX2_init 24 = .ok (.putfield 22, 3) := by decide +kernel
theorem dX2_init_27 : decode cX2_init 27 = .ok (.aload_n 0, 1) := by decide +kernel
theorem dX2_init_28 : decode cX2_init 28 = .ok (.iconst 0, 1) := by decide +kernel
theorem dX2_init_29 : decode cX2_init 29 = .ok (.putfield 26, 3) := by decide +kernel
theorem dX2_init_32 : decode cX2_init 32 = .ok (.aload_n 0, 1) := by decide +kernel
theorem dX2_init_33 : decode cX2_init 33 = .ok (.iconst 0, 1) := by decide +kernel
theorem dX2_init_34 : decode cX2_init 34 = .ok (.putfield 29, 3) := by decide +kernel
theorem dX2_init_37 : decode cX2_init 37 = .ok (.aload_n 0, 1) := by decide +kernel
theorem dX2_init_38 : decode cX2_init 38 = .ok (.iconst 0, 1) := by decide +kernel
theorem dX2_init_39 : decode cX2_init 39 = .ok (.putfield 32, 3) := by decide +kernel
theorem dX2_init_42 : decode cX2_init 42 = .ok (.return_, 1) := by decide +kernel
theorem dX3_init_0 : decode cX3_init 0 = .ok (.aload_n 0, 1) := by decide +kernel
theorem dX3_init_1 : decode cX3_init 1 = .ok (.invokespecial 3, 3) := by decide +kernel
theorem dX3_init_4 : decode cX3_init 4 = .ok (.aload_n 0, 1) := by decide +kernel
theorem dX3_init_5 : decode cX3_init 5 = .ok (.iconst 0, 1) := by decide +kernel
theorem dX3_init_6 : decode cX3_init 6 = .ok (.putfield 9, 3) := by decide +kernel
theorem dX3_init_9 : decode cX3_init 9 = .ok (.aload_n 0, 1) := by decide +kernel
theorem dX3_init_10 : decode cX3_init 10 = .ok (.bipush 12, 2) := by decide +kernel
theorem dX3_init_12 : decode cX3_init 12 = .ok (.newarray .int, 2) := by decide +kernel
theorem dX3_init_14 : decode cX3_init 14 = .ok (.putfield 15, 3) := by decide +kernel
theorem dX3_init_17 : decode cX3_init 17 = .ok (.aload_n 0, 1) := by decide +kernel
theorem dX3_init_18 : decode cX3_init 18 = .ok (.bipush 12, 2) := by decide +kernel
theorem dX3_init_20 : decode cX3_init 20 = .ok (.newarray .int, 2) := by decide +kernel
theorem dX3_init_22 : decode cX3_init 22 = .ok (.putfield 19, 3) := by decide +kernel
theorem dX3_init_25 : decode cX3_init 25 = .ok (.return_, 1) := by decide +kernel
theorem dX3_sort_0 : decode cX3_sort 0 = .ok (.aload_n 0, 1) := by decide +kernel
theorem dX3_sort_1 : decode cX3_sort 1 = .ok (.aload_n 1, 1) := by decide +kernel
theorem dX3_sort_2 : decode cX3_sort 2 = .ok (.getfield 22, 3) := by decide +kernel
theorem dX3_sort_5 : decode cX3_sort 5 = .ok (.getfield 28, 3) := by decide +kernel
theorem dX3_sort_8 : decode cX3_sort 8 = .ok (.bipush 12, 2) := by decide +kernel
theorem dX3_sort_10 : decode cX3_sort 10 = .ok (.invokestatic 31, 3) := by decide +kernel
theorem dX3_sort_13 : decode cX3_sort 13 = .ok (.putfield 9, 3) := by decide +kernel
theorem dX3_sort_16 : decode cX3_sort 16 = .ok (.iconst 0, 1) := by decide +kernel
theorem dX3_sort_17 : decode cX3_sort 17 = .ok (.istore_n 3, 1) := by decide +kernel
theorem dX3_sort_18 : decode cX3_sort 18 = .ok (.iload_n 3, 1) := by decide +kernel
theorem dX3_sort_19 : decode cX3_sort 19 = .ok (.aload_n 0, 1) := by decide +kernel
theorem dX3_sort_20 : decode cX3_sort 20 = .ok (.getfield 9, 3) := by decide +kernel
theorem dX3_sort_23 : decode cX3_sort 23 = .ok (.if_icmp .ge 101, 3) := by decide +kernel
theorem dX3_sort_26 : decode cX3_sort 26 = .ok (.aload_n 1, 1) := by decide +kernel
theorem dX3_sort_27 : decode cX3_sort 27 = .ok (.iload_n 2, 1) := by decide +kernel
theorem dX3_sort_28 : decode cX3_sort 28 = .ok (.iload_n 3, 1) := by decide +kernel
theorem dX3_sort_29 : decode cX3_sort 29 = .ok (.invokestatic 37, 3) := by decide +kernel
theorem dX3_sort_32 : decode cX3_sort 32 = .ok (.istore 4, 2) := by decide +kernel
theorem dX3_sort_34 : decode cX3_sort 34 = .ok (.iload_n 3, 1) := by decide +kernel
theorem dX3_sort_35 : decode cX3_sort 35 = .ok (.istore 5, 2) := by decide +kernel
theorem dX3_sort_37 : decode cX3_sort 37 = .ok (.iload 5, 2) := by decide +kernel
theorem dX3_sort_39 : decode cX3_sort 39 = .ok (.ifCond .le 55, 3) := by decide +kernel
theorem dX3_sort_42 : decode cX3_sort 42 = .ok (.aload_n 0, 1) := by decide +kernel
theorem dX3_sort_43 : decode cX3_sort 43 = .ok (.getfield 19, 3) := by decide +kernel
theorem dX3_sort_46 : decode cX3_sort 46 = .ok (.iload 5, 2) := by decide +kernel
theorem dX3_sort_48 : decode cX3_sort 48 = .ok (.iconst 1, 1) := by decide +kernel
theorem dX3_sort_49 : decode cX3_sort 49 = .ok (.isub, 1) := by decide +kernel
theorem dX3_sort_50 : decode cX3_sort 50 = .ok (.iaload, 1) := by decide +kernel
theorem dX3_sort_51 : decode cX3_sort 51 = .ok (.iload 4, 2) := by decide +kernel
theorem dX3_sort_53 : decode cX3_sort 53 = .ok (.if_icmp .le 41, 3) := by decide +kernel
theorem dX3_sort_56 : decode cX3_sort 56 = .ok (.aload_n 0, 1) := by decide +kernel
theorem dX3_sort_57 : decode cX3_sort 57 = .ok (.getfield 19, 3) := by decide +kernel
theorem dX3_sort_60 : decode cX3_sort 60 = .ok (.iload 5, 2) := by decide +kernel
theorem dX3_sort_62 : decode cX3_sort 62 = .ok (.aload_n 0, 1) := by decide +kernel
theorem dX3_sort_63 : decode cX3_sort 63 = .ok (.getfield 19, 3) := by decide +kernel
theorem dX3_sort_66 : decode cX3_sort 66 = .ok (.iload 5, 2) := by decide +kernel
theorem dX3_sort_68 : decode cX3_sort 68 = .ok (.iconst 1, 1) := by decide +kernel
theorem dX3_sort_69 : decode cX3_sort 69 = .ok (.isub, 1) := by decide +kernel
theorem dX3_sort_70 : decode cX3_sort 70 = .ok (.iaload, 1) := by decide +kernel
theorem dX3_sort_71 : decode cX3_sort 71 = .ok (.iastore, 1) := by decide +kernel
theorem dX3_sort_72 : decode cX3_sort 72 = .ok (.aload_n 0, 1) := by decide +kernel
theorem dX3_sort_73 : decode cX3_sort 73 = .ok (.getfield 15, 3) := by decide +kernel
theorem dX3_sort_76 : decode cX3_sort 76 = .ok (.iload 5, 2) := by decide +kernel
theorem dX3_sort_78 : decode cX3_sort 78 = .ok (.aload_n 0, 1) := by decide +kernel
theorem dX3_sort_79 : decode cX3_sort 79 = .ok (.getfield 15, 3) := by decide +kernel
theorem dX3_sort_82 : decode cX3_sort 82 = .ok (.iload 5, 2) := by decide +kernel
theorem dX3_sort_84 : decode cX3_sort 84 = .ok (.iconst 1, 1) := by decide +kernel
theorem dX3_sort_85 : decode cX3_sort 85 = .ok (.isub, 1) := by decide +kernel
theorem dX3_sort_86 : decode cX3_sort 86 = .ok (.iaload, 1) := by decide +kernel
theorem dX3_sort_87 : decode cX3_sort 87 = .ok (.iastore, 1) := by decide +kernel
theorem dX3_sort_88 : decode cX3_sort 88 = .ok (.iinc 5 (-1), 3) := by decide +kernel
theorem dX3_sort_91 : decode cX3_sort 91 = .ok (.goto (-54), 3) := by decide +kernel
theorem dX3_sort_94 : decode cX3_sort 94 = .ok (.aload_n 0, 1) := by decide +kernel
theorem dX3_sort_95 : decode cX3_sort 95 = .ok (.getfield 19, 3) := by decide +kernel
theorem dX3_sort_98 : decode cX3_sort 98 = .ok (.iload 5, 2) := by decide +kernel
theorem dX3_sort_100 : decode cX3_sort 100 = .ok (.iload 4, 2) := by decide +kernel
theorem dX3_sort_102 : decode cX3_sort 102 = .ok (.iastore, 1) := by decide +kernel
theorem dX3_sort_103 : decode cX3_sort 103 = .ok (.aload_n 0, 1) := by decide +kernel
theorem dX3_sort_104 : decode cX3_sort 104 = .ok (.getfield 15, 3) := by decide +kernel
theorem dX3_sort_107 : decode cX3_sort 107 = .ok (.iload 5, 2) := by decide +kernel
theorem dX3_sort_109 : decode cX3_sort 109 = .ok (.aload_n 1, 1) := by decide +kernel
theorem dX3_sort_110 : decode cX3_sort 110 = .ok (.getfield 22, 3) := by decide +kernel
theorem dX3_sort_113 : decode cX3_sort 113 = .ok (.iload_n 3, 1) := by decide +kernel
theorem dX3_sort_114 : decode cX3_sort 114 = .ok (.invokevirtual 41, 3) := by decide +kernel
theorem dX3_sort_117 : decode cX3_sort 117 = .ok (.iastore, 1) := by decide +kernel
theorem dX3_sort_118 : decode cX3_sort 118 = .ok (.iinc 3 1, 3) := by decide +kernel
theorem dX3_sort_121 : decode cX3_sort 121 = .ok (.goto (-103), 3) := by decide +kernel
theorem dX3_sort_124 : decode cX3_sort 124 = .ok (.return_, 1) := by decide +kernel
theorem dX3_clientAt_0 : decode cX3_clientAt 0 = .ok (.iload_n 1, 1) := by decide +kernel
theorem dX3_clientAt_1 : decode cX3_clientAt 1 = .ok (.ifCond .lt 26, 3) := by decide +kernel
theorem dX3_clientAt_4 : decode cX3_clientAt 4 = .ok (.iload_n 1, 1) := by decide +kernel
theorem dX3_clientAt_5 : decode cX3_clientAt 5 = .ok (.aload_n 0, 1) := by decide +kernel
theorem dX3_clientAt_6 : decode cX3_clientAt 6 = .ok (.getfield 9, 3) := by decide +kernel
theorem dX3_clientAt_9 : decode cX3_clientAt 9 = .ok (.if_icmp .ge 18, 3) := by decide +kernel
theorem dX3_clientAt_12 : decode cX3_clientAt 12 = .ok (.iload_n 1, 1) := by decide +kernel
theorem dX3_clientAt_13 : decode cX3_clientAt 13 = .ok (.bipush 12, 2) := by decide +kernel
theorem dX3_clientAt_15 : decode cX3_clientAt 15 = .ok (.if_icmp .ge 12, 3) := by decide +kernel
theorem dX3_clientAt_18 : decode cX3_clientAt 18 = .ok (.aload_n 0, 1) := by decide +kernel
theorem dX3_clientAt_19 : decode cX3_clientAt 19 = .ok (.getfield 15, 3) := by decide +kernel
theorem dX3_clientAt_22 : decode cX3_clientAt 22 = .ok (.iload_n 1, 1) := by decide +kernel
theorem dX3_clientAt_23 : decode cX3_clientAt 23 = .ok (.iaload, 1) := by decide +kernel
theorem dX3_clientAt_24 : decode cX3_clientAt 24 = .ok (.goto 4, 3) := by decide +kernel
theorem dX3_clientAt_27 : decode cX3_clientAt 27 = .ok (.iconst (-1), 1) := by decide +kernel
theorem dX3_clientAt_28 : decode cX3_clientAt 28 = .ok (.ireturn, 1) := by decide +kernel
theorem dX3_keyOf_0 : decode cX3_keyOf 0 = .ok (.iload_n 1, 1) := by decide +kernel
theorem dX3_keyOf_1 : decode cX3_keyOf 1 = .ok (.tableswitch 52 1 3 #[27, 37, 43], 27) := by decide +kernel
theorem dX3_keyOf_28 : decode cX3_keyOf 28 = .ok (.aload_n 0, 1) := by decide +kernel
theorem dX3_keyOf_29 : decode cX3_keyOf 29 = .ok (.getfield 22, 3) := by decide +kernel
theorem dX3_keyOf_32 : decode cX3_keyOf 32 = .ok (.iload_n 2, 1) := by decide +kernel
theorem dX3_keyOf_33 : decode cX3_keyOf 33 = .ok (.invokevirtual 45, 3) := by decide +kernel
theorem dX3_keyOf_36 : decode cX3_keyOf 36 = .ok (.ineg, 1) := by decide +kernel
theorem dX3_keyOf_37 : decode cX3_keyOf 37 = .ok (.ireturn, 1) := by decide +kernel
theorem dX3_keyOf_38 : decode cX3_keyOf 38 = .ok (.aload_n 0, 1) := by decide +kernel
theorem dX3_keyOf_39 : decode cX3_keyOf 39 = .ok (.iload_n 2, 1) := by decide +kernel
theorem dX3_keyOf_40 : decode cX3_keyOf 40 = .ok (.invokevirtual 48, 3) := by decide +kernel
theorem dX3_keyOf_43 : decode cX3_keyOf 43 = .ok (.ireturn, 1) := by decide +kernel
theorem dX3_keyOf_44 : decode cX3_keyOf 44 = .ok (.aload_n 0, 1) := by decide +kernel
theorem dX3_keyOf_45 : decode cX3_keyOf 45 = .ok (.getfield 22, 3) := by decide +kernel
theorem dX3_keyOf_48 : decode cX3_keyOf 48 = .ok (.iload_n 2, 1) := by decide +kernel
theorem dX3_keyOf_49 : decode cX3_keyOf 49 = .ok (.invokevirtual 51, 3) := by decide +kernel
theorem dX3_keyOf_52 : decode cX3_keyOf 52 = .ok (.ireturn, 1) := by decide +kernel
theorem dX3_keyOf_53 : decode cX3_keyOf 53 = .ok (.iconst 0, 1) := by decide +kernel
theorem dX3_keyOf_54 : decode cX3_keyOf 54 = .ok (.ireturn, 1) := by decide +kernel
theorem dX4_init_0 : decode cX4_init 0 = .ok (.aload_n 0, 1) := by decide +kernel
theorem dX4_init_1 : decode cX4_init 1 = .ok (.invokespecial 3, 3) := by decide +kernel
theorem dX4_init_4 : decode cX4_init 4 = .ok (.aload_n 0, 1) := by decide +kernel
theorem dX4_init_5 : decode cX4_init 5 = .ok (.iconst 0, 1) := by decide +kernel
theorem dX4_init_6 : decode cX4_init 6 = .ok (.putfield 9, 3) := by decide +kernel
theorem dX4_init_9 : decode cX4_init 9 = .ok (.aload_n 0, 1) := by decide +kernel
theorem dX4_init_10 : decode cX4_init 10 = .ok (.iconst 0, 1) := by decide +kernel
theorem dX4_init_11 : decode cX4_init 11 = .ok (.putfield 15, 3) := by decide +kernel
theorem dX4_init_14 : decode cX4_init 14 = .ok (.aload_n 0, 1) := by decide +kernel
theorem dX4_init_15 : decode cX4_init 15 = .ok (.bipush 60, 2) := by decide +kernel
theorem dX4_init_17 : decode cX4_init 17 = .ok (.newarray .int, 2) := by decide +kernel
theorem dX4_init_19 : decode cX4_init 19 = .ok (.putfield 18, 3) := by decide +kernel
theorem dX4_init_22 : decode cX4_init 22 = .ok (.return_, 1) := by decide +kernel
theorem dX4_copyFrom_0 : decode cX4_copyFrom 0 = .ok (.aload_n 0, 1) := by decide +kernel
theorem dX4_copyFrom_1 : decode cX4_copyFrom 1 = .ok (.aload_n 1, 1) := by decide +kernel
theorem dX4_copyFrom_2 : decode cX4_copyFrom 2 = .ok (.getfield 9, 3) := by decide +kernel
theorem dX4_copyFrom_5 : decode cX4_copyFrom 5 = .ok (.putfield 9, 3) := by decide +kernel
theorem dX4_copyFrom_8 : decode cX4_copyFrom 8 = .ok (.aload_n 0, 1) := by decide +kernel
theorem dX4_copyFrom_9 : decode cX4_copyFrom 9 = .ok (.aload_n 1, 1) := by decide +kernel
theorem dX4_copyFrom_10 : decode cX4_copyFrom 10 = .ok (.getfield 15, 3) := by decide +kernel
theorem dX4_copyFrom_13 : decode cX4_copyFrom 13 = .ok (.putfield 15, 3) := by decide +kernel
theorem dX4_copyFrom_16 : decode cX4_copyFrom 16 = .ok (.aload_n 1, 1) := by decide +kernel
theorem dX4_copyFrom_17 : decode cX4_copyFrom 17 = .ok (.getfield 18, 3) := by decide +kernel
theorem dX4_copyFrom_20 : decode cX4_copyFrom 20 = .ok (.iconst 0, 1) := by decide +kernel
theorem dX4_copyFrom_21 : decode cX4_copyFrom 21 = .ok (.aload_n 0, 1) := by decide +kernel
theorem dX4_copyFrom_22 : decode cX4_copyFrom 22 = .ok (.getfield 18, 3) := by decide +kernel
theorem dX4_copyFrom_25 : decode cX4_copyFrom 25 = .ok (.iconst 0, 1) := by decide +kernel
theorem dX4_copyFrom_26 : decode cX4_copyFrom 26 = .ok (.bipush 60, 2) := by decide +kernel
theorem dX4_copyFrom_28 : decode cX4_copyFrom 28 = .ok (.invokestatic 22, 3) := by decide +kernel
theorem dX4_copyFrom_31 : decode cX4_copyFrom 31 = .ok (.return_, 1) := by decide +kernel
theorem dX4_find_0 : decode cX4_find 0 = .ok (.iconst 0, 1) := by decide +kernel
theorem dX4_find_1 : decode cX4_find 1 = .ok (.istore_n 2, 1) := by decide +kernel
theorem dX4_find_2 : decode cX4_find 2 = .ok (.iload_n 2, 1) := by decide +kernel
theorem dX4_find_3 : decode cX4_find 3 = .ok (.aload_n 0, 1) := by decide +kernel
theorem dX4_find_4 : decode cX4_find 4 = .ok (.getfield 9, 3) := by decide +kernel
theorem dX4_find_7 : decode cX4_find 7 = .ok (.if_icmp .ge 21, 3) := by decide +kernel
theorem dX4_find_10 : decode cX4_find 10 = .ok (.aload_n 0, 1) := by decide +kernel
theorem dX4_find_11 : decode cX4_find 11 = .ok (.iload_n 2, 1) := by decide +kernel
theorem dX4_find_12 : decode cX4_find 12 = .ok (.iconst 0, 1) := by decide +kernel
theorem dX4_find_13 : decode cX4_find 13 = .ok (.invokevirtual 28, 3) := by decide +kernel
theorem dX4_find_16 : decode cX4_find 16 = .ok (.iload_n 1, 1) := by decide +kernel
theorem dX4_find_17 : decode cX4_find 17 = .ok (.if_icmp .ne 5, 3) := by decide +kernel
theorem dX4_find_20 : decode cX4_find 20 = .ok (.iload_n 2, 1) := by decide +kernel
theorem dX4_find_21 : decode cX4_find 21 = .ok (.ireturn, 1) := by decide +kernel
theorem dX4_find_22 : decode cX4_find 22 = .ok (.iinc 2 1, 3) := by decide +kernel
theorem dX4_find_25 : decode cX4_find 25 = .ok (.goto (-23), 3) := by decide +kernel
theorem dX4_find_28 : decode cX4_find 28 = .ok (.iconst (-1), 1) := by decide +kernel
theorem dX4_find_29 : decode cX4_find 29 = .ok (.ireturn, 1) := by decide +kernel
theorem dX4_append_0 : decode cX4_append 0 = .ok (.aload_n 0, 1) := by decide +kernel
theorem dX4_append_1 : decode cX4_append 1 = .ok (.getfield 9, 3) := by decide +kernel
theorem dX4_append_4 : decode cX4_append 4 = .ok (.bipush 15, 2) := by decide +kernel
theorem dX4_append_6 : decode cX4_append 6 = .ok (.if_icmp .lt 6, 3) := by decide +kernel
theorem dX4_append_9 : decode cX4_append 9 = .ok (.bipush (-4), 2) := by decide +kernel
theorem dX4_append_11 : decode cX4_append 11 = .ok (.ireturn, 1) := by decide +kernel
theorem dX4_append_12 : decode cX4_append 12 = .ok (.aload_n 0, 1) := by decide +kernel
theorem dX4_append_13 : decode cX4_append 13 = .ok (.getfield 9, 3) := by decide +kernel
theorem dX4_append_16 : decode cX4_append 16 = .ok (.istore 4, 2) := by decide +kernel
theorem dX4_append_18 : decode cX4_append 18 = .ok (.aload_n 0, 1) := by decide +kernel
theorem dX4_append_19 : decode cX4_append 19 = .ok (.dup, 1) := by decide +kernel
theorem dX4_append_20 : decode cX4_append 20 = .ok (.getfield 9, 3) := by decide +kernel
theorem dX4_append_23 : decode cX4_append 23 = .ok (.iconst 1, 1) := by decide +kernel
theorem dX4_append_24 : decode cX4_append 24 = .ok (.iadd, 1) := by decide +kernel
theorem dX4_append_25 : decode cX4_append 25 = .ok (.putfield 9, 3) := by decide +kernel
theorem dX4_append_28 : decode cX4_append 28 = .ok (.aload_n 0, 1) := by decide +kernel
theorem dX4_append_29 : decode cX4_append 29 = .ok (.dup, 1) := by decide +kernel
theorem dX4_append_30 : decode cX4_append 30 = .ok (.getfield 15, 3) := by decide +kernel
theorem dX4_append_33 : decode cX4_append 33 = .ok (.iconst 1, 1) := by decide +kernel
theorem dX4_append_34 : decode cX4_append 34 = .ok (.iadd, 1) := by decide +kernel
theorem dX4_append_35 : decode cX4_append 35 = .ok (.putfield 15, 3) := by decide +kernel
theorem dX4_append_38 : decode cX4_append 38 = .ok (.aload_n 0, 1) := by decide +kernel
theorem dX4_append_39 : decode cX4_append 39 = .ok (.iload 4, 2) := by decide +kernel
theorem dX4_append_41 : decode cX4_append 41 = .ok (.iconst 0, 1) := by decide +kernel
theorem dX4_append_42 : decode cX4_append 42 = .ok (.aload_n 0, 1) := by decide +kernel
theorem dX4_append_43 : decode cX4_append 43 = .ok (.getfield 15, 3) := by decide +kernel
theorem dX4_append_46 : decode cX4_append 46 = .ok (.invokevirtual 32, 3) := by decide +kernel
theorem dX4_append_49 : decode cX4_append 49 = .ok (.aload_n 0, 1) := by decide +kernel
theorem dX4_append_50 : decode cX4_append 50 = .ok (.iload 4, 2) := by decide +kernel
theorem dX4_append_52 : decode cX4_append 52 = .ok (.iconst 1, 1) := by decide +kernel
theorem dX4_append_53 : decode cX4_append 53 = .ok (.iload_n 1, 1) := by decide +kernel
theorem dX4_append_54 : decode cX4_append 54 = .ok (.invokevirtual 32, 3) := by decide +kernel
theorem dX4_append_57 : decode cX4_append 57 = .ok (.aload_n 0, 1) := by decide +kernel
theorem dX4_append_58 : decode cX4_append 58 = .ok (.iload 4, 2) := by decide +kernel
theorem dX4_append_60 : decode cX4_append 60 = .ok (.iconst 2, 1) := by decide +kernel
theorem dX4_append_61 : decode cX4_append 61 = .ok (.iload_n 2, 1) := by decide +kernel
theorem dX4_append_62 : decode cX4_append 62 = .ok (.invokevirtual 32, 3) := by decide +kernel
theorem dX4_append_65 : decode cX4_append 65 = .ok (.aload_n 0, 1) := by decide +kernel
theorem dX4_append_66 : decode cX4_append 66 = .ok (.iload 4, 2) := by decide +kernel
theorem dX4_append_68 : decode cX4_append 68 = .ok (.iconst 3, 1) := by decide +kernel
theorem dX4_append_69 : decode cX4_append 69 = .ok (.iload_n 3, 1) := by decide +kernel
theorem dX4_append_70 : decode cX4_append 70 = .ok (.invokevirtual 32, 3) := by decide +kernel
theorem dX4_append_73 : decode cX4_append 73 = .ok (.aload_n 0, 1) := by decide +kernel
theorem dX4_append_74 : decode cX4_append 74 = .ok (.getfield 15, 3) := by decide +kernel
theorem dX4_append_77 : decode cX4_append 77 = .ok (.ireturn, 1) := by decide +kernel
theorem dX4_remove_0 : decode cX4_remove 0 = .ok (.iload_n 1, 1) := by decide +kernel
theorem dX4_remove_1 : decode cX4_remove 1 = .ok (.ifCond .lt 11, 3) := by decide +kernel
theorem dX4_remove_4 : decode cX4_remove 4 = .ok (.iload_n 1, 1) := by decide +kernel
theorem dX4_remove_5 : decode cX4_remove 5 = .ok (.aload_n 0, 1) := by decide +kernel
theorem dX4_remove_6 : decode cX4_remove 6 = .ok (.getfield 9, 3) := by decide +kernel
theorem dX4_remove_9 : decode cX4_remove 9 = .ok (.if_icmp .lt 4, 3) := by decide +kernel
theorem dX4_remove_12 : decode cX4_remove 12 = .ok (.return_, 1) := by decide +kernel
theorem dX4_remove_13 : decode cX4_remove 13 = .ok (.iload_n 1, 1) := by decide +kernel
theorem dX4_remove_14 : decode cX4_remove 14 = .ok (.istore_n 2, 1) := by decide +kernel
theorem dX4_remove_15 : decode cX4_remove 15 = .ok (.iload_n 2, 1) := by decide +kernel
theorem dX4_remove_16 : decode cX4_remove 16 = .ok (.iconst 1, 1) := by decide +kernel
theorem dX4_remove_17 : decode cX4_remove 17 = .ok (.iadd, 1) := by decide +kernel
theorem dX4_remove_18 : decode cX4_remove 18 = .ok (.aload_n 0, 1) := by decide +kernel
theorem dX4_remove_19 : decode cX4_remove 19 = .ok (.getfield 9, 3) := by decide +kernel
theorem dX4_remove_22 : decode cX4_remove 22 = .ok (.if_icmp .ge 36, 3) := by decide +kernel
theorem dX4_remove_25 : decode cX4_remove 25 = .ok (.iconst 0, 1) := by decide +kernel
theorem dX4_remove_26 : decode cX4_remove 26 = .ok (.istore_n 3, 1) := by decide +kernel
theorem dX4_remove_27 : decode cX4_remove 27 = .ok (.iload_n 3, 1) := by decide +kernel
theorem dX4_remove_28 : decode cX4_remove 28 = .ok (.iconst 4, 1) := by decide +kernel
theorem dX4_remove_29 : decode cX4_remove 29 = .ok (.if_icmp .ge 23, 3) := by decide +kernel
theorem dX4_remove_32 : decode cX4_remove 32 = .ok (.aload_n 0, 1) := by decide +kernel
theorem dX4_remove_33 : decode cX4_remove 33 = .ok (.iload_n 2, 1) := by decide +kernel
theorem dX4_remove_34 : decode cX4_remove 34 = .ok (.iload_n 3, 1) := by decide +kernel
theorem dX4_remove_35 : decode cX4_remove 35 = .ok (.aload_n 0, 1) := by decide +kernel
theorem dX4_remove_36 : decode cX4_remove 36 = .ok (.iload_n 2, 1) := by decide +kernel
theorem dX4_remove_37 : decode cX4_remove 37 = .ok (.iconst 1, 1) := by decide +kernel
theorem dX4_remove_38 : decode cX4_remove 38 = .ok (.iadd, 1) := by decide +kernel
theorem dX4_remove_39 : decode cX4_remove 39 = .ok (.iload_n 3, 1) := by decide +kernel
theorem dX4_remove_40 : decode cX4_remove 40 = .ok (.invokevirtual 28, 3) := by decide +kernel
theorem dX4_remove_43 : decode cX4_remove 43 = .ok (.invokevirtual 32, 3) := by decide +kernel
theorem dX4_remove_46 : decode cX4_remove 46 = .ok (.iinc 3 1, 3) := by decide +kernel
theorem dX4_remove_49 : decode cX4_remove 49 = .ok (.goto (-22), 3) := by decide +kernel
theorem dX4_remove_52 : decode cX4_remove 52 = .ok (.iinc 2 1, 3) := by decide +kernel
theorem dX4_remove_55 : decode cX4_remove 55 = .ok (.goto (-40), 3) := by decide +kernel
theorem dX4_remove_58 : decode cX4_remove 58 = .ok (.aload_n 0, 1) := by decide +kernel
theorem dX4_remove_59 : decode cX4_remove 59 = .ok (.dup, 1) := by decide +kernel
theorem dX4_remove_60 : decode cX4_remove 60 = .ok (.getfield 9, 3) := by decide +kernel
theorem dX4_remove_63 : decode cX4_remove 63 = .ok (.iconst 1, 1) := by decide +kernel
theorem dX4_remove_64 : decode cX4_remove 64 = .ok (.isub, 1) := by decide +kernel
theorem dX4_remove_65 : decode cX4_remove 65 = .ok (.putfield 9, 3) := by decide +kernel
theorem dX4_remove_68 : decode cX4_remove 68 = .ok (.return_, 1) := by decide +kernel
theorem dX4_get_0 : decode cX4_get 0 = .ok (.iload_n 1, 1) := by decide +kernel
theorem dX4_get_1 : decode cX4_get 1 = .ok (.ifCond .lt 26, 3) := by decide +kernel
theorem dX4_get_4 : decode cX4_get 4 = .ok (.iload_n 1, 1) := by decide +kernel
theorem dX4_get_5 : decode cX4_get 5 = .ok (.aload_n 0, 1) := by decide +kernel
theorem dX4_get_6 : decode cX4_get 6 = .ok (.getfield 9, 3) := by decide +kernel
theorem dX4_get_9 : decode cX4_get 9 = .ok (.if_icmp .ge 18, 3) := by decide +kernel
theorem dX4_get_12 : decode cX4_get 12 = .ok (.iload_n 1, 1) := by decide +kernel
theorem dX4_get_13 : decode cX4_get 13 = .ok (.bipush 15, 2) := by decide +kernel
theorem dX4_get_15 : decode cX4_get 15 = .ok (.if_icmp .ge 12, 3) := by decide +kernel
theorem dX4_get_18 : decode cX4_get 18 = .ok (.iload_n 2, 1) := by decide +kernel
theorem dX4_get_19 : decode cX4_get 19 = .ok (.ifCond .lt 8, 3) := by decide +kernel
theorem dX4_get_22 : decode cX4_get 22 = .ok (.iload_n 2, 1) := by decide +kernel
theorem dX4_get_23 : decode cX4_get 23 = .ok (.iconst 4, 1) := by decide +kernel
theorem dX4_get_24 : decode cX4_get 24 = .ok (.if_icmp .lt 5, 3) := by decide +kernel
theorem dX4_get_27 : decode cX4_get 27 = .ok (.iconst 0, 1) := by decide +kernel
theorem dX4_get_28 : decode cX4_get 28 = .ok (.ireturn, 1) := by decide +kernel
theorem dX4_get_29 : decode cX4_get 29 = .ok (.aload_n 0, 1) := by decide +kernel
theorem dX4_get_30 : decode cX4_get 30 = .ok (.getfield 18, 3) := by decide +kernel
theorem dX4_get_33 : decode cX4_get 33 = .ok (.iload_n 1, 1) := by decide +kernel
theorem dX4_get_34 : decode cX4_get 34 = .ok (.iconst 4, 1) := by decide +kernel
theorem dX4_get_35 : decode cX4_get 35 = .ok (.imul, 1) := by decide +kernel
theorem dX4_get_36 : decode cX4_get 36 = .ok (.iload_n 2, 1) := by decide +kernel
theorem dX4_get_37 : decode cX4_get 37 = .ok (.iadd, 1) := by decide +kernel
theorem dX4_get_38 : decode cX4_get 38 = .ok (.iaload, 1) := by decide +kernel
theorem dX4_get_39 : decode cX4_get 39 = .ok (.ireturn, 1) := by decide +kernel
theorem dX4_set_0 : decode cX4_set 0 = .ok (.iload_n 1, 1) := by decide +kernel
theorem dX4_set_1 : decode cX4_set 1 = .ok (.ifCond .lt 26, 3) := by decide +kernel
theorem dX4_set_4 : decode cX4_set 4 = .ok (.iload_n 1, 1) := by decide +kernel
theorem dX4_set_5 : decode cX4_set 5 = .ok (.aload_n 0, 1) := by decide +kernel
theorem dX4_set_6 : decode cX4_set 6 = .ok (.getfield 9, 3) := by decide +kernel
theorem dX4_set_9 : decode cX4_set 9 = .ok (.if_icmp .ge 18, 3) := by decide +kernel
theorem dX4_set_12 : decode cX4_set 12 = .ok (.iload_n 1, 1) := by decide +kernel
theorem dX4_set_13 : decode cX4_set 13 = .ok (.bipush 15, 2) := by decide +kernel
theorem dX4_set_15 : decode cX4_set 15 = .ok (.if_icmp .ge 12, 3) := by decide +kernel
theorem dX4_set_18 : decode cX4_set 18 = .ok (.iload_n 2, 1) := by decide +kernel
theorem dX4_set_19 : decode cX4_set 19 = .ok (.ifCond .lt 8, 3) := by decide +kernel
theorem dX4_set_22 : decode cX4_set 22 = .ok (.iload_n 2, 1) := by decide +kernel
theorem dX4_set_23 : decode cX4_set 23 = .ok (.iconst 4, 1) := by decide +kernel
theorem dX4_set_24 : decode cX4_set 24 = .ok (.if_icmp .lt 4, 3) := by decide +kernel
theorem dX4_set_27 : decode cX4_set 27 = .ok (.return_, 1) := by decide +kernel
theorem dX4_set_28 : decode cX4_set 28 = .ok (.aload_n 0, 1) := by decide +kernel
theorem dX4_set_29 : decode cX4_set 29 = .ok (.getfield 18, 3) := by decide +kernel
theorem dX4_set_32 : decode cX4_set 32 = .ok (.iload_n 1, 1) := by decide +kernel
theorem dX4_set_33 : decode cX4_set 33 = .ok (.iconst 4, 1) := by decide +kernel
theorem dX4_set_34 : decode cX4_set 34 = .ok (.imul, 1) := by decide +kernel
theorem dX4_set_35 : decode cX4_set 35 = .ok (.iload_n 2, 1) := by decide +kernel
theorem dX4_set_36 : decode cX4_set 36 = .ok (.iadd, 1) := by decide +kernel
theorem dX4_set_37 : decode cX4_set 37 = .ok (.iload_n 3, 1) := by decide +kernel
theorem dX4_set_38 : decode cX4_set 38 = .ok (.iastore, 1) := by decide +kernel
theorem dX4_set_39 : decode cX4_set 39 = .ok (.return_, 1) := by decide +kernel
theorem dX4_countOf_0 : decode cX4_countOf 0 = .ok (.iconst 0, 1) := by decide +kernel
theorem dX4_countOf_1 : decode cX4_countOf 1 = .ok (.istore_n 2, 1) := by decide +kernel
theorem dX4_countOf_2 : decode cX4_countOf 2 = .ok (.iconst 0, 1) := by decide +kernel
theorem dX4_countOf_3 : decode cX4_countOf 3 = .ok (.istore_n 3, 1) := by decide +kernel
theorem dX4_countOf_4 : decode cX4_countOf 4 = .ok (.iload_n 3, 1) := by decide +kernel
theorem dX4_countOf_5 : decode cX4_countOf 5 = .ok (.aload_n 0, 1) := by decide +kernel
theorem dX4_countOf_6 : decode cX4_countOf 6 = .ok (.getfield 9, 3) := by decide +kernel
theorem dX4_countOf_9 : decode cX4_countOf 9 = .ok (.if_icmp .ge 22, 3) := by decide +kernel
theorem dX4_countOf_12 : decode cX4_countOf 12 = .ok (.aload_n 0, 1) := by decide +kernel
theorem dX4_countOf_13 : decode cX4_countOf 13 = .ok (.iload_n 3, 1) := by decide +kernel
theorem dX4_countOf_14 : decode cX4_countOf 14 = .ok (.iconst 1, 1) := by decide +kernel
theorem dX4_countOf_15 : decode cX4_countOf 15 = .ok (.invokevirtual 28, 3) := by decide +kernel
theorem dX4_countOf_18 : decode cX4_countOf 18 = .ok (.iload_n 1, 1) := by decide +kernel
theorem dX4_countOf_19 : decode cX4_countOf 19 = .ok (.if_icmp .ne 6, 3) := by decide +kernel
theorem dX4_countOf_22 : decode cX4_countOf 22 = .ok (.iinc 2 1, 3) := by decide +kernel
theorem dX4_countOf_25 : decode cX4_countOf 25 = .ok (.iinc 3 1, 3) := by decide +kernel
theorem dX4_countOf_28 : decode cX4_countOf 28 = .ok (.goto (-24), 3) := by decide +kernel
theorem dX4_countOf_31 : decode cX4_countOf 31 = .ok (.iload_n 2, 1) := by decide +kernel
theorem dX4_countOf_32 : decode cX4_countOf 32 = .ok (.ireturn, 1) := by decide +kernel
theorem dX4_sumOf_0 : decode cX4_sumOf 0 = .ok (.iconst 0, 1) := by decide +kernel
theorem dX4_sumOf_1 : decode cX4_sumOf 1 = .ok (.istore_n 3, 1) := by decide +kernel
theorem dX4_sumOf_2 : decode cX4_sumOf 2 = .ok (.iconst 0, 1) := by decide +kernel
theorem dX4_sumOf_3 : decode cX4_sumOf 3 = .ok (.istore 4, 2) := by decide +kernel
theorem dX4_sumOf_5 : decode cX4_sumOf 5 = .ok (.iload 4, 2) := by decide +kernel
theorem dX4_sumOf_7 : decode cX4_sumOf 7 = .ok (.aload_n 0, 1) := by decide +kernel
theorem dX4_sumOf_8 : decode cX4_sumOf 8 = .ok (.getfield 9, 3) := by decide +kernel
theorem dX4_sumOf_11 : decode cX4_sumOf 11 = .ok (.if_icmp .ge 30, 3) := by decide +kernel
theorem dX4_sumOf_14 : decode cX4_sumOf 14 = .ok (.aload_n 0, 1) := by decide +kernel
theorem dX4_sumOf_15 : decode cX4_sumOf 15 = .ok (.iload 4, 2) := by decide +kernel
theorem dX4_sumOf_17 : decode cX4_sumOf 17 = .ok (.iconst 1, 1) := by decide +kernel
theorem dX4_sumOf_18 : decode cX4_sumOf 18 = .ok (.invokevirtual 28, 3) := by decide +kernel
theorem dX4_sumOf_21 : decode cX4_sumOf 21 = .ok (.iload_n 1, 1) := by decide +kernel
theorem dX4_sumOf_22 : decode cX4_sumOf 22 = .ok (.if_icmp .ne 13, 3) := by decide +kernel
theorem dX4_sumOf_25 : decode cX4_sumOf 25 = .ok (.iload_n 3, 1) := by decide +kernel
theorem dX4_sumOf_26 : decode cX4_sumOf 26 = .ok (.aload_n 0, 1) := by decide +kernel
theorem dX4_sumOf_27 : decode cX4_sumOf 27 = .ok (.iload 4, 2) := by decide +kernel
theorem dX4_sumOf_29 : decode cX4_sumOf 29 = .ok (.iload_n 2, 1) := by decide +kernel
theorem dX4_sumOf_30 : decode cX4_sumOf 30 = .ok (.invokevirtual 28, 3) := by decide +kernel
theorem dX4_sumOf_33 : decode cX4_sumOf 33 = .ok (.iadd, 1) := by decide +kernel
theorem dX4_sumOf_34 : decode cX4_sumOf 34 = .ok (.istore_n 3, 1) := by decide +kernel
theorem dX4_sumOf_35 : decode cX4_sumOf 35 = .ok (.iinc 4 1, 3) := by decide +kernel
theorem dX4_sumOf_38 : decode cX4_sumOf 38 = .ok (.goto (-33), 3) := by decide +kernel
theorem dX4_sumOf_41 : decode cX4_sumOf 41 = .ok (.iload_n 3, 1) := by decide +kernel
theorem dX4_sumOf_42 : decode cX4_sumOf 42 = .ok (.ireturn, 1) := by decide +kernel
theorem dX4_sumOfAll_0 : decode cX4_sumOfAll 0 = .ok (.lconst 0, 1) := by decide +kernel
theorem dX4_sumOfAll_1 : decode cX4_sumOfAll 1 = .ok (.lstore_n 2, 1) := by decide +kernel
theorem dX4_sumOfAll_2 : decode cX4_sumOfAll 2 = .ok (.iconst 0, 1) := by decide +kernel
theorem dX4_sumOfAll_3 : decode cX4_sumOfAll 3 = .ok (.istore 4, 2) := by decide +kernel
theorem dX4_sumOfAll_5 : decode cX4_sumOfAll 5 = .ok (.iload 4, 2) := by decide +kernel
theorem dX4_sumOfAll_7 : decode cX4_sumOfAll 7 = .ok (.aload_n 0, 1) := by decide +kernel
theorem dX4_sumOfAll_8 : decode cX4_sumOfAll 8 = .ok (.getfield 9, 3) := by decide +kernel
theorem dX4_sumOfAll_11 : decode cX4_sumOfAll 11 = .ok (.if_icmp .ge 20, 3) := by decide +kernel
theorem dX4_sumOfAll_14 : decode cX4_sumOfAll 14 = .ok (.lload_n 2, 1) := by decide +kernel
theorem dX4_sumOfAll_15 : decode cX4_sumOfAll 15 = .ok (.aload_n 0, 1) := by decide +kernel
theorem dX4_sumOfAll_16 : decode cX4_sumOfAll 16 = .ok (.iload 4, 2) := by decide +kernel
theorem dX4_sumOfAll_18 : decode cX4_sumOfAll 18 = .ok (.iload_n 1, 1) := by decide +kernel
theorem dX4_sumOfAll_19 : decode cX4_sumOfAll 19 = .ok (.invokevirtual 28, 3) := by decide +kernel
theorem dX4_sumOfAll_22 : decode cX4_sumOfAll 22 = .ok (.i2l, 1) := by decide +kernel
theorem dX4_sumOfAll_23 : decode cX4_sumOfAll 23 = .ok (.ladd, 1) := by decide +kernel
theorem dX4_sumOfAll_24 : decode cX4_sumOfAll 24 = .ok (.lstore_n 2, 1) := by decide +kernel
theorem dX4_sumOfAll_25 : decode cX4_sumOfAll 25 = .ok (.iinc 4 1, 3) := by decide +kernel
theorem dX4_sumOfAll_28 : decode cX4_sumOfAll 28 = .ok (.goto (-23), 3) := by decide +kernel
theorem dX4_sumOfAll_31 : decode cX4_sumOfAll 31 = .ok (.lload_n 2, 1) := by decide +kernel
theorem dX4_sumOfAll_32 : decode cX4_sumOfAll 32 = .ok (.lreturn, 1) := by decide +kernel
theorem dX5_init_0 : decode cX5_init 0 = .ok (.aload_n 0, 1) := by decide +kernel
theorem dX5_init_1 : decode cX5_init 1 = .ok (.invokespecial 3, 3) := by decide +kernel
theorem dX5_init_4 : decode cX5_init 4 = .ok (.aload_n 0, 1) := by decide +kernel
theorem dX5_init_5 : decode cX5_init 5 = .ok (.new 9, 3) := by decide +kernel
theorem dX5_init_8 : decode cX5_init 8 = .ok (.dup, 1) := by decide +kernel
theorem dX5_init_9 : decode cX5_init 9 = .ok (.invokespecial 11, 3) := by decide +kernel
theorem dX5_init_12 : decode cX5_init 12 = .ok (.putfield 12, 3) := by decide +kernel
theorem dX5_init_15 : decode cX5_init 15 = .ok (.aload_n 0, 1) := by decide +kernel
theorem dX5_init_16 : decode cX5_init 16 = .ok (.new 18, 3) := by decide +kernel
theorem dX5_init_19 : decode cX5_init 19 = .ok (.dup, 1) := by decide +kernel
theorem dX5_init_20 : decode cX5_init 20 = .ok (.invokespecial 20, 3) := by decide +kernel
theorem dX5_init_23 : decode cX5_init 23 = .ok (.putfield 21, 3) := by decide +kernel
theorem dX5_init_26 : decode cX5_init 26 = .ok (.aload_n 0, 1) := by decide +kernel
theorem dX5_init_27 : decode cX5_init 27 = .ok (.new 18, 3) := by decide +kernel
theorem dX5_init_30 : decode cX5_init 30 = .ok (.dup, 1) := by decide +kernel
theorem dX5_init_31 : decode cX5_init 31 = .ok (.invokespecial 20, 3) := by decide +kernel
theorem dX5_init_34 : decode cX5_init 34 = .ok (.putfield 25, 3) := by decide +kernel
theorem dX5_init_37 : decode cX5_init 37 = .ok (.aload_n 0, 1) := by decide +kernel
theorem dX5_init_38 : decode cX5_init 38 = .ok (.new 28, 3) := by decide +kernel
theorem dX5_init_41 : decode cX5_init 41 = .ok (.dup, 1) := by decide +kernel
theorem dX5_init_42 : decode cX5_init 42 = .ok (.invokespecial 30, 3) := by decide +kernel
theorem dX5_init_45 : decode cX5_init 45 = .ok (.putfield 31, 3) := by decide +kernel
theorem dX5_init_48 : decode cX5_init 48 = .ok (.aload_n 0, 1) := by decide +kernel
theorem dX5_init_49 : decode cX5_init 49 = .ok (.iconst 0, 1) := by decide +kernel
theorem dX5_init_50 : decode cX5_init 50 = .ok (.putfield 35, 3) := by decide +kernel
theorem dX5_init_53 : decode cX5_init 53 = .ok (.aload_n 0, 1) := by decide +kernel
theorem dX5_init_54 : decode cX5_init 54 = .ok (.ldc 39, 2) := by decide +kernel
theorem dX5_init_56 : decode cX5_init 56 = .ok (.putfield 40, 3) := by decide +kernel
theorem dX5_init_59 : decode cX5_init 59 = .ok (.aload_n 0, 1) := by decide +kernel
theorem dX5_init_60 : decode cX5_init 60 = .ok (.bipush 100, 2) := by decide +kernel
theorem dX5_init_62 : decode cX5_init 62 = .ok (.putfield 43, 3) := by decide +kernel
theorem dX5_init_65 : decode cX5_init 65 = .ok (.aload_n 0, 1) := by decide +kernel
theorem dX5_init_66 : decode cX5_init 66 = .ok (.sipush 250, 3) := by decide +kernel
theorem dX5_init_69 : decode cX5_init 69 = .ok (.putfield 46, 3) := by decide +kernel
theorem dX5_init_72 : decode cX5_init 72 = .ok (.aload_n 0, 1) := by decide +kernel
theorem dX5_init_73 : decode cX5_init 73 = .ok (.bipush 20, 2) := by decide +kernel
theorem dX5_init_75 : decode cX5_init 75 = .ok (.putfield 49, 3) := by decide +kernel
theorem dX5_init_78 : decode cX5_init 78 = .ok (.aload_n 0, 1) := by decide +kernel
theorem dX5_init_79 : decode cX5_init 79 = .ok (.lconst 0, 1) := by decide +kernel
theorem dX5_init_80 : decode cX5_init 80 = .ok (.putfield 52, 3) := by decide +kernel
theorem dX5_init_83 : decode cX5_init 83 = .ok (.aload_n 0, 1) := by decide +kernel
theorem dX5_init_84 : decode cX5_init 84 = .ok (.lconst 0, 1) := by decide +kernel
theorem dX5_init_85 : decode cX5_init 85 = .ok (.putfield 56, 3) := by decide +kernel
theorem dX5_init_88 : decode cX5_init 88 = .ok (.aload_n 0, 1) := by decide +kernel
theorem dX5_init_89 : decode cX5_init 89 = .ok (.lconst 0, 1) := by decide +kernel
theorem dX5_init_90 : decode cX5_init 90 = .ok (.putfield 59, 3) := by decide +kernel
theorem dX5_init_93 : decode cX5_init 93 = .ok (.aload_n 0, 1) := by decide +kernel
theorem dX5_init_94 : decode cX5_init 94 = .ok (.lconst 0, 1) := by decide +kernel
theorem dX5_init_95 : decode cX5_init 95 = .ok (.putfield 62, 3) := by decide +kernel
theorem dX5_init_98 : decode cX5_init 98 = .ok (.return_, 1) := by decide +kernel
theorem dX5_copyFrom_0 : decode cX5_copyFrom 0 = .ok (.aload_n 0, 1) := by decide +kernel
theorem dX5_copyFrom_1 : decode cX5_copyFrom 1 = .ok (.getfield 12, 3) := by decide +kernel
theorem dX5_copyFrom_4 : decode cX5_copyFrom 4 = .ok (.aload_n 1, 1) := by decide +kernel
theorem dX5_copyFrom_5 : decode cX5_copyFrom 5 = .ok (.getfield 12, 3) := by decide +kernel
theorem dX5_copyFrom_8 : decode cX5_copyFrom 8 = .ok (.invokevirtual 65, 3) := by decide +kernel
theorem dX5_copyFrom_11 : decode cX5_copyFrom 11 = .ok (.aload_n 0, 1) := by decide +kernel
theorem dX5_copyFrom_12 : decode cX5_copyFrom 12 = .ok (.getfield 21, 3) := by decide +kernel
theorem dX5_copyFrom_15 : decode cX5_copyFrom 15 = .ok (.aload_n 1, 1) := by decide +kernel
theorem dX5_copyFrom_16 : decode cX5_copyFrom 16 = .ok (.getfield 21, 3) := by decide +kernel
theorem dX5_copyFrom_19 : decode cX5_copyFrom 19 = .ok (.invokevirtual 69, 3) := by decide +kernel
theorem dX5_copyFrom_22 : decode cX5_copyFrom 22 = .ok (.aload_n 0, 1) := by decide +kernel
theorem dX5_copyFrom_23 : decode cX5_copyFrom 23 = .ok (.getfield 25, 3) := by decide +kernel
theorem dX5_copyFrom_26 : decode cX5_copyFrom 26 = .ok (.aload_n 1, 1) := by decide +kernel
theorem dX5_copyFrom_27 : decode cX5_copyFrom 27 = .ok (.getfield 25, 3) := by decide +kernel
theorem dX5_copyFrom_30 : decode cX5_copyFrom 30 = .ok (.invokevirtual 69, 3) := by decide +kernel
theorem dX5_copyFrom_33 : decode cX5_copyFrom 33 = .ok (.aload_n 0, 1) := by decide +kernel
theorem dX5_copyFrom_34 : decode cX5_copyFrom 34 = .ok (.getfield 31, 3) := by decide +kernel
theorem dX5_copyFrom_37 : decode cX5_copyFrom 37 = .ok (.aload_n 1, 1) := by decide +kernel
theorem dX5_copyFrom_38 : decode cX5_copyFrom 38 = .ok (.getfield 31, 3) := by decide +kernel
theorem dX5_copyFrom_41 : decode cX5_copyFrom 41 = .ok (.invokevirtual 72, 3) := by decide +kernel
theorem dX5_copyFrom_44 : decode cX5_copyFrom 44 = .ok (.aload_n 0, 1) := by decide +kernel
theorem dX5_copyFrom_45 : decode cX5_copyFrom 45 = .ok (.aload_n 1, 1) := by decide +kernel
theorem dX5_copyFrom_46 : decode cX5_copyFrom 46 = .ok (.getfield 35, 3) := by decide +kernel
theorem dX5_copyFrom_49 : decode cX5_copyFrom 49 = .ok (.putfield 35, 3) := by decide +kernel
theorem dX5_copyFrom_52 : decode cX5_copyFrom 52 = .ok (.aload_n 0, 1) := by decide +kernel
theorem dX5_copyFrom_53 : decode cX5_copyFrom 53 = .ok (.aload_n 1, 1) := by decide +kernel
theorem dX5_copyFrom_54 : decode cX5_copyFrom 54 = .ok (.getfield 40, 3) := by decide +kernel
theorem dX5_copyFrom_57 : decode cX5_copyFrom 57 = .ok (.putfield 40, 3) := by decide +kernel
theorem dX5_copyFrom_60 : decode cX5_copyFrom 60 = .ok (.aload_n 0, 1) := by decide +kernel
theorem dX5_copyFrom_61 : decode cX5_copyFrom 61 = .ok (.aload_n 1, 1) := by decide +kernel
theorem dX5_copyFrom_62 : decode cX5_copyFrom 62 = .ok (.getfield 43, 3) := by decide +kernel
theorem dX5_copyFrom_65 : decode cX5_copyFrom 65 = .ok (.putfield 43, 3) := by decide +kernel
theorem dX5_copyFrom_68 : decode cX5_copyFrom 68 = .ok (.aload_n 0, 1) := by decide +kernel
theorem dX5_copyFrom_69 : decode cX5_copyFrom 69 = .ok (.aload_n 1, 1) := by decide +kernel
theorem dX5_copyFrom_70 : decode cX5_copyFrom 70 = .ok (.getfield 46, 3) := by decide +kernel
theorem dX5_copyFrom_73 : decode cX5_copyFrom 73 = .ok (.putfield 46, 3) := by decide +kernel
theorem dX5_copyFrom_76 : decode cX5_copyFrom 76 = .ok (.aload_n 0, 1) := by decide +kernel
theorem dX5_copyFrom_77 : decode cX5_copyFrom 77 = .ok (.aload_n 1, 1) := by decide +kernel
theorem dX5_copyFrom_78 : decode cX5_copyFrom 78 = .ok (.getfield 49, 3) := by decide +kernel
theorem dX5_copyFrom_81 : decode cX5_copyFrom 81 = .ok (.putfield 49, 3) := by decide +kernel
theorem dX5_copyFrom_84 : decode cX5_copyFrom 84 = .ok (.aload_n 0, 1) := by decide +kernel
theorem dX5_copyFrom_85 : decode cX5_copyFrom 85 = .ok (.aload_n 1, 1) := by decide +kernel
theorem dX5_copyFrom_86 : decode cX5_copyFrom 86 = .ok (.getfield 52, 3) := by decide +kernel
theorem dX5_copyFrom_89 : decode cX5_copyFrom 89 = .ok (.putfield 52, 3) := by decide +kernel
theorem dX5_copyFrom_92 : decode cX5_copyFrom 92 = .ok (.aload_n 0, 1) := by decide +kernel
theorem dX5_copyFrom_93 : decode cX5_copyFrom 93 = .ok (.aload_n 1, 1) := by decide +kernel
theorem dX5_copyFrom_94 : decode cX5_copyFrom 94 = .ok (.getfield 56, 3) := by decide +kernel
theorem dX5_copyFrom_97 : decode cX5_copyFrom 97 = .ok (.putfield 56, 3) := by decide +kernel
theorem dX5_copyFrom_100 : decode cX5_copyFrom 100 = .ok (.aload_n 0, 1) := by decide +kernel
theorem dX5_copyFrom_101 : decode cX5_copyFrom 101 = .ok (.aload_n 1, 1) := by decide +kernel
theorem dX5_copyFrom_102 : decode cX5_copyFrom 102 = .ok (.getfield 59, 3) := by decide +kernel
theorem dX5_copyFrom_105 : decode cX5_copyFrom 105 = .ok (.putfield 59, 3) := by decide +kernel
theorem dX5_copyFrom_108 : decode cX5_copyFrom 108 = .ok (.aload_n 0, 1) := by decide +kernel
theorem dX5_copyFrom_109 : decode cX5_copyFrom 109 = .ok (.aload_n 1, 1) := by decide +kernel
theorem dX5_copyFrom_110 : decode cX5_copyFrom 110 = .ok (.getfield 62, 3) := by decide +kernel
theorem dX5_copyFrom_113 : decode cX5_copyFrom 113 = .ok (.putfield 62, 3) := by decide +kernel
theorem dX5_copyFrom_116 : decode cX5_copyFrom 116 = .ok (.return_, 1) := by decide +kernel
theorem dX5_changeRates_0 : decode cX5_changeRates 0 = .ok (.iload_n 1, 1) := by decide +kernel
theorem dX5_changeRates_1 : decode cX5_changeRates 1 = .ok (.ifCond .lt 31, 3) := by decide +kernel
theorem dX5_changeRates_4 : decode cX5_changeRates 4 = .ok (.iload_n 1, 1) := by decide +kernel
theorem dX5_changeRates_5 : decode cX5_changeRates 5 = .ok (.ldc 75, 2) := by decide +kernel
theorem dX5_changeRates_7 : decode cX5_changeRates 7 = .ok (.if_icmp .gt 25, 3) := by decide +kernel
theorem dX5_changeRates_10 : decode cX5_changeRates 10 = .ok (.iload_n 2, 1) := by decide +kernel
theorem dX5_changeRates_11 : decode cX5_changeRates 11 = .ok (.ifCond .lt 21, 3) := by decide +kernel
theorem dX5_changeRates_14 : decode cX5_changeRates 14 = .ok (.iload_n 2, 1) := by decide +kernel
theorem dX5_changeRates_15 : decode cX5_changeRates 15 = .ok (.sipush 2000, 3) := by decide +kernel
theorem dX5_changeRates_18 : decode cX5_changeRates 18 = .ok (.if_icmp .gt 14, 3) := by decide +kernel
theorem dX5_changeRates_21 : decode cX5_changeRates 21 = .ok (.iload_n 3, 1) := by decide +kernel
theorem dX5_changeRates_22 : decode cX5_changeRates 22 = .ok (.ifCond .lt 10, 3) := by decide +kernel
theorem dX5_changeRates_25 : decode cX5_changeRates 25 = .ok (.iload_n 3, 1) := by decide +kernel
theorem dX5_changeRates_26 : decode cX5_changeRates 26 = .ok (.sipush 2000, 3) := by decide +kernel
theorem dX5_changeRates_29 : decode cX5_changeRates 29 = .ok (.if_icmp .le 6, 3) := by decide +kernel
theorem dX5_changeRates_32 : decode cX5_changeRates 32 = .ok (.bipush (-2), 2) := by decide +kernel
theorem dX5_changeRates_34 : decode cX5_changeRates 34 = .ok (.ireturn, 1) := by decide +kernel
theorem dX5_changeRates_35 : decode cX5_changeRates 35 = .ok (.aload_n 0, 1) := by decide +kernel
theorem dX5_changeRates_36 : decode cX5_changeRates 36 = .ok (.getfield 40, 3) := by decide +kernel
theorem dX5_changeRates_39 : decode cX5_changeRates 39 = .ok (.istore 4, 2) := by decide +kernel
theorem dX5_changeRates_41 : decode cX5_changeRates 41 = .ok (.aload_n 0, 1) := by decide +kernel
theorem dX5_changeRates_42 : decode cX5_changeRates 42 = .ok (.iload_n 1, 1) := by decide +kernel
theorem dX5_changeRates_43 : decode cX5_changeRates 43 = .ok (.putfield 40, 3) := by decide +kernel
theorem dX5_changeRates_46 : decode cX5_changeRates 46 = .ok (.aload_n 0, 1) := by decide +kernel
theorem dX5_changeRates_47 : decode cX5_changeRates 47 = .ok (.iload_n 2, 1) := by decide +kernel
theorem dX5_changeRates_48 : decode cX5_changeRates 48 = .ok (.putfield 43, 3) := by decide +kernel
theorem dX5_changeRates_51 : decode cX5_changeRates 51 = .ok (.aload_n 0, 1) := by decide +kernel
theorem dX5_changeRates_52 : decode cX5_changeRates 52 = .ok (.iload_n 3, 1) := by decide +kernel
theorem dX5_changeRates_53 : decode cX5_changeRates 53 = .ok (.putfield 46, 3) := by decide +kernel
theorem dX5_changeRates_56 : decode cX5_changeRates 56 = .ok (.iload 4, 2) := by decide +kernel
theorem dX5_changeRates_58 : decode cX5_changeRates 58 = .ok (.ireturn, 1) := by decide +kernel
theorem dX5_changeThreshold_0 : decode cX5_changeThreshold 0 = .ok (.iload_n 1, 1) := by decide +kernel
theorem dX5_changeThreshold_1 : decode cX5_changeThreshold 1 = .ok (.ifCond .lt 10, 3) := by decide +kernel
theorem dX5_changeThreshold_4 : decode cX5_changeThreshold 4 = .ok (.iload_n 1, 1) := by decide +kernel
theorem dX5_changeThreshold_5 : decode cX5_changeThreshold 5 = .ok (.sipush 10000, 3) := by decide +kernel
theorem dX5_changeThreshold_8 : decode cX5_changeThreshold 8 = .ok (.if_icmp .le 6, 3) := by decide +kernel
theorem dX5_changeThreshold_11 : decode cX5_changeThreshold 11 = .ok (.bipush (-2), 2) := by decide +kernel
theorem dX5_changeThreshold_13 : decode cX5_changeThreshold 13 = .ok (.ireturn, 1) := by decide +kernel
theorem dX5_changeThreshold_14 : decode cX5_changeThreshold 14 = .ok (.aload_n 0, 1) := by decide +kernel
theorem dX5_changeThreshold_15 : decode cX5_changeThreshold 15 = .ok (.getfield 49, 3) := by decide +kernel
theorem dX5_changeThreshold_18 : decode cX5_changeThreshold 18 = .ok (.istore_n 2, 1) := by decide +kernel
theorem dX5_changeThreshold_19 : decode cX5_changeThreshold 19 = .ok (.aload_n 0, 1) := by decide +kernel
theorem dX5_changeThreshold_20 : decode cX5_changeThreshold 20 = .ok (.iload_n 1, 1) := by decide +kernel
theorem dX5_changeThreshold_21 : decode cX5_changeThreshold 21 = .ok (.putfield 49, 3) := by decide +kernel
theorem dX5_changeThreshold_24 : decode cX5_changeThreshold 24 = .ok (.iload_n 2, 1) := by decide +kernel
theorem dX5_changeThreshold_25 : decode cX5_changeThreshold 25 = .ok (.ireturn, 1) := by decide +kernel
theorem dX5_openAccount_0 : decode cX5_openAccount 0 = .ok (.iload_n 1, 1) := by decide +kernel
theorem dX5_openAccount_1 : decode cX5_openAccount 1 = .ok (.iconst 1, 1) := by decide +kernel
theorem dX5_openAccount_2 : decode cX5_openAccount 2 = .ok (.if_icmp .lt 9, 3) := by decide +kernel
theorem dX5_openAccount_5 : decode cX5_openAccount 5 = .ok (.iload_n 1, 1) := by decide +kernel
theorem dX5_openAccount_6 : decode cX5_openAccount 6 = .ok (.bipush 99, 2) := by decide +kernel
theorem dX5_openAccount_8 : decode cX5_openAccount 8 = .ok (.if_icmp .le 6, 3) := by decide +kernel
theorem dX5_openAccount_11 : decode cX5_openAccount 11 = .ok (.bipush (-2), 2) := by decide +kernel
theorem dX5_openAccount_13 : decode cX5_openAccount 13 = .ok (.ireturn, 1) := by decide +kernel
theorem dX5_openAccount_14 : decode cX5_openAccount 14 = .ok (.aload_n 0, 1) := by decide +kernel
theorem dX5_openAccount_15 : decode cX5_openAccount 15 = .ok (.getfield 12, 3) := by decide +kernel
theorem dX5_openAccount_18 : decode cX5_openAccount 18 = .ok (.iload_n 1, 1) := by decide +kernel
theorem dX5_openAccount_19 : decode cX5_openAccount 19 = .ok (.invokevirtual 76, 3) := by decide +kernel
theorem dX5_openAccount_22 : decode cX5_openAccount 22 = .ok (.ifCond .lt 6, 3) := by decide +kernel
theorem dX5_openAccount_25 : decode cX5_openAccount 25 = .ok (.bipush (-3), 2) := by decide +kernel
theorem dX5_openAccount_27 : decode cX5_openAccount 27 = .ok (.ireturn, 1) := by decide +kernel
theorem dX5_openAccount_28 : decode cX5_openAccount 28 = .ok (.aload_n 0, 1) := by decide +kernel
theorem dX5_openAccount_29 : decode cX5_openAccount 29 = .ok (.getfield 12, 3) := by decide +kernel
theorem dX5_openAccount_32 : decode cX5_openAccount 32 = .ok (.getfield 80, 3) := by decide +kernel
theorem dX5_openAccount_35 : decode cX5_openAccount 35 = .ok (.bipush 12, 2) := by decide +kernel
theorem dX5_openAccount_37 : decode cX5_openAccount 37 = .ok (.if_icmp .lt 6, 3) := by decide +kernel
theorem dX5_openAccount_40 : decode cX5_openAccount 40 = .ok (.bipush (-4), 2) := by decide +kernel
theorem dX5_openAccount_42 : decode cX5_openAccount 42 = .ok (.ireturn, 1) := by decide +kernel
theorem dX5_openAccount_43 : decode cX5_openAccount 43 = .ok (.aload_n 0, 1) := by decide +kernel
theorem dX5_openAccount_44 : decode cX5_openAccount 44 = .ok (.getfield 12, 3) := by decide +kernel
theorem dX5_openAccount_47 : decode cX5_openAccount 47 = .ok (.iload_n 1, 1) := by decide +kernel
theorem dX5_openAccount_48 : decode cX5_openAccount 48 = .ok (.aload_n 0, 1) := by decide +kernel
theorem dX5_openAccount_49 : decode cX5_openAccount 49 = .ok (.getfield 35, 3) := by decide +kernel
theorem dX5_openAccount_52 : decode cX5_openAccount 52 = .ok (.invokevirtual 83, 3) := by decide +kernel
theorem dX5_openAccount_55 : decode cX5_openAccount 55 = .ok (.aload_n 0, 1) := by decide +kernel
theorem dX5_openAccount_56 : decode cX5_openAccount 56 = .ok (.getfield 12, 3) := by decide +kernel
theorem dX5_openAccount_59 : decode cX5_openAccount 59 = .ok (.getfield 80, 3) := by decide +kernel
theorem dX5_openAccount_62 : decode cX5_openAccount 62 = .ok (.ireturn, 1) := by decide +kernel
theorem dX5_closeAccount_0 : decode cX5_closeAccount 0 = .ok (.aload_n 0, 1) := by decide +kernel
theorem dX5_closeAccount_1 : decode cX5_closeAccount 1 = .ok (.getfield 12, 3) := by decide +kernel
theorem dX5_closeAccount_4 : decode cX5_closeAccount 4 = .ok (.iload_n 1, 1) := by decide +kernel
theorem dX5_closeAccount_5 : decode cX5_closeAccount 5 = .ok (.invokevirtual 76, 3) := by decide +kernel
theorem dX5_closeAccount_8 : decode cX5_closeAccount 8 = .ok (.istore_n 2, 1) := by decide +kernel
theorem dX5_closeAccount_9 : decode cX5_closeAccount 9 = .ok (.iload_n 2, 1) := by decide +kernel
theorem dX5_closeAccount_10 : decode cX5_closeAccount 10 = .ok (.ifCond .ge 5, 3) := by decide +kernel
theorem dX5_closeAccount_13 : decode cX5_closeAccount 13 = .ok (.iconst (-1), 1) := by decide +kernel
theorem dX5_closeAccount_14 : decode cX5_closeAccount 14 = .ok (.ireturn, 1) := by decide +kernel
theorem dX5_closeAccount_15 : decode cX5_closeAccount 15 = .ok (.aload_n 0, 1) := by decide +kernel
theorem dX5_closeAccount_16 : decode cX5_closeAccount 16 = .ok (.getfield 12, 3) := by decide +kernel
theorem dX5_closeAccount_19 : decode cX5_closeAccount 19 = .ok (.iload_n 2, 1) := by decide +kernel
theorem dX5_closeAccount_20 : decode cX5_closeAccount 20 = .ok (.invokevirtual 87, 3) := by decide +kernel
theorem dX5_closeAccount_23 : decode cX5_closeAccount 23 = .ok (.ifCond .ne 14, 3) := by decide +kernel
theorem dX5_closeAccount_26 : decode cX5_closeAccount 26 = .ok (.aload_n 0, 1) := by decide +kernel
theorem dX5_closeAccount_27 : decode cX5_closeAccount 27 = .ok (.getfield 25, 3) := by decide +kernel
theorem dX5_closeAccount_30 : decode cX5_closeAccount 30 = .ok (.iload_n 1, 1) := by decide +kernel
theorem dX5_closeAccount_31 : decode cX5_closeAccount 31 = .ok (.invokevirtual 90, 3) := by decide +kernel
theorem dX5_closeAccount_34 : decode cX5_closeAccount 34 = .ok (.ifCond .le 6, 3) := by decide +kernel
theorem dX5_closeAccount_37 : decode cX5_closeAccount 37 = .ok (.bipush (-3), 2) := by decide +kernel
theorem dX5_closeAccount_39 : decode cX5_closeAccount 39 = .ok (.ireturn, 1) := by decide +kernel
theorem dX5_closeAccount_40 : decode cX5_closeAccount 40 = .ok (.aload_n 0, 1) := by decide +kernel
theorem dX5_closeAccount_41 : decode cX5_closeAccount 41 = .ok (.getfield 12, 3) := by decide +kernel
theorem dX5_closeAccount_44 : decode cX5_closeAccount 44 = .ok (.iload_n 2, 1) := by decide +kernel
theorem dX5_closeAccount_45 : decode cX5_closeAccount 45 = .ok (.invokevirtual 93, 3) := by decide +kernel
theorem dX5_closeAccount_48 : decode cX5_closeAccount 48 = .ok (.aload_n 0, 1) := by decide +kernel
theorem dX5_closeAccount_49 : decode cX5_closeAccount 49 = .ok (.getfield 12, 3) := by decide +kernel
theorem dX5_closeAccount_52 : decode cX5_closeAccount 52 = .ok (.getfield 80, 3) := by decide +kernel
theorem dX5_closeAccount_55 : decode cX5_closeAccount 55 = .ok (.ireturn, 1) := by decide +kernel
theorem dX5_takeReceipt_0 : decode cX5_takeReceipt 0 = .ok (.aload_n 0, 1) := by decide +kernel
theorem dX5_takeReceipt_1 : decode cX5_takeReceipt 1 = .ok (.getfield 12, 3) := by decide +kernel
theorem dX5_takeReceipt_4 : decode cX5_takeReceipt 4 = .ok (.iload_n 1, 1) := by decide +kernel
theorem dX5_takeReceipt_5 : decode cX5_takeReceipt 5 = .ok (.invokevirtual 76, 3) := by decide +kernel
theorem dX5_takeReceipt_8 : decode cX5_takeReceipt 8 = .ok (.istore_n 3, 1) := by decide +kernel
theorem dX5_takeReceipt_9 : decode cX5_takeReceipt 9 = .ok (.iload_n 3, 1) := by decide +kernel
theorem dX5_takeReceipt_10 : decode cX5_takeReceipt 10 = .ok (.ifCond .ge 5, 3) := by decide +kernel
theorem dX5_takeReceipt_13 : decode cX5_takeReceipt 13 = .ok (.iconst (-1), 1) := by decide +kernel
theorem dX5_takeReceipt_14 : decode cX5_takeReceipt 14 = .ok (.ireturn, 1) := by decide +kernel
theorem dX5_takeReceipt_15 : decode cX5_takeReceipt 15 = .ok (.iload_n 2, 1) := by decide +kernel
theorem dX5_takeReceipt_16 : decode cX5_takeReceipt 16 = .ok (.invokestatic 97, 3) := by decide +kernel
theorem dX5_takeReceipt_19 : decode cX5_takeReceipt 19 = .ok (.ifCond .ne 6, 3) := by decide +kernel
theorem dX5_takeReceipt_22 : decode cX5_takeReceipt 22 = .ok (.bipush (-2), 2) := by decide +kernel
theorem dX5_takeReceipt_24 : decode cX5_takeReceipt 24 = .ok (.ireturn, 1) := by decide +kernel
theorem dX5_takeReceipt_25 : decode cX5_takeReceipt 25 = .ok (.aload_n 0, 1) := by decide +kernel
theorem dX5_takeReceipt_26 : decode cX5_takeReceipt 26 = .ok (.getfield 12, 3) := by decide +kernel
theorem dX5_takeReceipt_29 : decode cX5_takeReceipt 29 = .ok (.iload_n 3, 1) := by decide +kernel
theorem dX5_takeReceipt_30 : decode cX5_takeReceipt 30 = .ok (.invokevirtual 87, 3) := by decide +kernel
theorem dX5_takeReceipt_33 : decode cX5_takeReceipt 33 = .ok (.ldc 75, 2) := by decide +kernel
theorem dX5_takeReceipt_35 : decode cX5_takeReceipt 35 = .ok (.iload_n 2, 1) := by decide +kernel
theorem dX5_takeReceipt_36 : decode cX5_takeReceipt 36 = .ok (.isub, 1) := by decide +kernel
theorem dX5_takeReceipt_37 : decode cX5_takeReceipt 37 = .ok (.if_icmp .le 6, 3) := by decide +kernel
theorem dX5_takeReceipt_40 : decode cX5_takeReceipt 40 = .ok (.bipush (-4), 2) := by decide +kernel
theorem dX5_takeReceipt_42 : decode cX5_takeReceipt 42 = .ok (.ireturn, 1) := by decide +kernel
theorem dX5_takeReceipt_43 : decode cX5_takeReceipt 43 = .ok (.aload_n 0, 1) := by decide +kernel
theorem dX5_takeReceipt_44 : decode cX5_takeReceipt 44 = .ok (.getfield 12, 3) := by decide +kernel
theorem dX5_takeReceipt_47 : decode cX5_takeReceipt 47 = .ok (.iload_n 3, 1) := by decide +kernel
theorem dX5_takeReceipt_48 : decode cX5_takeReceipt 48 = .ok (.iload_n 2, 1) := by decide +kernel
theorem dX5_takeReceipt_49 : decode cX5_takeReceipt 49 = .ok (.invokevirtual 101, 3) := by decide +kernel
theorem dX5_takeReceipt_52 : decode cX5_takeReceipt 52 = .ok (.aload_n 0, 1) := by decide +kernel
theorem dX5_takeReceipt_53 : decode cX5_takeReceipt 53 = .ok (.dup, 1) := by decide +kernel
theorem dX5_takeReceipt_54 : decode cX5_takeReceipt 54 = .ok (.getfield 59, 3) := by decide +kernel
theorem dX5_takeReceipt_57 : decode cX5_takeReceipt 57 = .ok (.iload_n 2, 1) := by decide +kernel
theorem dX5_takeReceipt_58 : decode cX5_takeReceipt 58 = .ok (.i2l, 1) := by decide +kernel
theorem dX5_takeReceipt_59 : decode cX5_takeReceipt 59 = .ok (.ladd, 1) := by decide +kernel
theorem dX5_takeReceipt_60 : decode cX5_takeReceipt 60 = .ok (.putfield 59, 3) := by decide +kernel
theorem dX5_takeReceipt_63 : decode cX5_takeReceipt 63 = .ok (.aload_n 0, 1) := by decide +kernel
theorem dX5_takeReceipt_64 : decode cX5_takeReceipt 64 = .ok (.iconst 1, 1) := by decide +kernel
theorem dX5_takeReceipt_65 : decode cX5_takeReceipt 65 = .ok (.iload_n 1, 1) := by decide +kernel
theorem dX5_takeReceipt_66 : decode cX5_takeReceipt 66 = .ok (.iconst 0, 1) := by decide +kernel
theorem dX5_takeReceipt_67 : decode cX5_takeReceipt 67 = .ok (.iload_n 2, 1) := by decide +kernel
theorem dX5_takeReceipt_68 : decode cX5_takeReceipt 68 = .ok (.invokevirtual 104, 3) := by decide +kernel
theorem dX5_takeReceipt_71 : decode cX5_takeReceipt 71 = .ok (.aload_n 0, 1) := by decide +kernel
theorem dX5_takeReceipt_72 : decode cX5_takeReceipt 72 = .ok (.getfield 12, 3) := by decide +kernel
theorem dX5_takeReceipt_75 : decode cX5_takeReceipt 75 = .ok (.iload_n 3, 1) := by decide +kernel
theorem dX5_takeReceipt_76 : decode cX5_takeReceipt 76 = .ok (.invokevirtual 87, 3) := by decide +kernel
theorem dX5_takeReceipt_79 : decode cX5_takeReceipt 79 = .ok (.ireturn, 1) := by decide +kernel
theorem dX5_makePayment_0 : decode cX5_makePayment 0 = .ok (.aload_n 0, 1) := by decide +kernel
theorem dX5_makePayment_1 : decode cX5_makePayment 1 = .ok (.getfield 12, 3) := by decide +kernel
theorem dX5_makePayment_4 : decode cX5_makePayment 4 = .ok (.iload_n 1, 1) := by decide +kernel
theorem dX5_makePayment_5 : decode cX5_makePayment 5 = .ok (.invokevirtual 76, 3) := by decide +kernel
theorem dX5_makePayment_8 : decode cX5_makePayment 8 = .ok (.istore_n 3, 1) := by decide +kernel
theorem dX5_makePayment_9 : decode cX5_makePayment 9 = .ok (.iload_n 3, 1) := by decide +kernel
theorem dX5_makePayment_10 : decode cX5_makePayment 10 = .ok (.ifCond .ge 5, 3) := by decide +kernel
theorem dX5_makePayment_13 : decode cX5_makePayment 13 = .ok (.iconst (-1), 1) := by decide +kernel
theorem dX5_makePayment_14 : decode cX5_makePayment 14 = .ok (.ireturn, 1) := by decide +kernel
theorem dX5_makePayment_15 : decode cX5_makePayment 15 = .ok (.iload_n 2, 1) := by decide +kernel
theorem dX5_makePayment_16 : decode cX5_makePayment 16 = .ok (.invokestatic 97, 3) := by decide +kernel
theorem dX5_makePayment_19 : decode cX5_makePayment 19 = .ok (.ifCond .ne 6, 3) := by decide +kernel
theorem dX5_makePayment_22 : decode cX5_makePayment 22 = .ok (.bipush (-2), 2) := by decide +kernel
theorem dX5_makePayment_24 : decode cX5_makePayment 24 = .ok (.ireturn, 1) := by decide +kernel
theorem dX5_makePayment_25 : decode cX5_makePayment 25 = .ok (.aload_n 0, 1) := by decide +kernel
theorem dX5_makePayment_26 : decode cX5_makePayment 26 = .ok (.iload_n 3, 1) := by decide +kernel
theorem dX5_makePayment_27 : decode cX5_makePayment 27 = .ok (.invokevirtual 108, 3) := by decide +kernel
theorem dX5_makePayment_30 : decode cX5_makePayment 30 = .ok (.iload_n 2, 1) := by decide +kernel
theorem dX5_makePayment_31 : decode cX5_makePayment 31 = .ok (.if_icmp .ge 6, 3) := by decide +kernel
theorem dX5_makePayment_34 : decode cX5_makePayment 34 = .ok (.bipush (-3), 2) := by decide +kernel
theorem dX5_makePayment_36 : decode cX5_makePayment 36 = .ok (.ireturn, 1) := by decide +kernel
theorem dX5_makePayment_37 : decode cX5_makePayment 37 = .ok (.aload_n 0, 1) := by decide +kernel
theorem dX5_makePayment_38 : decode cX5_makePayment 38 = .ok (.getfield 12, 3) := by decide +kernel
theorem dX5_makePayment_41 : decode cX5_makePayment 41 = .ok (.iload_n 3, 1) := by decide +kernel
theorem dX5_makePayment_42 : decode cX5_makePayment 42 = .ok (.iload_n 2, 1) := by decide +kernel
theorem dX5_makePayment_43 : decode cX5_makePayment 43 = .ok (.ineg, 1) := by decide +kernel
theorem dX5_makePayment_44 : decode cX5_makePayment 44 = .ok (.invokevirtual 101, 3) := by decide +kernel
theorem dX5_makePayment_47 : decode cX5_makePayment 47 = .ok (.aload_n 0, 1) := by decide +kernel
theorem dX5_makePayment_48 : decode cX5_makePayment 48 = .ok (.dup, 1) := by decide +kernel
theorem dX5_makePayment_49 : decode cX5_makePayment 49 = .ok (.getfield 62, 3) := by decide +kernel
theorem dX5_makePayment_52 : decode cX5_makePayment 52 = .ok (.iload_n 2, 1) := by decide +kernel
theorem dX5_makePayment_53 : decode cX5_makePayment 53 = .ok (.i2l, 1) := by decide +kernel
theorem dX5_makePayment_54 : decode cX5_makePayment 54 = .ok (.ladd, 1) := by decide +kernel
theorem dX5_makePayment_55 : decode cX5_makePayment 55 = .ok (.putfield 62, 3) := by decide +kernel
theorem dX5_makePayment_58 : decode cX5_makePayment 58 = .ok (.aload_n 0, 1) := by decide +kernel
theorem dX5_makePayment_59 : decode cX5_makePayment 59 = .ok (.iconst 2, 1) := by decide +kernel
theorem dX5_makePayment_60 : decode cX5_makePayment 60 = .ok (.iload_n 1, 1) := by decide +kernel
theorem dX5_makePayment_61 : decode cX5_makePayment 61 = .ok (.iconst 0, 1) := by decide +kernel
theorem dX5_makePayment_62 : decode cX5_makePayment 62 = .ok (.iload_n 2, 1) := by decide +kernel
theorem dX5_makePayment_63 : decode cX5_makePayment 63 = .ok (.invokevirtual 104, 3) := by decide +kernel
theorem dX5_makePayment_66 : decode cX5_makePayment 66 = .ok (.aload_n 0, 1) := by decide +kernel
theorem dX5_makePayment_67 : decode cX5_makePayment 67 = .ok (.getfield 12, 3) := by decide +kernel
theorem dX5_makePayment_70 : decode cX5_makePayment 70 = .ok (.iload_n 3, 1) := by decide +kernel
theorem dX5_makePayment_71 : decode cX5_makePayment 71 = .ok (.invokevirtual 87, 3) := by decide +kernel
theorem dX5_makePayment_74 : decode cX5_makePayment 74 = .ok (.ireturn, 1) := by decide +kernel
theorem dX5_makeTransfer_0 : decode cX5_makeTransfer 0 = .ok (.aload_n 0, 1) := by decide +kernel
theorem dX5_makeTransfer_1 : decode cX5_makeTransfer 1 = .ok (.getfield 12, 3) := by decide +kernel
theorem dX5_makeTransfer_4 : decode cX5_makeTransfer 4 = .ok (.iload_n 1, 1) := by decide +kernel
theorem dX5_makeTransfer_5 : decode cX5_makeTransfer 5 = .ok (.invokevirtual 76, 3) := by decide +kernel
theorem dX5_makeTransfer_8 : decode cX5_makeTransfer 8 = .ok (.istore 4, 2) := by decide +kernel
theorem dX5_makeTransfer_10 : decode cX5_makeTransfer 10 = .ok (.aload_n 0, 1) := by decide +kernel
theorem dX5_makeTransfer_11 : decode cX5_makeTransfer 11 = .ok (.getfield 12, 3) := by decide +kernel
theorem dX5_makeTransfer_14 : decode cX5_makeTransfer 14 = .ok (.iload_n 2, 1) := by decide +kernel
theorem dX5_makeTransfer_15 : decode cX5_makeTransfer 15 = .ok (.invokevirtual 76, 3) := by decide +kernel
theorem dX5_makeTransfer_18 : decode cX5_makeTransfer 18 = .ok (.istore 5, 2) := by decide +kernel
theorem dX5_makeTransfer_20 : decode cX5_makeTransfer 20 = .ok (.iload 4, 2) := by decide +kernel
theorem dX5_makeTransfer_22 : decode cX5_makeTransfer 22 = .ok (.ifCond .lt 8, 3) := by decide +kernel
theorem dX5_makeTransfer_25 : decode cX5_makeTransfer 25 = .ok (.iload 5, 2) := by decide +kernel
theorem dX5_makeTransfer_27 : decode cX5_makeTransfer 27 = .ok (.ifCond .ge 5, 3) := by decide +kernel
theorem dX5_makeTransfer_30 : decode cX5_makeTransfer 30 = .ok (.iconst (-1), 1) := by decide +kernel
theorem dX5_makeTransfer_31 : decode cX5_makeTransfer 31 = .ok (.ireturn, 1) := by decide +kernel
theorem dX5_makeTransfer_32 : decode cX5_makeTransfer 32 = .ok (.iload 4, 2) := by decide +kernel
theorem dX5_makeTransfer_34 : decode cX5_makeTransfer 34 = .ok (.iload 5, 2) := by decide +kernel
theorem dX5_makeTransfer_36 : decode cX5_makeTransfer 36 = .ok (.if_icmp .eq 10, 3) := by decide +kernel
theorem dX5_makeTransfer_39 : decode cX5_makeTransfer 39 = .ok (.iload_n 3, 1) := by decide +kernel
theorem dX5_makeTransfer_40 : decode cX5_makeTransfer 40 = .ok (.invokestatic 97, 3) := by decide +kernel
theorem dX5_makeTransfer_43 : decode cX5_makeTransfer 43 = .ok (.ifCond .ne 6, 3) := by decide +kernel
theorem dX5_makeTransfer_46 : decode cX5_makeTransfer 46 = .ok (.bipush (-2), 2) := by decide +kernel
theorem dX5_makeTransfer_48 : decode cX5_makeTransfer 48 = .ok (.ireturn, 1) := by decide +kernel
theorem dX5_makeTransfer_49 : decode cX5_makeTransfer 49 = .ok (.aload_n 0, 1) := by decide +kernel
theorem dX5_makeTransfer_50 : decode cX5_makeTransfer 50 = .ok (.iload 4, 2) := by decide +kernel
theorem dX5_makeTransfer_52 : decode cX5_makeTransfer 52 = .ok (.invokevirtual 108, 3) := by decide +kernel
theorem dX5_makeTransfer_55 : decode cX5_makeTransfer 55 = .ok (.iload_n 3, 1) := by decide +kernel
theorem dX5_makeTransfer_56 : decode cX5_makeTransfer 56 = .ok (.if_icmp .ge 6, 3) := by decide +kernel
theorem dX5_makeTransfer_59 : decode cX5_makeTransfer 59 = .ok (.bipush (-3), 2) := by decide +kernel
theorem dX5_makeTransfer_61 : decode cX5_makeTransfer 61 = .ok (.ireturn, 1) := by decide +kernel
theorem dX5_makeTransfer_62 : decode cX5_makeTransfer 62 = .ok (.aload_n 0, 1) := by decide +kernel
theorem dX5_makeTransfer_63 : decode cX5_makeTransfer 63 = .ok (.getfield 12, 3) := by decide +kernel
theorem dX5_makeTransfer_66 : decode cX5_makeTransfer 66 = .ok (.iload 5, 2) := by decide +kernel
theorem dX5_makeTransfer_68 : decode cX5_makeTransfer 68 = .ok (.invokevirtual 87, 3) := by decide +kernel
theorem dX5_makeTransfer_71 : decode cX5_makeTransfer 71 = .ok (.ldc 75, 2) := by decide +kernel
theorem dX5_makeTransfer_73 : decode cX5_makeTransfer 73 = .ok (.iload_n 3, 1) := by decide +kernel
theorem dX5_makeTransfer_74 : decode cX5_makeTransfer 74 = .ok (.isub, 1) := by decide +kernel
theorem dX5_makeTransfer_75 : decode cX5_makeTransfer 75 = .ok (.if_icmp .le 6, 3) := by decide +kernel
theorem dX5_makeTransfer_78 : decode cX5_makeTransfer 78 = .ok (.bipush (-4), 2) := by decide +kernel
theorem dX5_makeTransfer_80 : decode cX5_makeTransfer 80 = .ok (.ireturn, 1) := by decide +kernel
theorem dX5_makeTransfer_81 : decode cX5_makeTransfer 81 = .ok (.aload_n 0, 1) := by decide +kernel
theorem dX5_makeTransfer_82 : decode cX5_makeTransfer 82 = .ok (.getfield 12, 3) := by decide +kernel
theorem dX5_makeTransfer_85 : decode cX5_makeTransfer 85 = .ok (.iload 4, 2) := by decide +kernel
theorem dX5_makeTransfer_87 : decode cX5_makeTransfer 87 = .ok (.iload_n 3, 1) := by decide +kernel
theorem dX5_makeTransfer_88 : decode cX5_makeTransfer 88 = .ok (.ineg, 1) := by decide +kernel
theorem dX5_makeTransfer_89 : decode cX5_makeTransfer 89 = .ok (.invokevirtual 101, 3) := by decide +kernel
theorem dX5_makeTransfer_92 : decode cX5_makeTransfer 92 = .ok (.aload_n 0, 1) := by decide +kernel
theorem dX5_makeTransfer_93 : decode cX5_makeTransfer 93 = .ok (.getfield 12, 3) := by decide +kernel
theorem dX5_makeTransfer_96 : decode cX5_makeTransfer 96 = .ok (.iload 5, 2) := by decide +kernel
theorem dX5_makeTransfer_98 : decode cX5_makeTransfer 98 = .ok (.iload_n 3, 1) := by decide +kernel
theorem dX5_makeTransfer_99 : decode cX5_makeTransfer 99 = .ok (.invokevirtual 101, 3) := by decide +kernel
theorem dX5_makeTransfer_102 : decode cX5_makeTransfer 102 = .ok (.aload_n 0, 1) := by decide +kernel
theorem dX5_makeTransfer_103 : decode cX5_makeTransfer 103 = .ok (.iconst 3, 1) := by decide +kernel
theorem dX5_makeTransfer_104 : decode cX5_makeTransfer 104 = .ok (.iload_n 1, 1) := by decide +kernel
theorem dX5_makeTransfer_105 : decode cX5_makeTransfer 105 = .ok (.iload_n 2, 1) := by decide +kernel
theorem dX5_makeTransfer_106 : decode cX5_makeTransfer 106 = .ok (.iload_n 3, 1) := by decide +kernel
theorem dX5_makeTransfer_107 : decode cX5_makeTransfer 107 = .ok (.invokevirtual 104, 3) := by decide +kernel
theorem dX5_makeTransfer_110 : decode cX5_makeTransfer 110 = .ok (.aload_n 0, 1) := by decide +kernel
theorem dX5_makeTransfer_111 : decode cX5_makeTransfer 111 = .ok (.getfield 12, 3) := by decide +kernel
theorem dX5_makeTransfer_114 : decode cX5_makeTransfer 114 = .ok (.iload 4, 2) := by decide +kernel
theorem dX5_makeTransfer_116 : decode cX5_makeTransfer 116 = .ok (.invokevirtual 87, 3) := by decide +kernel
theorem dX5_makeTransfer_119 : decode cX5_makeTransfer 119 = .ok (.ireturn, 1) := by decide +kernel
theorem dX5_makeHold_0 : decode cX5_makeHold 0 = .ok (.aload_n 0, 1) := by decide +kernel
theorem dX5_makeHold_1 : decode cX5_makeHold 1 = .ok (.getfield 12, 3) := by decide +kernel
theorem dX5_makeHold_4 : decode cX5_makeHold 4 = .ok (.iload_n 1, 1) := by decide +kernel
theorem dX5_makeHold_5 : decode cX5_makeHold 5 = .ok (.invokevirtual 76, 3) := by decide +kernel
theorem dX5_makeHold_8 : decode cX5_makeHold 8 = .ok (.istore 4, 2) := by decide +kernel
theorem dX5_makeHold_10 : decode cX5_makeHold 10 = .ok (.iload 4, 2) := by decide +kernel
theorem dX5_makeHold_12 : decode cX5_makeHold 12 = .ok (.ifCond .ge 5, 3) := by decide +kernel
theorem dX5_makeHold_15 : decode cX5_makeHold 15 = .ok (.iconst (-1), 1) := by decide +kernel
theorem dX5_makeHold_16 : decode cX5_makeHold 16 = .ok (.ireturn, 1) := by decide +kernel
theorem dX5_makeHold_17 : decode cX5_makeHold 17 = .ok (.iload_n 2, 1) := by decide +kernel
theorem dX5_makeHold_18 : decode cX5_makeHold 18 = .ok (.invokestatic 97, 3) := by decide +kernel
theorem dX5_makeHold_21 : decode cX5_makeHold 21 = .ok (.ifCond .eq 15, 3) := by decide +kernel
theorem dX5_makeHold_24 : decode cX5_makeHold 24 = .ok (.iload_n 3, 1) := by decide +kernel
theorem dX5_makeHold_25 : decode cX5_makeHold 25 = .ok (.iconst 1, 1) := by decide +kernel
theorem dX5_makeHold_26 : decode cX5_makeHold 26 = .ok (.if_icmp .lt 10, 3) := by decide +kernel
theorem dX5_makeHold_29 : decode cX5_makeHold 29 = .ok (.iload_n 3, 1) := by decide +kernel
theorem dX5_makeHold_30 : decode cX5_makeHold 30 = .ok (.sipush 999, 3) := by decide +kernel
theorem dX5_makeHold_33 : decode cX5_makeHold 33 = .ok (.if_icmp .le 6, 3) := by decide +kernel
theorem dX5_makeHold_36 : decode cX5_makeHold 36 = .ok (.bipush (-2), 2) := by decide +kernel
theorem dX5_makeHold_38 : decode cX5_makeHold 38 = .ok (.ireturn, 1) := by decide +kernel
theorem dX5_makeHold_39 : decode cX5_makeHold 39 = .ok (.aload_n 0, 1) := by decide +kernel
theorem dX5_makeHold_40 : decode cX5_makeHold 40 = .ok (.iload 4, 2) := by decide +kernel
theorem dX5_makeHold_42 : decode cX5_makeHold 42 = .ok (.invokevirtual 108, 3) := by decide +kernel
theorem dX5_makeHold_45 : decode cX5_makeHold 45 = .ok (.iload_n 2, 1) := by decide +kernel
theorem dX5_makeHold_46 : decode cX5_makeHold 46 = .ok (.if_icmp .ge 6, 3) := by decide +kernel
theorem dX5_makeHold_49 : decode cX5_makeHold 49 = .ok (.bipush (-3), 2) := by decide +kernel
theorem dX5_makeHold_51 : decode cX5_makeHold 51 = .ok (.ireturn, 1) := by decide +kernel
theorem dX5_makeHold_52 : decode cX5_makeHold 52 = .ok (.aload_n 0, 1) := by decide +kernel
theorem dX5_makeHold_53 : decode cX5_makeHold 53 = .ok (.getfield 21, 3) := by decide +kernel
theorem dX5_makeHold_56 : decode cX5_makeHold 56 = .ok (.getfield 111, 3) := by decide +kernel
theorem dX5_makeHold_59 : decode cX5_makeHold 59 = .ok (.bipush 15, 2) := by decide +kernel
theorem dX5_makeHold_61 : decode cX5_makeHold 61 = .ok (.if_icmp .lt 6, 3) := by decide +kernel
theorem dX5_makeHold_64 : decode cX5_makeHold 64 = .ok (.bipush (-4), 2) := by decide +kernel
theorem dX5_makeHold_66 : decode cX5_makeHold 66 = .ok (.ireturn, 1) := by decide +kernel
theorem dX5_makeHold_67 : decode cX5_makeHold 67 = .ok (.aload_n 0, 1) := by decide +kernel
theorem dX5_makeHold_68 : decode cX5_makeHold 68 = .ok (.getfield 21, 3) := by decide +kernel
theorem dX5_makeHold_71 : decode cX5_makeHold 71 = .ok (.iload_n 1, 1) := by decide +kernel
theorem dX5_makeHold_72 : decode cX5_makeHold 72 = .ok (.iload_n 2, 1) := by decide +kernel
theorem dX5_makeHold_73 : decode cX5_makeHold 73 = .ok (.aload_n 0, 1) := by decide +kernel
theorem dX5_makeHold_74 : decode cX5_makeHold 74 = .ok (.getfield 35, 3) := by decide +kernel
theorem dX5_makeHold_77 : decode cX5_makeHold 77 = .ok (.iload_n 3, 1) := by decide +kernel
theorem dX5_makeHold_78 : decode cX5_makeHold 78 = .ok (.iadd, 1) := by decide +kernel
theorem dX5_makeHold_79 : decode cX5_makeHold 79 = .ok (.invokevirtual 112, 3) := by decide +kernel
theorem dX5_makeHold_82 : decode cX5_makeHold 82 = .ok (.ireturn, 1) := by decide +kernel
theorem dX5_endHold_0 : decode cX5_endHold 0 = .ok (.aload_n 0, 1) := by decide +kernel
theorem dX5_endHold_1 : decode cX5_endHold 1 = .ok (.getfield 21, 3) := by decide +kernel
theorem dX5_endHold_4 : decode cX5_endHold 4 = .ok (.iload_n 1, 1) := by decide +kernel
theorem dX5_endHold_5 : decode cX5_endHold 5 = .ok (.invokevirtual 116, 3) := by decide +kernel
theorem dX5_endHold_8 : decode cX5_endHold 8 = .ok (.istore_n 2, 1) := by decide +kernel
theorem dX5_endHold_9 : decode cX5_endHold 9 = .ok (.iload_n 2, 1) := by decide +kernel
theorem dX5_endHold_10 : decode cX5_endHold 10 = .ok (.ifCond .ge 5, 3) := by decide +kernel
theorem dX5_endHold_13 : decode cX5_endHold 13 = .ok (.iconst (-1), 1) := by decide +kernel
theorem dX5_endHold_14 : decode cX5_endHold 14 = .ok (.ireturn, 1) := by decide +kernel
theorem dX5_endHold_15 : decode cX5_endHold 15 = .ok (.aload_n 0, 1) := by decide +kernel
theorem dX5_endHold_16 : decode cX5_endHold 16 = .ok (.getfield 12, 3) := by decide +kernel
theorem dX5_endHold_19 : decode cX5_endHold 19 = .ok (.aload_n 0, 1) := by decide +kernel
theorem dX5_endHold_20 : decode cX5_endHold 20 = .ok (.getfield 21, 3) := by decide +kernel
theorem dX5_endHold_23 : decode cX5_endHold 23 = .ok (.iload_n 2, 1) := by decide +kernel
theorem dX5_endHold_24 : decode cX5_endHold 24 = .ok (.iconst 1, 1) := by decide +kernel
theorem dX5_endHold_25 : decode cX5_endHold 25 = .ok (.invokevirtual 117, 3) := by decide +kernel
theorem dX5_endHold_28 : decode cX5_endHold 28 = .ok (.invokevirtual 76, 3) := by decide +kernel
theorem dX5_endHold_31 : decode cX5_endHold 31 = .ok (.istore_n 3, 1) := by decide +kernel
theorem dX5_endHold_32 : decode cX5_endHold 32 = .ok (.aload_n 0, 1) := by decide +kernel
theorem dX5_endHold_33 : decode cX5_endHold 33 = .ok (.getfield 21, 3) := by decide +kernel
theorem dX5_endHold_36 : decode cX5_endHold 36 = .ok (.iload_n 2, 1) := by decide +kernel
theorem dX5_endHold_37 : decode cX5_endHold 37 = .ok (.invokevirtual 121, 3) := by decide +kernel
theorem dX5_endHold_40 : decode cX5_endHold 40 = .ok (.aload_n 0, 1) := by decide +kernel
theorem dX5_endHold_41 : decode cX5_endHold 41 = .ok (.iload_n 3, 1) := by decide +kernel
theorem dX5_endHold_42 : decode cX5_endHold 42 = .ok (.invokevirtual 108, 3) := by decide +kernel
theorem dX5_endHold_45 : decode cX5_endHold 45 = .ok (.ireturn, 1) := by decide +kernel
theorem dX5_writeBill_0 : decode cX5_writeBill 0 = .ok (.aload_n 0, 1) := by decide +kernel
theorem dX5_writeBill_1 : decode cX5_writeBill 1 = .ok (.getfield 12, 3) := by decide +kernel
theorem dX5_writeBill_4 : decode cX5_writeBill 4 = .ok (.iload_n 1, 1) := by decide +kernel
theorem dX5_writeBill_5 : decode cX5_writeBill 5 = .ok (.invokevirtual 76, 3) := by decide +kernel
theorem dX5_writeBill_8 : decode cX5_writeBill 8 = .ok (.ifCond .ge 5, 3) := by decide +kernel
theorem dX5_writeBill_11 : decode cX5_writeBill 11 = .ok (.iconst (-1), 1) := by decide +kernel
theorem dX5_writeBill_12 : decode cX5_writeBill 12 = .ok (.ireturn, 1) := by decide +kernel
theorem dX5_writeBill_13 : decode cX5_writeBill 13 = .ok (.iload_n 2, 1) := by decide +kernel
theorem dX5_writeBill_14 : decode cX5_writeBill 14 = .ok (.invokestatic 97, 3) := by decide +kernel
theorem dX5_writeBill_17 : decode cX5_writeBill 17 = .ok (.ifCond .ne 6, 3) := by decide +kernel
theorem dX5_writeBill_20 : decode cX5_writeBill 20 = .ok (.bipush (-2), 2) := by decide +kernel
theorem dX5_writeBill_22 : decode cX5_writeBill 22 = .ok (.ireturn, 1) := by decide +kernel
theorem dX5_writeBill_23 : decode cX5_writeBill 23 = .ok (.aload_n 0, 1) := by decide +kernel
theorem dX5_writeBill_24 : decode cX5_writeBill 24 = .ok (.getfield 25, 3) := by decide +kernel
theorem dX5_writeBill_27 : decode cX5_writeBill 27 = .ok (.getfield 111, 3) := by decide +kernel
theorem dX5_writeBill_30 : decode cX5_writeBill 30 = .ok (.bipush 15, 2) := by decide +kernel
theorem dX5_writeBill_32 : decode cX5_writeBill 32 = .ok (.if_icmp .lt 6, 3) := by decide +kernel
theorem dX5_writeBill_35 : decode cX5_writeBill 35 = .ok (.bipush (-4), 2) := by decide +kernel
theorem dX5_writeBill_37 : decode cX5_writeBill 37 = .ok (.ireturn, 1) := by decide +kernel
theorem dX5_writeBill_38 : decode cX5_writeBill 38 = .ok (.aload_n 0, 1) := by decide +kernel
theorem dX5_writeBill_39 : decode cX5_writeBill 39 = .ok (.getfield 25, 3) := by decide +kernel
theorem dX5_writeBill_42 : decode cX5_writeBill 42 = .ok (.iload_n 1, 1) := by decide +kernel
theorem dX5_writeBill_43 : decode cX5_writeBill 43 = .ok (.iload_n 2, 1) := by decide +kernel
theorem dX5_writeBill_44 : decode cX5_writeBill 44 = .ok (.iconst 0, 1) := by decide +kernel
theorem dX5_writeBill_45 : decode cX5_writeBill 45 = .ok (.invokevirtual 112, 3) := by decide +kernel
theorem dX5_writeBill_48 : decode cX5_writeBill 48 = .ok (.ireturn, 1) := by decide +kernel
theorem dX5_settleBill_0 : decode cX5_settleBill 0 = .ok (.aload_n 0, 1) := by decide +kernel
theorem dX5_settleBill_1 : decode cX5_settleBill 1 = .ok (.getfield 25, 3) := by decide +kernel
theorem dX5_settleBill_4 : decode cX5_settleBill 4 = .ok (.iload_n 1, 1) := by decide +kernel
theorem dX5_settleBill_5 : decode cX5_settleBill 5 = .ok (.invokevirtual 116, 3) := by decide +kernel
theorem dX5_settleBill_8 : decode cX5_settleBill 8 = .ok (.istore_n 2, 1) := by decide +kernel
theorem dX5_settleBill_9 : decode cX5_settleBill 9 = .ok (.iload_n 2, 1) := by decide +kernel
theorem dX5_settleBill_10 : decode cX5_settleBill 10 = .ok (.ifCond .ge 5, 3) := by decide +kernel
theorem dX5_settleBill_13 : decode cX5_settleBill 13 = .ok (.iconst (-1), 1) := by decide +kernel
theorem dX5_settleBill_14 : decode cX5_settleBill 14 = .ok (.ireturn, 1) := by decide +kernel
theorem dX5_settleBill_15 : decode cX5_settleBill 15 = .ok (.aload_n 0, 1) := by decide +kernel
theorem dX5_settleBill_16 : decode cX5_settleBill 16 = .ok (.getfield 25, 3) := by decide +kernel
theorem dX5_settleBill_19 : decode cX5_settleBill 19 = .ok (.iload_n 2, 1) := by decide +kernel
theorem dX5_settleBill_20 : decode cX5_settleBill 20 = .ok (.iconst 1, 1) := by decide +kernel
theorem dX5_settleBill_21 : decode cX5_settleBill 21 = .ok (.invokevirtual 117, 3) := by decide +kernel
theorem dX5_settleBill_24 : decode cX5_settleBill 24 = .ok (.istore_n 3, 1) := by decide +kernel
theorem dX5_settleBill_25 : decode cX5_settleBill 25 = .ok (.aload_n 0, 1) := by decide +kernel
theorem dX5_settleBill_26 : decode cX5_settleBill 26 = .ok (.getfield 12, 3) := by decide +kernel
theorem dX5_settleBill_29 : decode cX5_settleBill 29 = .ok (.iload_n 3, 1) := by decide +kernel
theorem dX5_settleBill_30 : decode cX5_settleBill 30 = .ok (.invokevirtual 76, 3) := by decide +kernel
theorem dX5_settleBill_33 : decode cX5_settleBill 33 = .ok (.istore 4, 2) := by decide +kernel
theorem dX5_settleBill_35 : decode cX5_settleBill 35 = .ok (.aload_n 0, 1) := by decide +kernel
theorem dX5_settleBill_36 : decode cX5_settleBill 36 = .ok (.getfield 25, 3) := by decide +kernel
theorem dX5_settleBill_39 : decode cX5_settleBill 39 = .ok (.iload_n 2, 1) := by decide +kernel
theorem dX5_settleBill_40 : decode cX5_settleBill 40 = .ok (.iconst 2, 1) := by decide +kernel
theorem dX5_settleBill_41 : decode cX5_settleBill 41 = .ok (.invokevirtual 117, 3) := by decide +kernel
theorem dX5_settleBill_44 : decode cX5_settleBill 44 = .ok (.istore 5, 2) := by decide +kernel
theorem dX5_settleBill_46 : decode cX5_settleBill 46 = .ok (.iload 5, 2) := by decide +kernel
theorem dX5_settleBill_48 : decode cX5_settleBill 48 = .ok (.aload_n 0, 1) := by decide +kernel
theorem dX5_settleBill_49 : decode cX5_settleBill 49 = .ok (.iload 4, 2) := by decide +kernel
theorem dX5_settleBill_51 : decode cX5_settleBill 51 = .ok (.invokevirtual 108, 3) := by decide +kernel
theorem dX5_settleBill_54 : decode cX5_settleBill 54 = .ok (.invokestatic 122, 3) := by decide +kernel
theorem dX5_settleBill_57 : decode cX5_settleBill 57 = .ok (.istore 6, 2) := by decide +kernel
theorem dX5_settleBill_59 : decode cX5_settleBill 59 = .ok (.iload 6, 2) := by decide +kernel
theorem dX5_settleBill_61 : decode cX5_settleBill 61 = .ok (.ifCond .ne 6, 3) := by decide +kernel
theorem dX5_settleBill_64 : decode cX5_settleBill 64 = .ok (.bipush (-3), 2) := by decide +kernel
theorem dX5_settleBill_66 : decode cX5_settleBill 66 = .ok (.ireturn, 1) := by decide +kernel
theorem dX5_settleBill_67 : decode cX5_settleBill 67 = .ok (.aload_n 0, 1) := by decide +kernel
theorem dX5_settleBill_68 : decode cX5_settleBill 68 = .ok (.getfield 12, 3) := by decide +kernel
theorem dX5_settleBill_71 : decode cX5_settleBill 71 = .ok (.iload 4, 2) := by decide +kernel
theorem dX5_settleBill_73 : decode cX5_settleBill 73 = .ok (.iload 6, 2) := by decide +kernel
theorem dX5_settleBill_75 : decode cX5_settleBill 75 = .ok (.ineg, 1) := by decide +kernel
theorem dX5_settleBill_76 : decode cX5_settleBill 76 = .ok (.invokevirtual 101, 3) := by decide +kernel
theorem dX5_settleBill_79 : decode cX5_settleBill 79 = .ok (.aload_n 0, 1) := by decide +kernel
theorem dX5_settleBill_80 : decode cX5_settleBill 80 = .ok (.dup, 1) := by decide +kernel
theorem dX5_settleBill_81 : decode cX5_settleBill 81 = .ok (.getfield 52, 3) := by decide +kernel
theorem dX5_settleBill_84 : decode cX5_settleBill 84 = .ok (.iload 6, 2) := by decide +kernel
theorem dX5_settleBill_86 : decode cX5_settleBill 86 = .ok (.i2l, 1) := by decide +kernel
theorem dX5_settleBill_87 : decode cX5_settleBill 87 = .ok (.ladd, 1) := by decide +kernel
theorem dX5_settleBill_88 : decode cX5_settleBill 88 = .ok (.putfield 52, 3) := by decide +kernel
theorem dX5_settleBill_91 : decode cX5_settleBill 91 = .ok (.iload 6, 2) := by decide +kernel
theorem dX5_settleBill_93 : decode cX5_settleBill 93 = .ok (.iload 5, 2) := by decide +kernel
theorem dX5_settleBill_95 : decode cX5_settleBill 95 = .ok (.if_icmp .ne 14, 3) := by decide +kernel
theorem dX5_settleBill_98 : decode cX5_settleBill 98 = .ok (.aload_n 0, 1) := by decide +kernel
theorem dX5_settleBill_99 : decode cX5_settleBill 99 = .ok (.getfield 25, 3) := by decide +kernel
theorem dX5_settleBill_102 : decode cX5_settleBill 102 = .ok (.iload_n 2, 1) := by decide +kernel
theorem dX5_settleBill_103 : decode cX5_settleBill 103 = .ok (.invokevirtual 121, 3) := by decide +kernel
theorem dX5_settleBill_106 : decode cX5_settleBill 106 = .ok (.goto 38, 3) := by decide +kernel
theorem dX5_settleBill_109 : decode cX5_settleBill 109 = .ok (.aload_n 0, 1) := by decide +kernel
theorem dX5_settleBill_110 : decode cX5_settleBill 110 = .ok (.getfield 25, 3) := by decide +kernel
theorem dX5_settleBill_113 : decode cX5_settleBill 113 = .ok (.iload_n 2, 1) := by decide +kernel
theorem dX5_settleBill_114 : decode cX5_settleBill 114 = .ok (.iconst 2, 1) := by decide +kernel
theorem dX5_settleBill_115 : decode cX5_settleBill 115 = .ok (.iload 5, 2) := by decide +kernel
theorem dX5_settleBill_117 : decode cX5_settleBill 117 = .ok (.iload 6, 2) := by decide +kernel
theorem dX5_settleBill_119 : decode cX5_settleBill 119 = .ok (.isub, 1) := by decide +kernel
theorem dX5_settleBill_120 : decode cX5_settleBill 120 = .ok (.invokevirtual 127, 3) := by decide +kernel
theorem dX5_settleBill_123 : decode cX5_settleBill 123 = .ok (.aload_n 0, 1) := by decide +kernel
theorem dX5_settleBill_124 : decode cX5_settleBill 124 = .ok (.getfield 25, 3) := by decide +kernel
theorem dX5_settleBill_127 : decode cX5_settleBill 127 = .ok (.iload_n 2, 1) := by decide +kernel
theorem dX5_settleBill_128 : decode cX5_settleBill 128 = .ok (.iconst 3, 1) := by decide +kernel
theorem dX5_settleBill_129 : decode cX5_settleBill 129 = .ok (.aload_n 0, 1) := by decide +kernel
theorem dX5_settleBill_130 : decode cX5_settleBill 130 = .ok (.getfield 25, 3) := by decide +kernel
theorem dX5_settleBill_133 : decode cX5_settleBill 133 = .ok (.iload_n 2, 1) := by decide +kernel
theorem dX5_settleBill_134 : decode cX5_settleBill 134 = .ok (.iconst 3, 1) := by decide +kernel
theorem dX5_settleBill_135 : decode cX5_settleBill 135 = .ok (.invokevirtual 117, 3) := by decide +kernel
theorem dX5_settleBill_138 : decode cX5_settleBill 138 = .ok (.iload 6, 2) := by decide +kernel
theorem dX5_settleBill_140 : decode cX5_settleBill 140 = .ok (.iadd, 1) := by decide +kernel
theorem dX5_settleBill_141 : decode cX5_settleBill 141 = .ok (.invokevirtual 127, 3) := by decide +kernel
theorem dX5_settleBill_144 : decode cX5_settleBill 144 = .ok (.aload_n 0, 1) := by decide +kernel
theorem dX5_settleBill_145 : decode cX5_settleBill 145 = .ok (.iconst 4, 1) := by decide +kernel
theorem dX5_settleBill_146 : decode cX5_settleBill 146 = .ok (.iload_n 3, 1) := by decide +kernel
theorem dX5_settleBill_147 : decode cX5_settleBill 147 = .ok (.iconst 0, 1) := by decide +kernel
theorem dX5_settleBill_148 : decode cX5_settleBill 148 = .ok (.iload 6, 2) := by decide +kernel
theorem dX5_settleBill_150 : decode cX5_settleBill 150 = .ok (.invokevirtual 104, 3) := by decide +kernel
theorem dX5_settleBill_153 : decode cX5_settleBill 153 = .ok (.iload 6, 2) := by decide +kernel
theorem dX5_settleBill_155 : decode cX5_settleBill 155 = .ok (.ireturn, 1) := by decide +kernel
theorem dX5_letPass_0 : decode cX5_letPass 0 = .ok (.iload_n 1, 1) := by decide +kernel
theorem dX5_letPass_1 : decode cX5_letPass 1 = .ok (.iconst 1, 1) := by decide +kernel
theorem dX5_letPass_2 : decode cX5_letPass 2 = .ok (.if_icmp .lt 10, 3) := by decide +kernel
theorem dX5_letPass_5 : decode cX5_letPass 5 = .ok (.iload_n 1, 1) := by decide +kernel
theorem dX5_letPass_6 : decode cX5_letPass 6 = .ok (.sipush 400, 3) := by decide +kernel
theorem dX5_letPass_9 : decode cX5_letPass 9 = .ok (.if_icmp .le 7, 3) := by decide +kernel
theorem dX5_letPass_12 : decode cX5_letPass 12 = .ok (.ldc2_w 131, 3) := by decide +kernel
theorem dX5_letPass_15 : decode cX5_letPass 15 = .ok (.lreturn, 1) := by decide +kernel
theorem dX5_letPass_16 : decode cX5_letPass 16 = .ok (.aload_n 0, 1) := by decide +kernel
theorem dX5_letPass_17 : decode cX5_letPass 17 = .ok (.getfield 35, 3) := by decide +kernel
theorem dX5_letPass_20 : decode cX5_letPass 20 = .ok (.iload_n 1, 1) := by decide +kernel
theorem dX5_letPass_21 : decode cX5_letPass 21 = .ok (.iadd, 1) := by decide +kernel
theorem dX5_letPass_22 : decode cX5_letPass 22 = .ok (.istore_n 2, 1) := by decide +kernel
theorem dX5_letPass_23 : decode cX5_letPass 23 = .ok (.iload_n 2, 1) := by decide +kernel
theorem dX5_letPass_24 : decode cX5_letPass 24 = .ok (.sipush 9999, 3) := by decide +kernel
theorem dX5_letPass_27 : decode cX5_letPass 27 = .ok (.if_icmp .le 7, 3) := by decide +kernel
theorem dX5_letPass_30 : decode cX5_letPass 30 = .ok (.ldc2_w 133, 3) := by decide +kernel
theorem dX5_letPass_33 : decode cX5_letPass 33 = .ok (.lreturn, 1) := by decide +kernel
theorem dX5_letPass_34 : decode cX5_letPass 34 = .ok (.aload_n 0, 1) := by decide +kernel
theorem dX5_letPass_35 : decode cX5_letPass 35 = .ok (.getfield 56, 3) := by decide +kernel
theorem dX5_letPass_38 : decode cX5_letPass 38 = .ok (.lstore_n 3, 1) := by decide +kernel
theorem dX5_letPass_39 : decode cX5_letPass 39 = .ok (.aload_n 0, 1) := by decide +kernel
theorem dX5_letPass_40 : decode cX5_letPass 40 = .ok (.getfield 35, 3) := by decide +kernel
theorem dX5_letPass_43 : decode cX5_letPass 43 = .ok (.invokestatic 135, 3) := by decide +kernel
theorem dX5_letPass_46 : decode cX5_letPass 46 = .ok (.istore 5, 2) := by decide +kernel
theorem dX5_letPass_48 : decode cX5_letPass 48 = .ok (.iload 5, 2) := by decide +kernel
theorem dX5_letPass_50 : decode cX5_letPass 50 = .ok (.iload_n 2, 1) := by decide +kernel
theorem dX5_letPass_51 : decode cX5_letPass 51 = .ok (.if_icmp .gt 19, 3) := by decide +kernel
theorem dX5_letPass_54 : decode cX5_letPass 54 = .ok (.aload_n 0, 1) := by decide +kernel
theorem dX5_letPass_55 : decode cX5_letPass 55 = .ok (.iload 5, 2) := by decide +kernel
theorem dX5_letPass_57 : decode cX5_letPass 57 = .ok (.invokevirtual 138, 3) := by decide +kernel
theorem dX5_letPass_60 : decode cX5_letPass 60 = .ok (.aload_n 0, 1) := by decide +kernel
theorem dX5_letPass_61 : decode cX5_letPass 61 = .ok (.invokevirtual 141, 3) := by decide +kernel
theorem dX5_letPass_64 : decode cX5_letPass 64 = .ok (.iinc 5 30, 3) := by decide +kernel
theorem dX5_letPass_67 : decode cX5_letPass 67 = .ok (.goto (-19), 3) := by decide +kernel
theorem dX5_letPass_70 : decode cX5_letPass 70 = .ok (.aload_n 0, 1) := by decide +kernel
theorem dX5_letPass_71 : decode cX5_letPass 71 = .ok (.iload_n 2, 1) := by decide +kernel
theorem dX5_letPass_72 : decode cX5_letPass 72 = .ok (.invokevirtual 138, 3) := by decide +kernel
theorem dX5_letPass_75 : decode cX5_letPass 75 = .ok (.aload_n 0, 1) := by decide +kernel
theorem dX5_letPass_76 : decode cX5_letPass 76 = .ok (.invokevirtual 144, 3) := by decide +kernel
theorem dX5_letPass_79 : decode cX5_letPass 79 = .ok (.aload_n 0, 1) := by decide +kernel
theorem dX5_letPass_80 : decode cX5_letPass 80 = .ok (.getfield 56, 3) := by decide +kernel
theorem dX5_letPass_83 : decode cX5_letPass 83 = .ok (.lload_n 3, 1) := by decide +kernel
theorem dX5_letPass_84 : decode cX5_letPass 84 = .ok (.lsub, 1) := by decide +kernel
theorem dX5_letPass_85 : decode cX5_letPass 85 = .ok (.lreturn, 1) := by decide +kernel
theorem dX5_reverseEntry_0 : decode cX5_reverseEntry 0 = .ok (.aload_n 0, 1) := by decide +kernel
theorem dX5_reverseEntry_1 : decode cX5_reverseEntry 1 = .ok (.getfield 31, 3) := by decide +kernel
theorem dX5_reverseEntry_4 : decode cX5_reverseEntry 4 = .ok (.iload_n 1, 1) := by decide +kernel
theorem dX5_reverseEntry_5 : decode cX5_reverseEntry 5 = .ok (.invokevirtual 147, 3) := by decide +kernel
theorem dX5_reverseEntry_8 : decode cX5_reverseEntry 8 = .ok (.ifCond .ne 5, 3) := by decide +kernel
theorem dX5_reverseEntry_11 : decode cX5_reverseEntry 11 = .ok (.iconst (-1), 1) := by decide +kernel
theorem dX5_reverseEntry_12 : decode cX5_reverseEntry 12 = .ok (.ireturn, 1) := by decide +kernel
theorem dX5_reverseEntry_13 : decode cX5_reverseEntry 13 = .ok (.aload_n 0, 1) := by decide +kernel
theorem dX5_reverseEntry_14 : decode cX5_reverseEntry 14 = .ok (.getfield 31, 3) := by decide +kernel
theorem dX5_reverseEntry_17 : decode cX5_reverseEntry 17 = .ok (.iload_n 1, 1) := by decide +kernel
theorem dX5_reverseEntry_18 : decode cX5_reverseEntry 18 = .ok (.iconst 1, 1) := by decide +kernel
theorem dX5_reverseEntry_19 : decode cX5_reverseEntry 19 = .ok (.invokevirtual 150, 3) := by decide +kernel
theorem dX5_reverseEntry_22 : decode cX5_reverseEntry 22 = .ok (.istore_n 2, 1) := by decide +kernel
theorem dX5_reverseEntry_23 : decode cX5_reverseEntry 23 = .ok (.iload_n 2, 1) := by decide +kernel
theorem dX5_reverseEntry_24 : decode cX5_reverseEntry 24 = .ok (.iconst 3, 1) := by decide +kernel
theorem dX5_reverseEntry_25 : decode cX5_reverseEntry 25 = .ok (.if_icmp .gt 16, 3) := by decide +kernel
theorem dX5_reverseEntry_28 : decode cX5_reverseEntry 28 = .ok (.aload_n 0, 1) := by decide +kernel
theorem dX5_reverseEntry_29 : decode cX5_reverseEntry 29 = .ok (.getfield 31, 3) := by decide +kernel
theorem dX5_reverseEntry_32 : decode cX5_reverseEntry 32 = .ok (.iload_n 1, 1) := by decide +kernel
theorem dX5_reverseEntry_33 : decode cX5_reverseEntry 33 = .ok (.bipush 6, 2) := by decide +kernel
theorem dX5_reverseEntry_35 : decode cX5_reverseEntry 35 = .ok (.invokevirtual 150, 3) := by decide +kernel
theorem dX5_reverseEntry_38 : decode cX5_reverseEntry 38 = .ok (.ifCond .eq 6, 3) := by decide +kernel
theorem dX5_reverseEntry_41 : decode cX5_reverseEntry 41 = .ok (.bipush (-3), 2) := by decide +kernel
theorem dX5_reverseEntry_43 : decode cX5_reverseEntry 43 = .ok (.ireturn, 1) := by decide +kernel
theorem dX5_reverseEntry_44 : decode cX5_reverseEntry 44 = .ok (.aload_n 0, 1) := by decide +kernel
theorem dX5_reverseEntry_45 : decode cX5_reverseEntry 45 = .ok (.getfield 31, 3) := by decide +kernel
theorem dX5_reverseEntry_48 : decode cX5_reverseEntry 48 = .ok (.iload_n 1, 1) := by decide +kernel
theorem dX5_reverseEntry_49 : decode cX5_reverseEntry 49 = .ok (.iconst 2, 1) := by decide +kernel
theorem dX5_reverseEntry_50 : decode cX5_reverseEntry 50 = .ok (.invokevirtual 150, 3) := by decide +kernel
theorem dX5_reverseEntry_53 : decode cX5_reverseEntry 53 = .ok (.istore_n 3, 1) := by decide +kernel
theorem dX5_reverseEntry_54 : decode cX5_reverseEntry 54 = .ok (.aload_n 0, 1) := by decide +kernel
theorem dX5_reverseEntry_55 : decode cX5_reverseEntry 55 = .ok (.getfield 31, 3) := by decide +kernel
theorem dX5_reverseEntry_58 : decode cX5_reverseEntry 58 = .ok (.iload_n 1, 1) := by decide +kernel
theorem dX5_reverseEntry_59 : decode cX5_reverseEntry 59 = .ok (.iconst 3, 1) := by decide +kernel
theorem dX5_reverseEntry_60 : decode cX5_reverseEntry 60 = .ok (.invokevirtual 150, 3) := by decide +kernel
theorem dX5_reverseEntry_63 : decode cX5_reverseEntry 63 = .ok (.istore 4, 2) := by decide +kernel
theorem dX5_reverseEntry_65 : decode cX5_reverseEntry 65 = .ok (.aload_n 0, 1) := by decide +kernel
theorem dX5_reverseEntry_66 : decode cX5_reverseEntry 66 = .ok (.getfield 12, 3) := by decide +kernel
theorem dX5_reverseEntry_69 : decode cX5_reverseEntry 69 = .ok (.iload_n 3, 1) := by decide +kernel
theorem dX5_reverseEntry_70 : decode cX5_reverseEntry 70 = .ok (.invokevirtual 76, 3) := by decide +kernel
theorem dX5_reverseEntry_73 : decode cX5_reverseEntry 73 = .ok (.istore 5, 2) := by decide +kernel
theorem dX5_reverseEntry_75 : decode cX5_reverseEntry 75 = .ok (.aload_n 0, 1) := by decide +kernel
theorem dX5_reverseEntry_76 : decode cX5_reverseEntry 76 = .ok (.getfield 12, 3) := by decide +kernel
theorem dX5_reverseEntry_79 : decode cX5_reverseEntry 79 = .ok (.iload 4, 2) := by decide +kernel
theorem dX5_reverseEntry_81 : decode cX5_reverseEntry 81 = .ok (.invokevirtual 76, 3) := by decide +kernel
theorem dX5_reverseEntry_84 : decode cX5_reverseEntry 84 = .ok (.istore 6, 2) := by decide +kernel
theorem dX5_reverseEntry_86 : decode cX5_reverseEntry 86 = .ok (.iload 5, 2) := by decide +kernel
theorem dX5_reverseEntry_88 : decode cX5_reverseEntry 88 = .ok (.ifCond .lt 13, 3) := by decide +kernel
theorem dX5_reverseEntry_91 : decode cX5_reverseEntry 91 = .ok (.iload_n 2, 1) := by decide +kernel
theorem dX5_reverseEntry_92 : decode cX5_reverseEntry 92 = .ok (.iconst 3, 1) := by decide +kernel
theorem dX5_reverseEntry_93 : decode cX5_reverseEntry 93 = .ok (.if_icmp .ne 11, 3) := by decide +kernel
theorem dX5_reverseEntry_96 : decode cX5_reverseEntry 96 = .ok (.iload 6, 2) := by decide +kernel
theorem dX5_reverseEntry_98 : decode cX5_reverseEntry 98 = .ok (.ifCond .ge 6, 3) := by decide +kernel
theorem dX5_reverseEntry_101 : decode cX5_reverseEntry 101 = .ok (.bipush (-3), 2) := by decide +kernel
theorem dX5_reverseEntry_103 : decode cX5_reverseEntry 103 = .ok (.ireturn, 1) := by decide +kernel
theorem dX5_reverseEntry_104 : decode cX5_reverseEntry 104 = .ok (.iload_n 2, 1) := by decide +kernel
theorem dX5_reverseEntry_105 : decode cX5_reverseEntry 105 = .ok (.iconst 1, 1) := by decide +kernel
theorem dX5_reverseEntry_106 : decode cX5_reverseEntry 106 = .ok (.if_icmp .ne 8, 3) := by decide +kernel
theorem dX5_reverseEntry_109 : decode cX5_reverseEntry 109 = .ok (.iload 5, 2) := by decide +kernel
theorem dX5_reverseEntry_111 : decode cX5_reverseEntry 111 = .ok (.goto 5, 3) := by decide +kernel
theorem dX5_reverseEntry_114 : decode cX5_reverseEntry 114 = .ok (.iload 6, 2) := by decide +kernel
theorem dX5_reverseEntry_116 : decode cX5_reverseEntry 116 = .ok (.istore 7, 2) := by decide +kernel
theorem dX5_reverseEntry_118 : decode cX5_reverseEntry 118 = .ok (.iload_n 2, 1) := by decide +kernel
theorem dX5_reverseEntry_119 : decode cX5_reverseEntry 119 = .ok (.iconst 1, 1) := by decide +kernel
theorem dX5_reverseEntry_120 : decode cX5_reverseEntry 120 = .ok (.if_icmp .ne 7, 3) := by decide +kernel
theorem dX5_reverseEntry_123 : decode cX5_reverseEntry 123 = .ok (.iconst (-1), 1) := by decide +kernel
theorem dX5_reverseEntry_124 : decode cX5_reverseEntry 124 = .ok (.goto 5, 3) := by decide +kernel
theorem dX5_reverseEntry_127 : decode cX5_reverseEntry 127 = .ok (.iload 5, 2) := by decide +kernel
theorem dX5_reverseEntry_129 : decode cX5_reverseEntry 129 = .ok (.istore 8, 2) := by decide +kernel
theorem dX5_reverseEntry_131 : decode cX5_reverseEntry 131 = .ok (.aload_n 0, 1) := by decide +kernel
theorem dX5_reverseEntry_132 : decode cX5_reverseEntry 132 = .ok (.getfield 31, 3) := by decide +kernel
theorem dX5_reverseEntry_135 : decode cX5_reverseEntry 135 = .ok (.iload_n 1, 1) := by decide +kernel
theorem dX5_reverseEntry_136 : decode cX5_reverseEntry 136 = .ok (.iconst 4, 1) := by decide +kernel
theorem dX5_reverseEntry_137 : decode cX5_reverseEntry 137 = .ok (.invokevirtual 150, 3) := by decide +kernel
theorem dX5_reverseEntry_140 : decode cX5_reverseEntry 140 = .ok (.istore 9, 2) := by decide +kernel
theorem dX5_reverseEntry_142 : decode cX5_reverseEntry 142 = .ok (.iload 7, 2) := by decide +kernel
theorem dX5_reverseEntry_144 : decode cX5_reverseEntry 144 = .ok (.ifCond .lt 17, 3) := by decide +kernel
theorem dX5_reverseEntry_147 : decode cX5_reverseEntry 147 = .ok (.aload_n 0, 1) := by decide +kernel
theorem dX5_reverseEntry_148 : decode cX5_reverseEntry 148 = .ok (.iload 7, 2) := by decide +kernel
theorem dX5_reverseEntry_150 : decode cX5_reverseEntry 150 = .ok (.invokevirtual 108, 3) := by decide +kernel
theorem dX5_reverseEntry_153 : decode cX5_reverseEntry 153 = .ok (.iload 9, 2) := by decide +kernel
theorem dX5_reverseEntry_155 : decode cX5_reverseEntry 155 = .ok (.if_icmp .ge 6, 3) := by decide +kernel
theorem dX5_reverseEntry_158 : decode cX5_reverseEntry 158 = .ok (.bipush (-3), 2) := by decide +kernel
theorem dX5_reverseEntry_160 : decode cX5_reverseEntry 160 = .ok (.ireturn, 1) := by decide +kernel
theorem dX5_reverseEntry_161 : decode cX5_reverseEntry 161 = .ok (.iload 8, 2) := by decide +kernel
theorem dX5_reverseEntry_163 : decode cX5_reverseEntry 163 = .ok (.ifCond .lt 23, 3) := by decide +kernel
theorem dX5_reverseEntry_166 : decode cX5_reverseEntry 166 = .ok (.aload_n 0, 1) := by decide +kernel
theorem dX5_reverseEntry_167 : decode cX5_reverseEntry 167 = .ok (.getfield 12, 3) := by decide +kernel
theorem dX5_reverseEntry_170 : decode cX5_reverseEntry 170 = .ok (.iload 8, 2) := by decide +kernel
theorem dX5_reverseEntry_172 : decode cX5_reverseEntry 172 = .ok (.invokevirtual 87, 3) := by decide +kernel
theorem dX5_reverseEntry_175 : decode cX5_reverseEntry 175 = .ok (.ldc 75, 2) := by decide +kernel
theorem dX5_reverseEntry_177 : decode cX5_reverseEntry 177 = .ok (.iload 9, 2) := by decide +kernel
theorem dX5_reverseEntry_179 : decode cX5_reverseEntry 179 = .ok (.isub, 1) := by decide +kernel
theorem dX5_reverseEntry_180 : decode cX5_reverseEntry 180 = .ok (.if_icmp .le 6, 3) := by decide +kernel
theorem dX5_reverseEntry_183 : decode cX5_reverseEntry 183 = .ok (.bipush (-4), 2) := by decide +kernel
theorem dX5_reverseEntry_185 : decode cX5_reverseEntry 185 = .ok (.ireturn, 1) := by decide +kernel
theorem dX5_reverseEntry_186 : decode cX5_reverseEntry 186 = .ok (.aload_n 0, 1) := by decide +kernel
theorem dX5_reverseEntry_187 : decode cX5_reverseEntry 187 = .ok (.getfield 12, 3) := by decide +kernel
theorem dX5_reverseEntry_190 : decode cX5_reverseEntry 190 = .ok (.iload 7, 2) := by decide +kernel
theorem dX5_reverseEntry_192 : decode cX5_reverseEntry 192 = .ok (.iload 9, 2) := by decide +kernel
theorem dX5_reverseEntry_194 : decode cX5_reverseEntry 194 = .ok (.ineg, 1) := by decide +kernel
theorem dX5_reverseEntry_195 : decode cX5_reverseEntry 195 = .ok (.invokevirtual 101, 3) := by decide +kernel
theorem dX5_reverseEntry_198 : decode cX5_reverseEntry 198 = .ok (.aload_n 0, 1) := by decide +kernel
theorem dX5_reverseEntry_199 : decode cX5_reverseEntry 199 = .ok (.getfield 12, 3) := by decide +kernel
theorem dX5_reverseEntry_202 : decode cX5_reverseEntry 202 = .ok (.iload 8, 2) := by decide +kernel
theorem dX5_reverseEntry_204 : decode cX5_reverseEntry 204 = .ok (.iload 9, 2) := by decide +kernel
theorem dX5_reverseEntry_206 : decode cX5_reverseEntry 206 = .ok (.invokevirtual 101, 3) := by decide +kernel
theorem dX5_reverseEntry_209 : decode cX5_reverseEntry 209 = .ok (.iload_n 2, 1) := by decide +kernel
theorem dX5_reverseEntry_210 : decode cX5_reverseEntry 210 = .ok (.iconst 1, 1) := by decide +kernel
theorem dX5_reverseEntry_211 : decode cX5_reverseEntry 211 = .ok (.if_icmp .ne 18, 3) := by decide +kernel
theorem dX5_reverseEntry_214 : decode cX5_reverseEntry 214 = .ok (.aload_n 0, 1) := by decide +kernel
theorem dX5_reverseEntry_215 : decode cX5_reverseEntry 215 = .ok (.dup, 1) := by decide +kernel
theorem dX5_reverseEntry_216 : decode cX5_reverseEntry 216 = .ok (.getfield 59, 3) := by decide +kernel
theorem dX5_reverseEntry_219 : decode cX5_reverseEntry 219 = .ok (.iload 9, 2) := by decide +kernel
theorem dX5_reverseEntry_221 : decode cX5_reverseEntry 221 = .ok (.i2l, 1) := by decide +kernel
theorem dX5_reverseEntry_222 : decode cX5_reverseEntry 222 = .ok (.lsub, 1) := by decide +kernel
theorem dX5_reverseEntry_223 : decode cX5_reverseEntry 223 = .ok (.putfield 59, 3) := by decide +kernel
theorem dX5_reverseEntry_226 : decode cX5_reverseEntry 226 = .ok (.goto 20, 3) := by decide +kernel
theorem dX5_reverseEntry_229 : decode cX5_reverseEntry 229 = .ok (.iload_n 2, 1) := by decide +kernel
theorem dX5_reverseEntry_230 : decode cX5_reverseEntry 230 = .ok (.iconst 2, 1) := by decide +kernel
theorem dX5_reverseEntry_231 : decode cX5_reverseEntry 231 = .ok (.if_icmp .ne 15, 3) := by decide +kernel
theorem dX5_reverseEntry_234 : decode cX5_reverseEntry 234 = .ok (.aload_n 0, 1) := by decide +kernel
theorem dX5_reverseEntry_235 : decode cX5_reverseEntry 235 = .ok (.dup, 1) := by decide +kernel
