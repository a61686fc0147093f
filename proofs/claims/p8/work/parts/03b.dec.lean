theorem dX7_readOperator_22 : decode cX7_readOperator 22 = .ok (.if_icmp .ne 20, 3) := by decide +kernel
theorem dX7_readOperator_25 : decode cX7_readOperator 25 = .ok (.aload_n 0, 1) := by decide +kernel
theorem dX7_readOperator_26 : decode cX7_readOperator 26 = .ok (.invokevirtual 125, 3) := by decide +kernel
theorem dX7_readOperator_29 : decode cX7_readOperator 29 = .ok (.invokestatic 109, 3) := by decide +kernel
theorem dX7_readOperator_32 : decode cX7_readOperator 32 = .ok (.iconst 2, 1) := by decide +kernel
theorem dX7_readOperator_33 : decode cX7_readOperator 33 = .ok (.if_icmp .ne 9, 3) := by decide +kernel
theorem dX7_readOperator_36 : decode cX7_readOperator 36 = .ok (.aload_n 0, 1) := by decide +kernel
theorem dX7_readOperator_37 : decode cX7_readOperator 37 = .ok (.iconst 1, 1) := by decide +kernel
theorem dX7_readOperator_38 : decode cX7_readOperator 38 = .ok (.invokevirtual 54, 3) := by decide +kernel
theorem dX7_readOperator_41 : decode cX7_readOperator 41 = .ok (.return_, 1) := by decide +kernel
theorem dX7_readOperator_42 : decode cX7_readOperator 42 = .ok (.aload_n 0, 1) := by decide +kernel
theorem dX7_readOperator_43 : decode cX7_readOperator 43 = .ok (.iload_n 2, 1) := by decide +kernel
theorem dX7_readOperator_44 : decode cX7_readOperator 44 = .ok (.invokevirtual 116, 3) := by decide +kernel
theorem dX7_readOperator_47 : decode cX7_readOperator 47 = .ok (.aload_n 0, 1) := by decide +kernel
theorem dX7_readOperator_48 : decode cX7_readOperator 48 = .ok (.iload_n 1, 1) := by decide +kernel
theorem dX7_readOperator_49 : decode cX7_readOperator 49 = .ok (.invokevirtual 119, 3) := by decide +kernel
theorem dX7_readOperator_52 : decode cX7_readOperator 52 = .ok (.aload_n 0, 1) := by decide +kernel
theorem dX7_readOperator_53 : decode cX7_readOperator 53 = .ok (.getfield 24, 3) := by decide +kernel
theorem dX7_readOperator_56 : decode cX7_readOperator 56 = .ok (.invokevirtual 60, 3) := by decide +kernel
theorem dX7_readOperator_59 : decode cX7_readOperator 59 = .ok (.return_, 1) := by decide +kernel
theorem dX7_writeWaiting_0 : decode cX7_writeWaiting 0 = .ok (.iconst 0, 1) := by decide +kernel
theorem dX7_writeWaiting_1 : decode cX7_writeWaiting 1 = .ok (.istore_n 2, 1) := by decide +kernel
theorem dX7_writeWaiting_2 : decode cX7_writeWaiting 2 = .ok (.iload_n 2, 1) := by decide +kernel
theorem dX7_writeWaiting_3 : decode cX7_writeWaiting 3 = .ok (.aload_n 0, 1) := by decide +kernel
theorem dX7_writeWaiting_4 : decode cX7_writeWaiting 4 = .ok (.getfield 21, 3) := by decide +kernel
theorem dX7_writeWaiting_7 : decode cX7_writeWaiting 7 = .ok (.arraylength, 1) := by decide +kernel
theorem dX7_writeWaiting_8 : decode cX7_writeWaiting 8 = .ok (.if_icmp .ge 42, 3) := by decide +kernel
theorem dX7_writeWaiting_11 : decode cX7_writeWaiting 11 = .ok (.aload_n 0, 1) := by decide +kernel
theorem dX7_writeWaiting_12 : decode cX7_writeWaiting 12 = .ok (.invokevirtual 125, 3) := by decide +kernel
theorem dX7_writeWaiting_15 : decode cX7_writeWaiting 15 = .ok (.invokestatic 109, 3) := by decide +kernel
theorem dX7_writeWaiting_18 : decode cX7_writeWaiting 18 = .ok (.iload_n 1, 1) := by decide +kernel
theorem dX7_writeWaiting_19 : decode cX7_writeWaiting 19 = .ok (.if_icmp .lt 31, 3) := by decide +kernel
theorem dX7_writeWaiting_22 : decode cX7_writeWaiting 22 = .ok (.aload_n 0, 1) := by decide +kernel
theorem dX7_writeWaiting_23 : decode cX7_writeWaiting 23 = .ok (.sipush 30000, 3) := by decide +kernel
theorem dX7_writeWaiting_26 : decode cX7_writeWaiting 26 = .ok (.aload_n 0, 1) := by decide +kernel
theorem dX7_writeWaiting_27 : decode cX7_writeWaiting 27 = .ok (.invokevirtual 125, 3) := by decide +kernel
theorem dX7_writeWaiting_30 : decode cX7_writeWaiting 30 = .ok (.iadd, 1) := by decide +kernel
theorem dX7_writeWaiting_31 : decode cX7_writeWaiting 31 = .ok (.invokevirtual 57, 3) := by decide +kernel
theorem dX7_writeWaiting_34 : decode cX7_writeWaiting 34 = .ok (.aload_n 0, 1) := by decide +kernel
theorem dX7_writeWaiting_35 : decode cX7_writeWaiting 35 = .ok (.dup, 1) := by decide +kernel
theorem dX7_writeWaiting_36 : decode cX7_writeWaiting 36 = .ok (.getfield 96, 3) := by decide +kernel
theorem dX7_writeWaiting_39 : decode cX7_writeWaiting 39 = .ok (.iconst 1, 1) := by decide +kernel
theorem dX7_writeWaiting_40 : decode cX7_writeWaiting 40 = .ok (.isub, 1) := by decide +kernel
theorem dX7_writeWaiting_41 : decode cX7_writeWaiting 41 = .ok (.putfield 96, 3) := by decide +kernel
theorem dX7_writeWaiting_44 : decode cX7_writeWaiting 44 = .ok (.iinc 2 1, 3) := by decide +kernel
theorem dX7_writeWaiting_47 : decode cX7_writeWaiting 47 = .ok (.goto (-45), 3) := by decide +kernel
theorem dX7_writeWaiting_50 : decode cX7_writeWaiting 50 = .ok (.return_, 1) := by decide +kernel
theorem dX7_lastWaiting_0 : decode cX7_lastWaiting 0 = .ok (.aload_n 0, 1) := by decide +kernel
theorem dX7_lastWaiting_1 : decode cX7_lastWaiting 1 = .ok (.getfield 96, 3) := by decide +kernel
theorem dX7_lastWaiting_4 : decode cX7_lastWaiting 4 = .ok (.ifCond .le 29, 3) := by decide +kernel
theorem dX7_lastWaiting_7 : decode cX7_lastWaiting 7 = .ok (.aload_n 0, 1) := by decide +kernel
theorem dX7_lastWaiting_8 : decode cX7_lastWaiting 8 = .ok (.getfield 96, 3) := by decide +kernel
theorem dX7_lastWaiting_11 : decode cX7_lastWaiting 11 = .ok (.aload_n 0, 1) := by decide +kernel
theorem dX7_lastWaiting_12 : decode cX7_lastWaiting 12 = .ok (.getfield 21, 3) := by decide +kernel
theorem dX7_lastWaiting_15 : decode cX7_lastWaiting 15 = .ok (.arraylength, 1) := by decide +kernel
theorem dX7_lastWaiting_16 : decode cX7_lastWaiting 16 = .ok (.if_icmp .gt 17, 3) := by decide +kernel
theorem dX7_lastWaiting_19 : decode cX7_lastWaiting 19 = .ok (.aload_n 0, 1) := by decide +kernel
theorem dX7_lastWaiting_20 : decode cX7_lastWaiting 20 = .ok (.getfield 21, 3) := by decide +kernel
theorem dX7_lastWaiting_23 : decode cX7_lastWaiting 23 = .ok (.aload_n 0, 1) := by decide +kernel
theorem dX7_lastWaiting_24 : decode cX7_lastWaiting 24 = .ok (.getfield 96, 3) := by decide +kernel
theorem dX7_lastWaiting_27 : decode cX7_lastWaiting 27 = .ok (.iconst 1, 1) := by decide +kernel
theorem dX7_lastWaiting_28 : decode cX7_lastWaiting 28 = .ok (.isub, 1) := by decide +kernel
theorem dX7_lastWaiting_29 : decode cX7_lastWaiting 29 = .ok (.iaload, 1) := by decide +kernel
theorem dX7_lastWaiting_30 : decode cX7_lastWaiting 30 = .ok (.goto 4, 3) := by decide +kernel
theorem dX7_lastWaiting_33 : decode cX7_lastWaiting 33 = .ok (.iconst (-1), 1) := by decide +kernel
theorem dX7_lastWaiting_34 : decode cX7_lastWaiting 34 = .ok (.ireturn, 1) := by decide +kernel
theorem dX7_hold_0 : decode cX7_hold 0 = .ok (.aload_n 0, 1) := by decide +kernel
theorem dX7_hold_1 : decode cX7_hold 1 = .ok (.getfield 96, 3) := by decide +kernel
theorem dX7_hold_4 : decode cX7_hold 4 = .ok (.aload_n 0, 1) := by decide +kernel
theorem dX7_hold_5 : decode cX7_hold 5 = .ok (.getfield 21, 3) := by decide +kernel
theorem dX7_hold_8 : decode cX7_hold 8 = .ok (.arraylength, 1) := by decide +kernel
theorem dX7_hold_9 : decode cX7_hold 9 = .ok (.if_icmp .ge 23, 3) := by decide +kernel
theorem dX7_hold_12 : decode cX7_hold 12 = .ok (.aload_n 0, 1) := by decide +kernel
theorem dX7_hold_13 : decode cX7_hold 13 = .ok (.getfield 21, 3) := by decide +kernel
theorem dX7_hold_16 : decode cX7_hold 16 = .ok (.aload_n 0, 1) := by decide +kernel
theorem dX7_hold_17 : decode cX7_hold 17 = .ok (.getfield 96, 3) := by decide +kernel
theorem dX7_hold_20 : decode cX7_hold 20 = .ok (.iload_n 1, 1) := by decide +kernel
theorem dX7_hold_21 : decode cX7_hold 21 = .ok (.iastore, 1) := by decide +kernel
theorem dX7_hold_22 : decode cX7_hold 22 = .ok (.aload_n 0, 1) := by decide +kernel
theorem dX7_hold_23 : decode cX7_hold 23 = .ok (.dup, 1) := by decide +kernel
theorem dX7_hold_24 : decode cX7_hold 24 = .ok (.getfield 96, 3) := by decide +kernel
theorem dX7_hold_27 : decode cX7_hold 27 = .ok (.iconst 1, 1) := by decide +kernel
theorem dX7_hold_28 : decode cX7_hold 28 = .ok (.iadd, 1) := by decide +kernel
theorem dX7_hold_29 : decode cX7_hold 29 = .ok (.putfield 96, 3) := by decide +kernel
theorem dX7_hold_32 : decode cX7_hold 32 = .ok (.return_, 1) := by decide +kernel
theorem dX7_nameOf_0 : decode cX7_nameOf 0 = .ok (.iconst 0, 1) := by decide +kernel
theorem dX7_nameOf_1 : decode cX7_nameOf 1 = .ok (.istore_n 3, 1) := by decide +kernel
theorem dX7_nameOf_2 : decode cX7_nameOf 2 = .ok (.iload_n 3, 1) := by decide +kernel
theorem dX7_nameOf_3 : decode cX7_nameOf 3 = .ok (.aload_n 0, 1) := by decide +kernel
theorem dX7_nameOf_4 : decode cX7_nameOf 4 = .ok (.getfield 28, 3) := by decide +kernel
theorem dX7_nameOf_7 : decode cX7_nameOf 7 = .ok (.if_icmp .ge 28, 3) := by decide +kernel
theorem dX7_nameOf_10 : decode cX7_nameOf 10 = .ok (.iload_n 3, 1) := by decide +kernel
theorem dX7_nameOf_11 : decode cX7_nameOf 11 = .ok (.bipush 8, 2) := by decide +kernel
theorem dX7_nameOf_13 : decode cX7_nameOf 13 = .ok (.if_icmp .ge 22, 3) := by decide +kernel
theorem dX7_nameOf_16 : decode cX7_nameOf 16 = .ok (.aload_n 0, 1) := by decide +kernel
theorem dX7_nameOf_17 : decode cX7_nameOf 17 = .ok (.getfield 11, 3) := by decide +kernel
theorem dX7_nameOf_20 : decode cX7_nameOf 20 = .ok (.iload_n 3, 1) := by decide +kernel
theorem dX7_nameOf_21 : decode cX7_nameOf 21 = .ok (.laload, 1) := by decide +kernel
theorem dX7_nameOf_22 : decode cX7_nameOf 22 = .ok (.lload_n 1, 1) := by decide +kernel
theorem dX7_nameOf_23 : decode cX7_nameOf 23 = .ok (.lcmp, 1) := by decide +kernel
theorem dX7_nameOf_24 : decode cX7_nameOf 24 = .ok (.ifCond .ne 5, 3) := by decide +kernel
theorem dX7_nameOf_27 : decode cX7_nameOf 27 = .ok (.iload_n 3, 1) := by decide +kernel
theorem dX7_nameOf_28 : decode cX7_nameOf 28 = .ok (.ireturn, 1) := by decide +kernel
theorem dX7_nameOf_29 : decode cX7_nameOf 29 = .ok (.iinc 3 1, 3) := by decide +kernel
theorem dX7_nameOf_32 : decode cX7_nameOf 32 = .ok (.goto (-30), 3) := by decide +kernel
theorem dX7_nameOf_35 : decode cX7_nameOf 35 = .ok (.iconst (-1), 1) := by decide +kernel
theorem dX7_nameOf_36 : decode cX7_nameOf 36 = .ok (.ireturn, 1) := by decide +kernel
theorem dX7_write_0 : decode cX7_write 0 = .ok (.aload_n 0, 1) := by decide +kernel
theorem dX7_write_1 : decode cX7_write 1 = .ok (.getfield 32, 3) := by decide +kernel
theorem dX7_write_4 : decode cX7_write 4 = .ok (.aload_n 0, 1) := by decide +kernel
theorem dX7_write_5 : decode cX7_write 5 = .ok (.getfield 17, 3) := by decide +kernel
theorem dX7_write_8 : decode cX7_write 8 = .ok (.arraylength, 1) := by decide +kernel
theorem dX7_write_9 : decode cX7_write 9 = .ok (.if_icmp .ge 23, 3) := by decide +kernel
theorem dX7_write_12 : decode cX7_write 12 = .ok (.aload_n 0, 1) := by decide +kernel
theorem dX7_write_13 : decode cX7_write 13 = .ok (.getfield 17, 3) := by decide +kernel
theorem dX7_write_16 : decode cX7_write 16 = .ok (.aload_n 0, 1) := by decide +kernel
theorem dX7_write_17 : decode cX7_write 17 = .ok (.getfield 32, 3) := by decide +kernel
theorem dX7_write_20 : decode cX7_write 20 = .ok (.iload_n 1, 1) := by decide +kernel
theorem dX7_write_21 : decode cX7_write 21 = .ok (.iastore, 1) := by decide +kernel
theorem dX7_write_22 : decode cX7_write 22 = .ok (.aload_n 0, 1) := by decide +kernel
theorem dX7_write_23 : decode cX7_write 23 = .ok (.dup, 1) := by decide +kernel
theorem dX7_write_24 : decode cX7_write 24 = .ok (.getfield 32, 3) := by decide +kernel
theorem dX7_write_27 : decode cX7_write 27 = .ok (.iconst 1, 1) := by decide +kernel
theorem dX7_write_28 : decode cX7_write 28 = .ok (.iadd, 1) := by decide +kernel
theorem dX7_write_29 : decode cX7_write 29 = .ok (.putfield 32, 3) := by decide +kernel
theorem dX7_write_32 : decode cX7_write 32 = .ok (.return_, 1) := by decide +kernel
theorem dX7_wrong_0 : decode cX7_wrong 0 = .ok (.aload_n 0, 1) := by decide +kernel
theorem dX7_wrong_1 : decode cX7_wrong 1 = .ok (.getfield 35, 3) := by decide +kernel
theorem dX7_wrong_4 : decode cX7_wrong 4 = .ok (.ifCond .ne 19, 3) := by decide +kernel
theorem dX7_wrong_7 : decode cX7_wrong 7 = .ok (.aload_n 0, 1) := by decide +kernel
theorem dX7_wrong_8 : decode cX7_wrong 8 = .ok (.iload_n 1, 1) := by decide +kernel
theorem dX7_wrong_9 : decode cX7_wrong 9 = .ok (.bipush 16, 2) := by decide +kernel
theorem dX7_wrong_11 : decode cX7_wrong 11 = .ok (.aload_n 0, 1) := by decide +kernel
theorem dX7_wrong_12 : decode cX7_wrong 12 = .ok (.getfield 24, 3) := by decide +kernel
theorem dX7_wrong_15 : decode cX7_wrong 15 = .ok (.getfield 129, 3) := by decide +kernel
theorem dX7_wrong_18 : decode cX7_wrong 18 = .ok (.imul, 1) := by decide +kernel
theorem dX7_wrong_19 : decode cX7_wrong 19 = .ok (.iadd, 1) := by decide +kernel
theorem dX7_wrong_20 : decode cX7_wrong 20 = .ok (.putfield 35, 3) := by decide +kernel
theorem dX7_wrong_23 : decode cX7_wrong 23 = .ok (.return_, 1) := by decide +kernel
theorem dX7_rank_0 : decode cX7_rank 0 = .ok (.iload_n 0, 1) := by decide +kernel
theorem dX7_rank_1 : decode cX7_rank 1 = .ok (.lookupswitch 75 #[(7, 67), (8, 67), (42, 73), (43, 71), (45, 71), (60, 69), (61, 69)], 67) := by decide +kernel
theorem dX7_rank_68 : decode cX7_rank 68 = .ok (.iconst 1, 1) := by decide +kernel
theorem dX7_rank_69 : decode cX7_rank 69 = .ok (.ireturn, 1) := by decide +kernel
theorem dX7_rank_70 : decode cX7_rank 70 = .ok (.iconst 2, 1) := by decide +kernel
theorem dX7_rank_71 : decode cX7_rank 71 = .ok (.ireturn, 1) := by decide +kernel
theorem dX7_rank_72 : decode cX7_rank 72 = .ok (.iconst 3, 1) := by decide +kernel
theorem dX7_rank_73 : decode cX7_rank 73 = .ok (.ireturn, 1) := by decide +kernel
theorem dX7_rank_74 : decode cX7_rank 74 = .ok (.iconst 4, 1) := by decide +kernel
theorem dX7_rank_75 : decode cX7_rank 75 = .ok (.ireturn, 1) := by decide +kernel
theorem dX7_rank_76 : decode cX7_rank 76 = .ok (.iconst 0, 1) := by decide +kernel
theorem dX7_rank_77 : decode cX7_rank 77 = .ok (.ireturn, 1) := by decide +kernel
theorem dX8_init_0 : decode cX8_init 0 = .ok (.aload_n 0, 1) := by decide +kernel
theorem dX8_init_1 : decode cX8_init 1 = .ok (.invokespecial 3, 3) := by decide +kernel
theorem dX8_init_4 : decode cX8_init 4 = .ok (.return_, 1) := by decide +kernel
theorem dX8_settle_0 : decode cX8_settle 0 = .ok (.aload_n 0, 1) := by decide +kernel
theorem dX8_settle_1 : decode cX8_settle 1 = .ok (.aload_n 1, 1) := by decide +kernel
theorem dX8_settle_2 : decode cX8_settle 2 = .ok (.aload_n 1, 1) := by decide +kernel
theorem dX8_settle_3 : decode cX8_settle 3 = .ok (.getfield 9, 3) := by decide +kernel
theorem dX8_settle_6 : decode cX8_settle 6 = .ok (.bipush 60, 2) := by decide +kernel
theorem dX8_settle_8 : decode cX8_settle 8 = .ok (.invokevirtual 17, 3) := by decide +kernel
theorem dX8_settle_11 : decode cX8_settle 11 = .ok (.aload_n 1, 1) := by decide +kernel
theorem dX8_settle_12 : decode cX8_settle 12 = .ok (.aload_n 0, 1) := by decide +kernel
theorem dX8_settle_13 : decode cX8_settle 13 = .ok (.getfield 21, 3) := by decide +kernel
theorem dX8_settle_16 : decode cX8_settle 16 = .ok (.putfield 24, 3) := by decide +kernel
theorem dX8_settle_19 : decode cX8_settle 19 = .ok (.aload_n 1, 1) := by decide +kernel
theorem dX8_settle_20 : decode cX8_settle 20 = .ok (.aload_n 0, 1) := by decide +kernel
theorem dX8_settle_21 : decode cX8_settle 21 = .ok (.getfield 25, 3) := by decide +kernel
theorem dX8_settle_24 : decode cX8_settle 24 = .ok (.putfield 28, 3) := by decide +kernel
theorem dX8_settle_27 : decode cX8_settle 27 = .ok (.aload_n 1, 1) := by decide +kernel
theorem dX8_settle_28 : decode cX8_settle 28 = .ok (.aload_n 0, 1) := by decide +kernel
theorem dX8_settle_29 : decode cX8_settle 29 = .ok (.getfield 29, 3) := by decide +kernel
theorem dX8_settle_32 : decode cX8_settle 32 = .ok (.putfield 32, 3) := by decide +kernel
theorem dX8_settle_35 : decode cX8_settle 35 = .ok (.aload_n 1, 1) := by decide +kernel
theorem dX8_settle_36 : decode cX8_settle 36 = .ok (.aload_n 0, 1) := by decide +kernel
theorem dX8_settle_37 : decode cX8_settle 37 = .ok (.getfield 21, 3) := by decide +kernel
theorem dX8_settle_40 : decode cX8_settle 40 = .ok (.iconst (-1), 1) := by decide +kernel
theorem dX8_settle_41 : decode cX8_settle 41 = .ok (.if_icmp .ne 7, 3) := by decide +kernel
theorem dX8_settle_44 : decode cX8_settle 44 = .ok (.iconst (-1), 1) := by decide +kernel
theorem dX8_settle_45 : decode cX8_settle 45 = .ok (.goto 7, 3) := by decide +kernel
theorem dX8_settle_48 : decode cX8_settle 48 = .ok (.aload_n 0, 1) := by decide +kernel
theorem dX8_settle_49 : decode cX8_settle 49 = .ok (.getfield 33, 3) := by decide +kernel
theorem dX8_settle_52 : decode cX8_settle 52 = .ok (.putfield 36, 3) := by decide +kernel
theorem dX8_settle_55 : decode cX8_settle 55 = .ok (.aload_n 1, 1) := by decide +kernel
theorem dX8_settle_56 : decode cX8_settle 56 = .ok (.iconst (-1), 1) := by decide +kernel
theorem dX8_settle_57 : decode cX8_settle 57 = .ok (.putfield 39, 3) := by decide +kernel
theorem dX8_settle_60 : decode cX8_settle 60 = .ok (.return_, 1) := by decide +kernel
theorem dX8_safeSpeed_0 : decode cX8_safeSpeed 0 = .ok (.aload_n 1, 1) := by decide +kernel
theorem dX8_safeSpeed_1 : decode cX8_safeSpeed 1 = .ok (.getfield 39, 3) := by decide +kernel
theorem dX8_safeSpeed_4 : decode cX8_safeSpeed 4 = .ok (.iconst (-1), 1) := by decide +kernel
theorem dX8_safeSpeed_5 : decode cX8_safeSpeed 5 = .ok (.if_icmp .ne 12, 3) := by decide +kernel
theorem dX8_safeSpeed_8 : decode cX8_safeSpeed 8 = .ok (.aload_n 1, 1) := by decide +kernel
theorem dX8_safeSpeed_9 : decode cX8_safeSpeed 9 = .ok (.aload_n 0, 1) := by decide +kernel
theorem dX8_safeSpeed_10 : decode cX8_safeSpeed 10 = .ok (.aload_n 1, 1) := by decide +kernel
theorem dX8_safeSpeed_11 : decode cX8_safeSpeed 11 = .ok (.invokevirtual 42, 3) := by decide +kernel
theorem dX8_safeSpeed_14 : decode cX8_safeSpeed 14 = .ok (.putfield 39, 3) := by decide +kernel
theorem dX8_safeSpeed_17 : decode cX8_safeSpeed 17 = .ok (.aload_n 1, 1) := by decide +kernel
theorem dX8_safeSpeed_18 : decode cX8_safeSpeed 18 = .ok (.getfield 39, 3) := by decide +kernel
theorem dX8_safeSpeed_21 : decode cX8_safeSpeed 21 = .ok (.ireturn, 1) := by decide +kernel
theorem dX8_findSafeSpeed_0 : decode cX8_findSafeSpeed 0 = .ok (.aload_n 1, 1) := by decide +kernel
theorem dX8_findSafeSpeed_1 : decode cX8_findSafeSpeed 1 = .ok (.getfield 9, 3) := by decide +kernel
theorem dX8_findSafeSpeed_4 : decode cX8_findSafeSpeed 4 = .ok (.istore_n 2, 1) := by decide +kernel
theorem dX8_findSafeSpeed_5 : decode cX8_findSafeSpeed 5 = .ok (.iload_n 2, 1) := by decide +kernel
theorem dX8_findSafeSpeed_6 : decode cX8_findSafeSpeed 6 = .ok (.ifCond .le 27, 3) := by decide +kernel
theorem dX8_findSafeSpeed_9 : decode cX8_findSafeSpeed 9 = .ok (.aload_n 0, 1) := by decide +kernel
theorem dX8_findSafeSpeed_10 : decode cX8_findSafeSpeed 10 = .ok (.aload_n 1, 1) := by decide +kernel
theorem dX8_findSafeSpeed_11 : decode cX8_findSafeSpeed 11 = .ok (.iload_n 2, 1) := by decide +kernel
theorem dX8_findSafeSpeed_12 : decode cX8_findSafeSpeed 12 = .ok (.bipush 60, 2) := by decide +kernel
theorem dX8_findSafeSpeed_14 : decode cX8_findSafeSpeed 14 = .ok (.invokevirtual 17, 3) := by decide +kernel
theorem dX8_findSafeSpeed_17 : decode cX8_findSafeSpeed 17 = .ok (.aload_n 0, 1) := by decide +kernel
theorem dX8_findSafeSpeed_18 : decode cX8_findSafeSpeed 18 = .ok (.getfield 21, 3) := by decide +kernel
theorem dX8_findSafeSpeed_21 : decode cX8_findSafeSpeed 21 = .ok (.iconst (-1), 1) := by decide +kernel
theorem dX8_findSafeSpeed_22 : decode cX8_findSafeSpeed 22 = .ok (.if_icmp .ne 5, 3) := by decide +kernel
theorem dX8_findSafeSpeed_25 : decode cX8_findSafeSpeed 25 = .ok (.iload_n 2, 1) := by decide +kernel
theorem dX8_findSafeSpeed_26 : decode cX8_findSafeSpeed 26 = .ok (.ireturn, 1) := by decide +kernel
theorem dX8_findSafeSpeed_27 : decode cX8_findSafeSpeed 27 = .ok (.iinc 2 (-1), 3) := by decide +kernel
theorem dX8_findSafeSpeed_30 : decode cX8_findSafeSpeed 30 = .ok (.goto (-25), 3) := by decide +kernel
theorem dX8_findSafeSpeed_33 : decode cX8_findSafeSpeed 33 = .ok (.iconst 0, 1) := by decide +kernel
theorem dX8_findSafeSpeed_34 : decode cX8_findSafeSpeed 34 = .ok (.ireturn, 1) := by decide +kernel
theorem dX8_go_0 : decode cX8_go 0 = .ok (.aload_n 0, 1) := by decide +kernel
theorem dX8_go_1 : decode cX8_go 1 = .ok (.aload_n 1, 1) := by decide +kernel
theorem dX8_go_2 : decode cX8_go 2 = .ok (.getfield 46, 3) := by decide +kernel
theorem dX8_go_5 : decode cX8_go 5 = .ok (.putfield 49, 3) := by decide +kernel
theorem dX8_go_8 : decode cX8_go 8 = .ok (.aload_n 0, 1) := by decide +kernel
theorem dX8_go_9 : decode cX8_go 9 = .ok (.aload_n 1, 1) := by decide +kernel
theorem dX8_go_10 : decode cX8_go 10 = .ok (.getfield 50, 3) := by decide +kernel
theorem dX8_go_13 : decode cX8_go 13 = .ok (.putfield 53, 3) := by decide +kernel
theorem dX8_go_16 : decode cX8_go 16 = .ok (.aload_n 0, 1) := by decide +kernel
theorem dX8_go_17 : decode cX8_go 17 = .ok (.iload_n 2, 1) := by decide +kernel
theorem dX8_go_18 : decode cX8_go 18 = .ok (.putfield 33, 3) := by decide +kernel
theorem dX8_go_21 : decode cX8_go 21 = .ok (.aload_n 0, 1) := by decide +kernel
theorem dX8_go_22 : decode cX8_go 22 = .ok (.iconst 0, 1) := by decide +kernel
theorem dX8_go_23 : decode cX8_go 23 = .ok (.putfield 54, 3) := by decide +kernel
theorem dX8_go_26 : decode cX8_go 26 = .ok (.aload_n 0, 1) := by decide +kernel
theorem dX8_go_27 : decode cX8_go 27 = .ok (.iconst (-1), 1) := by decide +kernel
theorem dX8_go_28 : decode cX8_go 28 = .ok (.putfield 25, 3) := by decide +kernel
theorem dX8_go_31 : decode cX8_go 31 = .ok (.aload_n 0, 1) := by decide +kernel
theorem dX8_go_32 : decode cX8_go 32 = .ok (.iconst (-1), 1) := by decide +kernel
theorem dX8_go_33 : decode cX8_go 33 = .ok (.putfield 29, 3) := by decide +kernel
theorem dX8_go_36 : decode cX8_go 36 = .ok (.aload_n 0, 1) := by decide +kernel
theorem dX8_go_37 : decode cX8_go 37 = .ok (.iconst (-1), 1) := by decide +kernel
theorem dX8_go_38 : decode cX8_go 38 = .ok (.putfield 21, 3) := by decide +kernel
theorem dX8_go_41 : decode cX8_go 41 = .ok (.iconst 0, 1) := by decide +kernel
theorem dX8_go_42 : decode cX8_go 42 = .ok (.istore 4, 2) := by decide +kernel
theorem dX8_go_44 : decode cX8_go 44 = .ok (.iload 4, 2) := by decide +kernel
theorem dX8_go_46 : decode cX8_go 46 = .ok (.iload_n 3, 1) := by decide +kernel
theorem dX8_go_47 : decode cX8_go 47 = .ok (.if_icmp .ge 22, 3) := by decide +kernel
theorem dX8_go_50 : decode cX8_go 50 = .ok (.aload_n 0, 1) := by decide +kernel
theorem dX8_go_51 : decode cX8_go 51 = .ok (.getfield 21, 3) := by decide +kernel
theorem dX8_go_54 : decode cX8_go 54 = .ok (.iconst (-1), 1) := by decide +kernel
theorem dX8_go_55 : decode cX8_go 55 = .ok (.if_icmp .ne 14, 3) := by decide +kernel
theorem dX8_go_58 : decode cX8_go 58 = .ok (.aload_n 0, 1) := by decide +kernel
theorem dX8_go_59 : decode cX8_go 59 = .ok (.aload_n 1, 1) := by decide +kernel
theorem dX8_go_60 : decode cX8_go 60 = .ok (.invokevirtual 57, 3) := by decide +kernel
theorem dX8_go_63 : decode cX8_go 63 = .ok (.iinc 4 1, 3) := by decide +kernel
theorem dX8_go_66 : decode cX8_go 66 = .ok (.goto (-22), 3) := by decide +kernel
theorem dX8_go_69 : decode cX8_go 69 = .ok (.aload_n 0, 1) := by decide +kernel
theorem dX8_go_70 : decode cX8_go 70 = .ok (.aload_n 0, 1) := by decide +kernel
theorem dX8_go_71 : decode cX8_go 71 = .ok (.aload_n 1, 1) := by decide +kernel
theorem dX8_go_72 : decode cX8_go 72 = .ok (.invokevirtual 61, 3) := by decide +kernel
theorem dX8_go_75 : decode cX8_go 75 = .ok (.invokevirtual 65, 3) := by decide +kernel
theorem dX8_go_78 : decode cX8_go 78 = .ok (.return_, 1) := by decide +kernel
theorem dX8_goOn_0 : decode cX8_goOn 0 = .ok (.aload_n 0, 1) := by decide +kernel
theorem dX8_goOn_1 : decode cX8_goOn 1 = .ok (.aload_n 1, 1) := by decide +kernel
theorem dX8_goOn_2 : decode cX8_goOn 2 = .ok (.invokevirtual 61, 3) := by decide +kernel
theorem dX8_goOn_5 : decode cX8_goOn 5 = .ok (.istore_n 2, 1) := by decide +kernel
theorem dX8_goOn_6 : decode cX8_goOn 6 = .ok (.aload_n 0, 1) := by decide +kernel
theorem dX8_goOn_7 : decode cX8_goOn 7 = .ok (.iload_n 2, 1) := by decide +kernel
theorem dX8_goOn_8 : decode cX8_goOn 8 = .ok (.invokevirtual 65, 3) := by decide +kernel
theorem dX8_goOn_11 : decode cX8_goOn 11 = .ok (.aload_n 1, 1) := by decide +kernel
theorem dX8_goOn_12 : decode cX8_goOn 12 = .ok (.getfield 69, 3) := by decide +kernel
theorem dX8_goOn_15 : decode cX8_goOn 15 = .ok (.ifCond .eq 45, 3) := by decide +kernel
theorem dX8_goOn_18 : decode cX8_goOn 18 = .ok (.iload_n 2, 1) := by decide +kernel
theorem dX8_goOn_19 : decode cX8_goOn 19 = .ok (.ifCond .eq 41, 3) := by decide +kernel
theorem dX8_goOn_22 : decode cX8_goOn 22 = .ok (.aload_n 0, 1) := by decide +kernel
theorem dX8_goOn_23 : decode cX8_goOn 23 = .ok (.getfield 33, 3) := by decide +kernel
theorem dX8_goOn_26 : decode cX8_goOn 26 = .ok (.ifCond .le 34, 3) := by decide +kernel
theorem dX8_goOn_29 : decode cX8_goOn 29 = .ok (.aload_n 0, 1) := by decide +kernel
theorem dX8_goOn_30 : decode cX8_goOn 30 = .ok (.getfield 49, 3) := by decide +kernel
theorem dX8_goOn_33 : decode cX8_goOn 33 = .ok (.ineg, 1) := by decide +kernel
theorem dX8_goOn_34 : decode cX8_goOn 34 = .ok (.aload_n 0, 1) := by decide +kernel
theorem dX8_goOn_35 : decode cX8_goOn 35 = .ok (.getfield 33, 3) := by decide +kernel
theorem dX8_goOn_38 : decode cX8_goOn 38 = .ok (.invokestatic 73, 3) := by decide +kernel
theorem dX8_goOn_41 : decode cX8_goOn 41 = .ok (.aload_n 0, 1) := by decide +kernel
theorem dX8_goOn_42 : decode cX8_goOn 42 = .ok (.getfield 53, 3) := by decide +kernel
theorem dX8_goOn_45 : decode cX8_goOn 45 = .ok (.ineg, 1) := by decide +kernel
theorem dX8_goOn_46 : decode cX8_goOn 46 = .ok (.aload_n 1, 1) := by decide +kernel
theorem dX8_goOn_47 : decode cX8_goOn 47 = .ok (.getfield 77, 3) := by decide +kernel
theorem dX8_goOn_50 : decode cX8_goOn 50 = .ok (.invokestatic 73, 3) := by decide +kernel
theorem dX8_goOn_53 : decode cX8_goOn 53 = .ok (.if_icmp .gt 7, 3) := by decide +kernel
theorem dX8_goOn_56 : decode cX8_goOn 56 = .ok (.iconst 1, 1) := by decide +kernel
theorem dX8_goOn_57 : decode cX8_goOn 57 = .ok (.goto 4, 3) := by decide +kernel
theorem dX8_goOn_60 : decode cX8_goOn 60 = .ok (.iconst 0, 1) := by decide +kernel
theorem dX8_goOn_61 : decode cX8_goOn 61 = .ok (.istore_n 3, 1) := by decide +kernel
theorem dX8_goOn_62 : decode cX8_goOn 62 = .ok (.aload_n 0, 1) := by decide +kernel
theorem dX8_goOn_63 : decode cX8_goOn 63 = .ok (.getfield 25, 3) := by decide +kernel
theorem dX8_goOn_66 : decode cX8_goOn 66 = .ok (.iconst (-1), 1) := by decide +kernel
theorem dX8_goOn_67 : decode cX8_goOn 67 = .ok (.if_icmp .eq 27, 3) := by decide +kernel
theorem dX8_goOn_70 : decode cX8_goOn 70 = .ok (.aload_n 0, 1) := by decide +kernel
theorem dX8_goOn_71 : decode cX8_goOn 71 = .ok (.getfield 54, 3) := by decide +kernel
theorem dX8_goOn_74 : decode cX8_goOn 74 = .ok (.aload_n 0, 1) := by decide +kernel
theorem dX8_goOn_75 : decode cX8_goOn 75 = .ok (.getfield 25, 3) := by decide +kernel
theorem dX8_goOn_78 : decode cX8_goOn 78 = .ok (.aload_n 1, 1) := by decide +kernel
theorem dX8_goOn_79 : decode cX8_goOn 79 = .ok (.getfield 80, 3) := by decide +kernel
theorem dX8_goOn_82 : decode cX8_goOn 82 = .ok (.iadd, 1) := by decide +kernel
theorem dX8_goOn_83 : decode cX8_goOn 83 = .ok (.if_icmp .lt 11, 3) := by decide +kernel
theorem dX8_goOn_86 : decode cX8_goOn 86 = .ok (.aload_n 0, 1) := by decide +kernel
theorem dX8_goOn_87 : decode cX8_goOn 87 = .ok (.aload_n 1, 1) := by decide +kernel
theorem dX8_goOn_88 : decode cX8_goOn 88 = .ok (.getfield 83, 3) := by decide +kernel
theorem dX8_goOn_91 : decode cX8_goOn 91 = .ok (.invokevirtual 86, 3) := by decide +kernel
theorem dX8_goOn_94 : decode cX8_goOn 94 = .ok (.aload_n 0, 1) := by decide +kernel
theorem dX8_goOn_95 : decode cX8_goOn 95 = .ok (.getfield 33, 3) := by decide +kernel
theorem dX8_goOn_98 : decode cX8_goOn 98 = .ok (.ifCond .ne 19, 3) := by decide +kernel
theorem dX8_goOn_101 : decode cX8_goOn 101 = .ok (.aload_n 0, 1) := by decide +kernel
theorem dX8_goOn_102 : decode cX8_goOn 102 = .ok (.getfield 29, 3) := by decide +kernel
theorem dX8_goOn_105 : decode cX8_goOn 105 = .ok (.iconst (-1), 1) := by decide +kernel
theorem dX8_goOn_106 : decode cX8_goOn 106 = .ok (.if_icmp .ne 11, 3) := by decide +kernel
theorem dX8_goOn_109 : decode cX8_goOn 109 = .ok (.aload_n 0, 1) := by decide +kernel
theorem dX8_goOn_110 : decode cX8_goOn 110 = .ok (.aload_n 0, 1) := by decide +kernel
theorem dX8_goOn_111 : decode cX8_goOn 111 = .ok (.getfield 54, 3) := by decide +kernel
theorem dX8_goOn_114 : decode cX8_goOn 114 = .ok (.putfield 29, 3) := by decide +kernel
theorem dX8_goOn_117 : decode cX8_goOn 117 = .ok (.aload_n 0, 1) := by decide +kernel
theorem dX8_goOn_118 : decode cX8_goOn 118 = .ok (.dup, 1) := by decide +kernel
theorem dX8_goOn_119 : decode cX8_goOn 119 = .ok (.getfield 49, 3) := by decide +kernel
theorem dX8_goOn_122 : decode cX8_goOn 122 = .ok (.aload_n 0, 1) := by decide +kernel
theorem dX8_goOn_123 : decode cX8_goOn 123 = .ok (.getfield 33, 3) := by decide +kernel
theorem dX8_goOn_126 : decode cX8_goOn 126 = .ok (.iadd, 1) := by decide +kernel
theorem dX8_goOn_127 : decode cX8_goOn 127 = .ok (.putfield 49, 3) := by decide +kernel
theorem dX8_goOn_130 : decode cX8_goOn 130 = .ok (.iload_n 3, 1) := by decide +kernel
theorem dX8_goOn_131 : decode cX8_goOn 131 = .ok (.ifCond .ne 16, 3) := by decide +kernel
theorem dX8_goOn_134 : decode cX8_goOn 134 = .ok (.aload_n 0, 1) := by decide +kernel
theorem dX8_goOn_135 : decode cX8_goOn 135 = .ok (.dup, 1) := by decide +kernel
theorem dX8_goOn_136 : decode cX8_goOn 136 = .ok (.getfield 53, 3) := by decide +kernel
theorem dX8_goOn_139 : decode cX8_goOn 139 = .ok (.aload_n 1, 1) := by decide +kernel
theorem dX8_goOn_140 : decode cX8_goOn 140 = .ok (.getfield 77, 3) := by decide +kernel
theorem dX8_goOn_143 : decode cX8_goOn 143 = .ok (.iadd, 1) := by decide +kernel
theorem dX8_goOn_144 : decode cX8_goOn 144 = .ok (.putfield 53, 3) := by decide +kernel
theorem dX8_goOn_147 : decode cX8_goOn 147 = .ok (.aload_n 0, 1) := by decide +kernel
theorem dX8_goOn_148 : decode cX8_goOn 148 = .ok (.dup, 1) := by decide +kernel
theorem dX8_goOn_149 : decode cX8_goOn 149 = .ok (.getfield 54, 3) := by decide +kernel
theorem dX8_goOn_152 : decode cX8_goOn 152 = .ok (.iconst 1, 1) := by decide +kernel
theorem dX8_goOn_153 : decode cX8_goOn 153 = .ok (.iadd, 1) := by decide +kernel
theorem dX8_goOn_154 : decode cX8_goOn 154 = .ok (.putfield 54, 3) := by decide +kernel
theorem dX8_goOn_157 : decode cX8_goOn 157 = .ok (.aload_n 0, 1) := by decide +kernel
theorem dX8_goOn_158 : decode cX8_goOn 158 = .ok (.getfield 33, 3) := by decide +kernel
theorem dX8_goOn_161 : decode cX8_goOn 161 = .ok (.ifCond .le 38, 3) := by decide +kernel
theorem dX8_goOn_164 : decode cX8_goOn 164 = .ok (.aload_n 0, 1) := by decide +kernel
theorem dX8_goOn_165 : decode cX8_goOn 165 = .ok (.getfield 49, 3) := by decide +kernel
theorem dX8_goOn_168 : decode cX8_goOn 168 = .ok (.iconst 0, 1) := by decide +kernel
theorem dX8_goOn_169 : decode cX8_goOn 169 = .ok (.bipush 40, 2) := by decide +kernel
theorem dX8_goOn_171 : decode cX8_goOn 171 = .ok (.invokestatic 90, 3) := by decide +kernel
theorem dX8_goOn_174 : decode cX8_goOn 174 = .ok (.ifCond .eq 25, 3) := by decide +kernel
theorem dX8_goOn_177 : decode cX8_goOn 177 = .ok (.aload_n 0, 1) := by decide +kernel
theorem dX8_goOn_178 : decode cX8_goOn 178 = .ok (.getfield 53, 3) := by decide +kernel
theorem dX8_goOn_181 : decode cX8_goOn 181 = .ok (.bipush (-8), 2) := by decide +kernel
theorem dX8_goOn_183 : decode cX8_goOn 183 = .ok (.bipush 8, 2) := by decide +kernel
theorem dX8_goOn_185 : decode cX8_goOn 185 = .ok (.invokestatic 90, 3) := by decide +kernel
theorem dX8_goOn_188 : decode cX8_goOn 188 = .ok (.ifCond .eq 11, 3) := by decide +kernel
theorem dX8_goOn_191 : decode cX8_goOn 191 = .ok (.aload_n 0, 1) := by decide +kernel
theorem dX8_goOn_192 : decode cX8_goOn 192 = .ok (.aload_n 0, 1) := by decide +kernel
theorem dX8_goOn_193 : decode cX8_goOn 193 = .ok (.getfield 54, 3) := by decide +kernel
theorem dX8_goOn_196 : decode cX8_goOn 196 = .ok (.putfield 21, 3) := by decide +kernel
theorem dX8_goOn_199 : decode cX8_goOn 199 = .ok (.return_, 1) := by decide +kernel
theorem dX8_notice_0 : decode cX8_notice 0 = .ok (.iload_n 1, 1) := by decide +kernel
theorem dX8_notice_1 : decode cX8_notice 1 = .ok (.ifCond .eq 19, 3) := by decide +kernel
theorem dX8_notice_4 : decode cX8_notice 4 = .ok (.aload_n 0, 1) := by decide +kernel
theorem dX8_notice_5 : decode cX8_notice 5 = .ok (.getfield 25, 3) := by decide +kernel
theorem dX8_notice_8 : decode cX8_notice 8 = .ok (.iconst (-1), 1) := by decide +kernel
theorem dX8_notice_9 : decode cX8_notice 9 = .ok (.if_icmp .ne 11, 3) := by decide +kernel
theorem dX8_notice_12 : decode cX8_notice 12 = .ok (.aload_n 0, 1) := by decide +kernel
theorem dX8_notice_13 : decode cX8_notice 13 = .ok (.aload_n 0, 1) := by decide +kernel
theorem dX8_notice_14 : decode cX8_notice 14 = .ok (.getfield 54, 3) := by decide +kernel
theorem dX8_notice_17 : decode cX8_notice 17 = .ok (.putfield 25, 3) := by decide +kernel
theorem dX8_notice_20 : decode cX8_notice 20 = .ok (.return_, 1) := by decide +kernel
theorem dX8_brake_0 : decode cX8_brake 0 = .ok (.iload_n 1, 1) := by decide +kernel
theorem dX8_brake_1 : decode cX8_brake 1 = .ok (.ifCond .lt 29, 3) := by decide +kernel
theorem dX8_brake_4 : decode cX8_brake 4 = .ok (.iload_n 1, 1) := by decide +kernel
theorem dX8_brake_5 : decode cX8_brake 5 = .ok (.getstatic 94, 3) := by decide +kernel
theorem dX8_brake_8 : decode cX8_brake 8 = .ok (.arraylength, 1) := by decide +kernel
theorem dX8_brake_9 : decode cX8_brake 9 = .ok (.if_icmp .ge 21, 3) := by decide +kernel
theorem dX8_brake_12 : decode cX8_brake 12 = .ok (.aload_n 0, 1) := by decide +kernel
theorem dX8_brake_13 : decode cX8_brake 13 = .ok (.iconst 0, 1) := by decide +kernel
theorem dX8_brake_14 : decode cX8_brake 14 = .ok (.aload_n 0, 1) := by decide +kernel
theorem dX8_brake_15 : decode cX8_brake 15 = .ok (.getfield 33, 3) := by decide +kernel
theorem dX8_brake_18 : decode cX8_brake 18 = .ok (.getstatic 94, 3) := by decide +kernel
theorem dX8_brake_21 : decode cX8_brake 21 = .ok (.iload_n 1, 1) := by decide +kernel
theorem dX8_brake_22 : decode cX8_brake 22 = .ok (.iaload, 1) := by decide +kernel
theorem dX8_brake_23 : decode cX8_brake 23 = .ok (.isub, 1) := by decide +kernel
theorem dX8_brake_24 : decode cX8_brake 24 = .ok (.invokestatic 98, 3) := by decide +kernel
theorem dX8_brake_27 : decode cX8_brake 27 = .ok (.putfield 33, 3) := by decide +kernel
theorem dX8_brake_30 : decode cX8_brake 30 = .ok (.return_, 1) := by decide +kernel
theorem dX8_sees_0 : decode cX8_sees 0 = .ok (.aload_n 1, 1) := by decide +kernel
theorem dX8_sees_1 : decode cX8_sees 1 = .ok (.getfield 103, 3) := by decide +kernel
theorem dX8_sees_4 : decode cX8_sees 4 = .ok (.ifCond .eq 60, 3) := by decide +kernel
theorem dX8_sees_7 : decode cX8_sees 7 = .ok (.aload_n 0, 1) := by decide +kernel
theorem dX8_sees_8 : decode cX8_sees 8 = .ok (.getfield 49, 3) := by decide +kernel
theorem dX8_sees_11 : decode cX8_sees 11 = .ok (.aload_n 1, 1) := by decide +kernel
theorem dX8_sees_12 : decode cX8_sees 12 = .ok (.getfield 103, 3) := by decide +kernel
theorem dX8_sees_15 : decode cX8_sees 15 = .ok (.if_icmp .ge 49, 3) := by decide +kernel
theorem dX8_sees_18 : decode cX8_sees 18 = .ok (.aload_n 0, 1) := by decide +kernel
theorem dX8_sees_19 : decode cX8_sees 19 = .ok (.getfield 53, 3) := by decide +kernel
theorem dX8_sees_22 : decode cX8_sees 22 = .ok (.aload_n 1, 1) := by decide +kernel
theorem dX8_sees_23 : decode cX8_sees 23 = .ok (.getfield 106, 3) := by decide +kernel
theorem dX8_sees_26 : decode cX8_sees 26 = .ok (.if_icmp .ge 38, 3) := by decide +kernel
theorem dX8_sees_29 : decode cX8_sees 29 = .ok (.aload_n 1, 1) := by decide +kernel
theorem dX8_sees_30 : decode cX8_sees 30 = .ok (.getfield 103, 3) := by decide +kernel
theorem dX8_sees_33 : decode cX8_sees 33 = .ok (.aload_n 0, 1) := by decide +kernel
theorem dX8_sees_34 : decode cX8_sees 34 = .ok (.getfield 53, 3) := by decide +kernel
theorem dX8_sees_37 : decode cX8_sees 37 = .ok (.imul, 1) := by decide +kernel
theorem dX8_sees_38 : decode cX8_sees 38 = .ok (.aload_n 1, 1) := by decide +kernel
theorem dX8_sees_39 : decode cX8_sees 39 = .ok (.getfield 106, 3) := by decide +kernel
theorem dX8_sees_42 : decode cX8_sees 42 = .ok (.aload_n 0, 1) := by decide +kernel
theorem dX8_sees_43 : decode cX8_sees 43 = .ok (.getfield 49, 3) := by decide +kernel
theorem dX8_sees_46 : decode cX8_sees 46 = .ok (.imul, 1) := by decide +kernel
theorem dX8_sees_47 : decode cX8_sees 47 = .ok (.iadd, 1) := by decide +kernel
theorem dX8_sees_48 : decode cX8_sees 48 = .ok (.aload_n 0, 1) := by decide +kernel
theorem dX8_sees_49 : decode cX8_sees 49 = .ok (.getfield 49, 3) := by decide +kernel
theorem dX8_sees_52 : decode cX8_sees 52 = .ok (.aload_n 0, 1) := by decide +kernel
theorem dX8_sees_53 : decode cX8_sees 53 = .ok (.getfield 53, 3) := by decide +kernel
theorem dX8_sees_56 : decode cX8_sees 56 = .ok (.imul, 1) := by decide +kernel
theorem dX8_sees_57 : decode cX8_sees 57 = .ok (.if_icmp .gt 7, 3) := by decide +kernel
theorem dX8_sees_60 : decode cX8_sees 60 = .ok (.iconst 1, 1) := by decide +kernel
theorem dX8_sees_61 : decode cX8_sees 61 = .ok (.goto 4, 3) := by decide +kernel
theorem dX8_sees_64 : decode cX8_sees 64 = .ok (.iconst 0, 1) := by decide +kernel
theorem dX8_sees_65 : decode cX8_sees 65 = .ok (.istore_n 2, 1) := by decide +kernel
theorem dX8_sees_66 : decode cX8_sees 66 = .ok (.aload_n 0, 1) := by decide +kernel
theorem dX8_sees_67 : decode cX8_sees 67 = .ok (.getfield 49, 3) := by decide +kernel
theorem dX8_sees_70 : decode cX8_sees 70 = .ok (.ifCond .ge 18, 3) := by decide +kernel
theorem dX8_sees_73 : decode cX8_sees 73 = .ok (.aload_n 0, 1) := by decide +kernel
theorem dX8_sees_74 : decode cX8_sees 74 = .ok (.getfield 53, 3) := by decide +kernel
theorem dX8_sees_77 : decode cX8_sees 77 = .ok (.ifCond .ge 11, 3) := by decide +kernel
theorem dX8_sees_80 : decode cX8_sees 80 = .ok (.iload_n 2, 1) := by decide +kernel
theorem dX8_sees_81 : decode cX8_sees 81 = .ok (.ifCond .ne 7, 3) := by decide +kernel
theorem dX8_sees_84 : decode cX8_sees 84 = .ok (.iconst 1, 1) := by decide +kernel
theorem dX8_sees_85 : decode cX8_sees 85 = .ok (.goto 4, 3) := by decide +kernel
theorem dX8_sees_88 : decode cX8_sees 88 = .ok (.iconst 0, 1) := by decide +kernel
theorem dX8_sees_89 : decode cX8_sees 89 = .ok (.ireturn, 1) := by decide +kernel
theorem dX9_init_0 : decode cX9_init 0 = .ok (.aload_n 0, 1) := by decide +kernel
theorem dX9_init_1 : decode cX9_init 1 = .ok (.invokespecial 1, 3) := by decide +kernel
theorem dX9_init_4 : decode cX9_init 4 = .ok (.aload_n 0, 1) := by decide +kernel
theorem dX9_init_5 : decode cX9_init 5 = .ok (.sipush 1000, 3) := by decide +kernel
theorem dX9_init_8 : decode cX9_init 8 = .ok (.newarray .byte, 2) := by decide +kernel
theorem dX9_init_10 : decode cX9_init 10 = .ok (.putfield 9, 3) := by decide +kernel
theorem dX9_init_13 : decode cX9_init 13 = .ok (.aload_n 0, 1) := by decide +kernel
theorem dX9_init_14 : decode cX9_init 14 = .ok (.bipush 21, 2) := by decide +kernel
theorem dX9_init_16 : decode cX9_init 16 = .ok (.newarray .long, 2) := by decide +kernel
theorem dX9_init_18 : decode cX9_init 18 = .ok (.putfield 13, 3) := by decide +kernel
theorem dX9_init_21 : decode cX9_init 21 = .ok (.iconst 0, 1) := by decide +kernel
theorem dX9_init_22 : decode cX9_init 22 = .ok (.istore_n 1, 1) := by decide +kernel
theorem dX9_init_23 : decode cX9_init 23 = .ok (.lconst 0, 1) := by decide +kernel
theorem dX9_init_24 : decode cX9_init 24 = .ok (.lstore_n 2, 1) := by decide +kernel
theorem dX9_init_25 : decode cX9_init 25 = .ok (.iconst 0, 1) := by decide +kernel
theorem dX9_init_26 : decode cX9_init 26 = .ok (.istore 4, 2) := by decide +kernel
theorem dX9_init_28 : decode cX9_init 28 = .ok (.iload 4, 2) := by decide +kernel
theorem dX9_init_30 : decode cX9_init 30 = .ok (.ldc 17, 2) := by decide +kernel
theorem dX9_init_32 : decode cX9_init 32 = .ok (.invokevirtual 19, 3) := by decide +kernel
theorem dX9_init_35 : decode cX9_init 35 = .ok (.if_icmp .ge 56, 3) := by decide +kernel
theorem dX9_init_38 : decode cX9_init 38 = .ok (.iload_n 1, 1) := by decide +kernel
theorem dX9_init_39 : decode cX9_init 39 = .ok (.aload_n 0, 1) := by decide +kernel
theorem dX9_init_40 : decode cX9_init 40 = .ok (.getfield 13, 3) := by decide +kernel
theorem dX9_init_43 : decode cX9_init 43 = .ok (.arraylength, 1) := by decide +kernel
theorem dX9_init_44 : decode cX9_init 44 = .ok (.if_icmp .ge 47, 3) := by decide +kernel
theorem dX9_init_47 : decode cX9_init 47 = .ok (.ldc 17, 2) := by decide +kernel
theorem dX9_init_49 : decode cX9_init 49 = .ok (.iload 4, 2) := by decide +kernel
theorem dX9_init_51 : decode cX9_init 51 = .ok (.invokevirtual 25, 3) := by decide +kernel
theorem dX9_init_54 : decode cX9_init 54 = .ok (.istore 5, 2) := by decide +kernel
theorem dX9_init_56 : decode cX9_init 56 = .ok (.iload 5, 2) := by decide +kernel
theorem dX9_init_58 : decode cX9_init 58 = .ok (.bipush 32, 2) := by decide +kernel
theorem dX9_init_60 : decode cX9_init 60 = .ok (.if_icmp .ne 18, 3) := by decide +kernel
theorem dX9_init_63 : decode cX9_init 63 = .ok (.aload_n 0, 1) := by decide +kernel
theorem dX9_init_64 : decode cX9_init 64 = .ok (.getfield 13, 3) := by decide +kernel
theorem dX9_init_67 : decode cX9_init 67 = .ok (.iload_n 1, 1) := by decide +kernel
theorem dX9_init_68 : decode cX9_init 68 = .ok (.lload_n 2, 1) := by decide +kernel
theorem dX9_init_69 : decode cX9_init 69 = .ok (.lastore, 1) := by decide +kernel
theorem dX9_init_70 : decode cX9_init 70 = .ok (.iinc 1 1, 3) := by decide +kernel
theorem dX9_init_73 : decode cX9_init 73 = .ok (.lconst 0, 1) := by decide +kernel
theorem dX9_init_74 : decode cX9_init 74 = .ok (.lstore_n 2, 1) := by decide +kernel
theorem dX9_init_75 : decode cX9_init 75 = .ok (.goto 10, 3) := by decide +kernel
theorem dX9_init_78 : decode cX9_init 78 = .ok (.lload_n 2, 1) := by decide +kernel
theorem dX9_init_79 : decode cX9_init 79 = .ok (.iload 5, 2) := by decide +kernel
theorem dX9_init_81 : decode cX9_init 81 = .ok (.invokestatic 29, 3) := by decide +kernel
theorem dX9_init_84 : decode cX9_init 84 = .ok (.lstore_n 2, 1) := by decide +kernel
theorem dX9_init_85 : decode cX9_init 85 = .ok (.iinc 4 1, 3) := by decide +kernel
theorem dX9_init_88 : decode cX9_init 88 = .ok (.goto (-60), 3) := by decide +kernel
theorem dX9_init_91 : decode cX9_init 91 = .ok (.return_, 1) := by decide +kernel
theorem dX9_put_0 : decode cX9_put 0 = .ok (.bipush 56, 2) := by decide +kernel
theorem dX9_put_2 : decode cX9_put 2 = .ok (.istore_n 3, 1) := by decide +kernel
theorem dX9_put_3 : decode cX9_put 3 = .ok (.iload_n 3, 1) := by decide +kernel
theorem dX9_put_4 : decode cX9_put 4 = .ok (.ifCond .lt 70, 3) := by decide +kernel
theorem dX9_put_7 : decode cX9_put 7 = .ok (.lload_n 1, 1) := by decide +kernel
theorem dX9_put_8 : decode cX9_put 8 = .ok (.iload_n 3, 1) := by decide +kernel
theorem dX9_put_9 : decode cX9_put 9 = .ok (.lushr, 1) := by decide +kernel
theorem dX9_put_10 : decode cX9_put 10 = .ok (.l2i, 1) := by decide +kernel
theorem dX9_put_11 : decode cX9_put 11 = .ok (.sipush 255, 3) := by decide +kernel
theorem dX9_put_14 : decode cX9_put 14 = .ok (.iand, 1) := by decide +kernel
theorem dX9_put_15 : decode cX9_put 15 = .ok (.istore 4, 2) := by decide +kernel
theorem dX9_put_17 : decode cX9_put 17 = .ok (.iload 4, 2) := by decide +kernel
theorem dX9_put_19 : decode cX9_put 19 = .ok (.bipush 10, 2) := by decide +kernel
theorem dX9_put_21 : decode cX9_put 21 = .ok (.if_icmp .eq 15, 3) := by decide +kernel
theorem dX9_put_24 : decode cX9_put 24 = .ok (.iload 4, 2) := by decide +kernel
theorem dX9_put_26 : decode cX9_put 26 = .ok (.bipush 32, 2) := by decide +kernel
theorem dX9_put_28 : decode cX9_put 28 = .ok (.bipush 126, 2) := by decide +kernel
theorem dX9_put_30 : decode cX9_put 30 = .ok (.invokestatic 33, 3) := by decide +kernel
theorem dX9_put_33 : decode cX9_put 33 = .ok (.ifCond .eq 35, 3) := by decide +kernel
theorem dX9_put_36 : decode cX9_put 36 = .ok (.aload_n 0, 1) := by decide +kernel
theorem dX9_put_37 : decode cX9_put 37 = .ok (.getfield 39, 3) := by decide +kernel
theorem dX9_put_40 : decode cX9_put 40 = .ok (.sipush 1000, 3) := by decide +kernel
theorem dX9_put_43 : decode cX9_put 43 = .ok (.if_icmp .ge 25, 3) := by decide +kernel
theorem dX9_put_46 : decode cX9_put 46 = .ok (.aload_n 0, 1) := by decide +kernel
theorem dX9_put_47 : decode cX9_put 47 = .ok (.getfield 9, 3) := by decide +kernel
theorem dX9_put_50 : decode cX9_put 50 = .ok (.aload_n 0, 1) := by decide +kernel
theorem dX9_put_51 : decode cX9_put 51 = .ok (.getfield 39, 3) := by decide +kernel
theorem dX9_put_54 : decode cX9_put 54 = .ok (.iload 4, 2) := by decide +kernel
theorem dX9_put_56 : decode cX9_put 56 = .ok (.i2b, 1) := by decide +kernel
theorem dX9_put_57 : decode cX9_put 57 = .ok (.bastore, 1) := by decide +kernel
theorem dX9_put_58 : decode cX9_put 58 = .ok (.aload_n 0, 1) := by decide +kernel
theorem dX9_put_59 : decode cX9_put 59 = .ok (.dup, 1) := by decide +kernel
theorem dX9_put_60 : decode cX9_put 60 = .ok (.getfield 39, 3) := by decide +kernel
theorem dX9_put_63 : decode cX9_put 63 = .ok (.iconst 1, 1) := by decide +kernel
theorem dX9_put_64 : decode cX9_put 64 = .ok (.iadd, 1) := by decide +kernel
theorem dX9_put_65 : decode cX9_put 65 = .ok (.putfield 39, 3) := by decide +kernel
theorem dX9_put_68 : decode cX9_put 68 = .ok (.iinc 3 (-8), 3) := by decide +kernel
theorem dX9_put_71 : decode cX9_put 71 = .ok (.goto (-68), 3) := by decide +kernel
theorem dX9_put_74 : decode cX9_put 74 = .ok (.return_, 1) := by decide +kernel
theorem dX9_start_0 : decode cX9_start 0 = .ok (.aload_n 0, 1) := by decide +kernel
theorem dX9_start_1 : decode cX9_start 1 = .ok (.iconst 0, 1) := by decide +kernel
theorem dX9_start_2 : decode cX9_start 2 = .ok (.putfield 43, 3) := by decide +kernel
theorem dX9_start_5 : decode cX9_start 5 = .ok (.aload_n 0, 1) := by decide +kernel
theorem dX9_start_6 : decode cX9_start 6 = .ok (.invokevirtual 46, 3) := by decide +kernel
theorem dX9_start_9 : decode cX9_start 9 = .ok (.return_, 1) := by decide +kernel
theorem dX9_advance_0 : decode cX9_advance 0 = .ok (.aload_n 0, 1) := by decide +kernel
theorem dX9_advance_1 : decode cX9_advance 1 = .ok (.getfield 43, 3) := by decide +kernel
theorem dX9_advance_4 : decode cX9_advance 4 = .ok (.aload_n 0, 1) := by decide +kernel
theorem dX9_advance_5 : decode cX9_advance 5 = .ok (.getfield 39, 3) := by decide +kernel
theorem dX9_advance_8 : decode cX9_advance 8 = .ok (.if_icmp .ge 44, 3) := by decide +kernel
theorem dX9_advance_11 : decode cX9_advance 11 = .ok (.aload_n 0, 1) := by decide +kernel
theorem dX9_advance_12 : decode cX9_advance 12 = .ok (.getfield 9, 3) := by decide +kernel
theorem dX9_advance_15 : decode cX9_advance 15 = .ok (.aload_n 0, 1) := by decide +kernel
theorem dX9_advance_16 : decode cX9_advance 16 = .ok (.getfield 43, 3) := by decide +kernel
theorem dX9_advance_19 : decode cX9_advance 19 = .ok (.baload, 1) := by decide +kernel
theorem dX9_advance_20 : decode cX9_advance 20 = .ok (.bipush 10, 2) := by decide +kernel
theorem dX9_advance_22 : decode cX9_advance 22 = .ok (.if_icmp .eq 17, 3) := by decide +kernel
theorem dX9_advance_25 : decode cX9_advance 25 = .ok (.aload_n 0, 1) := by decide +kernel
theorem dX9_advance_26 : decode cX9_advance 26 = .ok (.getfield 9, 3) := by decide +kernel
theorem dX9_advance_29 : decode cX9_advance 29 = .ok (.aload_n 0, 1) := by decide +kernel
theorem dX9_advance_30 : decode cX9_advance 30 = .ok (.getfield 43, 3) := by decide +kernel
theorem dX9_advance_33 : decode cX9_advance 33 = .ok (.baload, 1) := by decide +kernel
theorem dX9_advance_34 : decode cX9_advance 34 = .ok (.bipush 32, 2) := by decide +kernel
theorem dX9_advance_36 : decode cX9_advance 36 = .ok (.if_icmp .ne 16, 3) := by decide +kernel
theorem dX9_advance_39 : decode cX9_advance 39 = .ok (.aload_n 0, 1) := by decide +kernel
theorem dX9_advance_40 : decode cX9_advance 40 = .ok (.dup, 1) := by decide +kernel
theorem dX9_advance_41 : decode cX9_advance 41 = .ok (.getfield 43, 3) := by decide +kernel
theorem dX9_advance_44 : decode cX9_advance 44 = .ok (.iconst 1, 1) := by decide +kernel
theorem dX9_advance_45 : decode cX9_advance 45 = .ok (.iadd, 1) := by decide +kernel
theorem dX9_advance_46 : decode cX9_advance 46 = .ok (.putfield 43, 3) := by decide +kernel
theorem dX9_advance_49 : decode cX9_advance 49 = .ok (.goto (-49), 3) := by decide +kernel
theorem dX9_advance_52 : decode cX9_advance 52 = .ok (.aload_n 0, 1) := by decide +kernel
theorem dX9_advance_53 : decode cX9_advance 53 = .ok (.aload_n 0, 1) := by decide +kernel
theorem dX9_advance_54 : decode cX9_advance 54 = .ok (.getfield 43, 3) := by decide +kernel
theorem dX9_advance_57 : decode cX9_advance 57 = .ok (.putfield 49, 3) := by decide +kernel
theorem dX9_advance_60 : decode cX9_advance 60 = .ok (.aload_n 0, 1) := by decide +kernel
theorem dX9_advance_61 : decode cX9_advance 61 = .ok (.getfield 43, 3) := by decide +kernel
theorem dX9_advance_64 : decode cX9_advance 64 = .ok (.aload_n 0, 1) := by decide +kernel
theorem dX9_advance_65 : decode cX9_advance 65 = .ok (.getfield 39, 3) := by decide +kernel
theorem dX9_advance_68 : decode cX9_advance 68 = .ok (.if_icmp .lt 21, 3) := by decide +kernel
theorem dX9_advance_71 : decode cX9_advance 71 = .ok (.aload_n 0, 1) := by decide +kernel
theorem dX9_advance_72 : decode cX9_advance 72 = .ok (.aload_n 0, 1) := by decide +kernel
theorem dX9_advance_73 : decode cX9_advance 73 = .ok (.getfield 39, 3) := by decide +kernel
theorem dX9_advance_76 : decode cX9_advance 76 = .ok (.putfield 49, 3) := by decide +kernel
theorem dX9_advance_79 : decode cX9_advance 79 = .ok (.aload_n 0, 1) := by decide +kernel
theorem dX9_advance_80 : decode cX9_advance 80 = .ok (.sipush 202, 3) := by decide +kernel
theorem dX9_advance_83 : decode cX9_advance 83 = .ok (.putfield 52, 3) := by decide +kernel
theorem dX9_advance_86 : decode cX9_advance 86 = .ok (.goto 80, 3) := by decide +kernel
theorem dX9_advance_89 : decode cX9_advance 89 = .ok (.aload_n 0, 1) := by decide +kernel
theorem dX9_advance_90 : decode cX9_advance 90 = .ok (.aload_n 0, 1) := by decide +kernel
theorem dX9_advance_91 : decode cX9_advance 91 = .ok (.getfield 43, 3) := by decide +kernel
theorem dX9_advance_94 : decode cX9_advance 94 = .ok (.invokevirtual 55, 3) := by decide +kernel
theorem dX9_advance_97 : decode cX9_advance 97 = .ok (.ifCond .eq 10, 3) := by decide +kernel
theorem dX9_advance_100 : decode cX9_advance 100 = .ok (.aload_n 0, 1) := by decide +kernel
theorem dX9_advance_101 : decode cX9_advance 101 = .ok (.invokevirtual 59, 3) := by decide +kernel
theorem dX9_advance_104 : decode cX9_advance 104 = .ok (.goto 62, 3) := by decide +kernel
theorem dX9_advance_107 : decode cX9_advance 107 = .ok (.aload_n 0, 1) := by decide +kernel
theorem dX9_advance_108 : decode cX9_advance 108 = .ok (.aload_n 0, 1) := by decide +kernel
theorem dX9_advance_109 : decode cX9_advance 109 = .ok (.getfield 43, 3) := by decide +kernel
theorem dX9_advance_112 : decode cX9_advance 112 = .ok (.invokevirtual 62, 3) := by decide +kernel
theorem dX9_advance_115 : decode cX9_advance 115 = .ok (.ifCond .eq 10, 3) := by decide +kernel
theorem dX9_advance_118 : decode cX9_advance 118 = .ok (.aload_n 0, 1) := by decide +kernel
theorem dX9_advance_119 : decode cX9_advance 119 = .ok (.invokevirtual 65, 3) := by decide +kernel
theorem dX9_advance_122 : decode cX9_advance 122 = .ok (.goto 44, 3) := by decide +kernel
theorem dX9_advance_125 : decode cX9_advance 125 = .ok (.aload_n 0, 1) := by decide +kernel
theorem dX9_advance_126 : decode cX9_advance 126 = .ok (.getfield 9, 3) := by decide +kernel
theorem dX9_advance_129 : decode cX9_advance 129 = .ok (.aload_n 0, 1) := by decide +kernel
theorem dX9_advance_130 : decode cX9_advance 130 = .ok (.getfield 43, 3) := by decide +kernel
theorem dX9_advance_133 : decode cX9_advance 133 = .ok (.baload, 1) := by decide +kernel
theorem dX9_advance_134 : decode cX9_advance 134 = .ok (.i2c, 1) := by decide +kernel
theorem dX9_advance_135 : decode cX9_advance 135 = .ok (.istore_n 1, 1) := by decide +kernel
theorem dX9_advance_136 : decode cX9_advance 136 = .ok (.aload_n 0, 1) := by decide +kernel
theorem dX9_advance_137 : decode cX9_advance 137 = .ok (.ldc 68, 2) := by decide +kernel
theorem dX9_advance_139 : decode cX9_advance 139 = .ok (.iload_n 1, 1) := by decide +kernel
theorem dX9_advance_140 : decode cX9_advance 140 = .ok (.invokevirtual 70, 3) := by decide +kernel
theorem dX9_advance_143 : decode cX9_advance 143 = .ok (.ifCond .lt 7, 3) := by decide +kernel
theorem dX9_advance_146 : decode cX9_advance 146 = .ok (.iload_n 1, 1) := by decide +kernel
theorem dX9_advance_147 : decode cX9_advance 147 = .ok (.goto 6, 3) := by decide +kernel
theorem dX9_advance_150 : decode cX9_advance 150 = .ok (.sipush 203, 3) := by decide +kernel
theorem dX9_advance_153 : decode cX9_advance 153 = .ok (.putfield 52, 3) := by decide +kernel
theorem dX9_advance_156 : decode cX9_advance 156 = .ok (.aload_n 0, 1) := by decide +kernel
theorem dX9_advance_157 : decode cX9_advance 157 = .ok (.dup, 1) := by decide +kernel
theorem dX9_advance_158 : decode cX9_advance 158 = .ok (.getfield 43, 3) := by decide +kernel
theorem dX9_advance_161 : decode cX9_advance 161 = .ok (.iconst 1, 1) := by decide +kernel
theorem dX9_advance_162 : decode cX9_advance 162 = .ok (.iadd, 1) := by decide +kernel
theorem dX9_advance_163 : decode cX9_advance 163 = .ok (.putfield 43, 3) := by decide +kernel
theorem dX9_advance_166 : decode cX9_advance 166 = .ok (.return_, 1) := by decide +kernel
theorem dX9_takeWord_0 : decode cX9_takeWord 0 = .ok (.aload_n 0, 1) := by decide +kernel
theorem dX9_takeWord_1 : decode cX9_takeWord 1 = .ok (.lconst 0, 1) := by decide +kernel
theorem dX9_takeWord_2 : decode cX9_takeWord 2 = .ok (.putfield 74, 3) := by decide +kernel
theorem dX9_takeWord_5 : decode cX9_takeWord 5 = .ok (.aload_n 0, 1) := by decide +kernel
theorem dX9_takeWord_6 : decode cX9_takeWord 6 = .ok (.getfield 43, 3) := by decide +kernel
theorem dX9_takeWord_9 : decode cX9_takeWord 9 = .ok (.aload_n 0, 1) := by decide +kernel
theorem dX9_takeWord_10 : decode cX9_takeWord 10 = .ok (.getfield 39, 3) := by decide +kernel
theorem dX9_takeWord_13 : decode cX9_takeWord 13 = .ok (.if_icmp .ge 62, 3) := by decide +kernel
theorem dX9_takeWord_16 : decode cX9_takeWord 16 = .ok (.aload_n 0, 1) := by decide +kernel
theorem dX9_takeWord_17 : decode cX9_takeWord 17 = .ok (.aload_n 0, 1) := by decide +kernel
theorem dX9_takeWord_18 : decode cX9_takeWord 18 = .ok (.getfield 43, 3) := by decide +kernel
theorem dX9_takeWord_21 : decode cX9_takeWord 21 = .ok (.invokevirtual 55, 3) := by decide +kernel
theorem dX9_takeWord_24 : decode cX9_takeWord 24 = .ok (.ifCond .eq 51, 3) := by decide +kernel
theorem dX9_takeWord_27 : decode cX9_takeWord 27 = .ok (.aload_n 0, 1) := by decide +kernel
theorem dX9_takeWord_28 : decode cX9_takeWord 28 = .ok (.getfield 43, 3) := by decide +kernel
theorem dX9_takeWord_31 : decode cX9_takeWord 31 = .ok (.aload_n 0, 1) := by decide +kernel
theorem dX9_takeWord_32 : decode cX9_takeWord 32 = .ok (.getfield 49, 3) := by decide +kernel
theorem dX9_takeWord_35 : decode cX9_takeWord 35 = .ok (.isub, 1) := by decide +kernel
theorem dX9_takeWord_36 : decode cX9_takeWord 36 = .ok (.bipush 8, 2) := by decide +kernel
theorem dX9_takeWord_38 : decode cX9_takeWord 38 = .ok (.if_icmp .ge 24, 3) := by decide +kernel
theorem dX9_takeWord_41 : decode cX9_takeWord 41 = .ok (.aload_n 0, 1) := by decide +kernel
theorem dX9_takeWord_42 : decode cX9_takeWord 42 = .ok (.aload_n 0, 1) := by decide +kernel
theorem dX9_takeWord_43 : decode cX9_takeWord 43 = .ok (.getfield 74, 3) := by decide +kernel
theorem dX9_takeWord_46 : decode cX9_takeWord 46 = .ok (.aload_n 0, 1) := by decide +kernel
theorem dX9_takeWord_47 : decode cX9_takeWord 47 = .ok (.getfield 9, 3) := by decide +kernel
theorem dX9_takeWord_50 : decode cX9_takeWord 50 = .ok (.aload_n 0, 1) := by decide +kernel
theorem dX9_takeWord_51 : decode cX9_takeWord 51 = .ok (.getfield 43, 3) := by decide +kernel
theorem dX9_takeWord_54 : decode cX9_takeWord 54 = .ok (.baload, 1) := by decide +kernel
theorem dX9_takeWord_55 : decode cX9_takeWord 55 = .ok (.i2c, 1) := by decide +kernel
theorem dX9_takeWord_56 : decode cX9_takeWord 56 = .ok (.invokestatic 29, 3) := by decide +kernel
theorem dX9_takeWord_59 : decode cX9_takeWord 59 = .ok (.putfield 74, 3) := by decide +kernel
theorem dX9_takeWord_62 : decode cX9_takeWord 62 = .ok (.aload_n 0, 1) := by decide +kernel
theorem dX9_takeWord_63 : decode cX9_takeWord 63 = .ok (.dup, 1) := by decide +kernel
theorem dX9_takeWord_64 : decode cX9_takeWord 64 = .ok (.getfield 43, 3) := by decide +kernel
theorem dX9_takeWord_67 : decode cX9_takeWord 67 = .ok (.iconst 1, 1) := by decide +kernel
theorem dX9_takeWord_68 : decode cX9_takeWord 68 = .ok (.iadd, 1) := by decide +kernel
theorem dX9_takeWord_69 : decode cX9_takeWord 69 = .ok (.putfield 43, 3) := by decide +kernel
theorem dX9_takeWord_72 : decode cX9_takeWord 72 = .ok (.goto (-67), 3) := by decide +kernel
theorem dX9_takeWord_75 : decode cX9_takeWord 75 = .ok (.aload_n 0, 1) := by decide +kernel
theorem dX9_takeWord_76 : decode cX9_takeWord 76 = .ok (.aload_n 0, 1) := by decide +kernel
theorem dX9_takeWord_77 : decode cX9_takeWord 77 = .ok (.getfield 43, 3) := by decide +kernel
theorem dX9_takeWord_80 : decode cX9_takeWord 80 = .ok (.aload_n 0, 1) := by decide +kernel
theorem dX9_takeWord_81 : decode cX9_takeWord 81 = .ok (.getfield 49, 3) := by decide +kernel
theorem dX9_takeWord_84 : decode cX9_takeWord 84 = .ok (.isub, 1) := by decide +kernel
theorem dX9_takeWord_85 : decode cX9_takeWord 85 = .ok (.bipush 8, 2) := by decide +kernel
theorem dX9_takeWord_87 : decode cX9_takeWord 87 = .ok (.if_icmp .le 9, 3) := by decide +kernel
theorem dX9_takeWord_90 : decode cX9_takeWord 90 = .ok (.sipush 203, 3) := by decide +kernel
theorem dX9_takeWord_93 : decode cX9_takeWord 93 = .ok (.goto 11, 3) := by decide +kernel
theorem dX9_takeWord_96 : decode cX9_takeWord 96 = .ok (.aload_n 0, 1) := by decide +kernel
theorem dX9_takeWord_97 : decode cX9_takeWord 97 = .ok (.aload_n 0, 1) := by decide +kernel
theorem dX9_takeWord_98 : decode cX9_takeWord 98 = .ok (.getfield 74, 3) := by decide +kernel
theorem dX9_takeWord_101 : decode cX9_takeWord 101 = .ok (.invokevirtual 78, 3) := by decide +kernel
theorem dX9_takeWord_104 : decode cX9_takeWord 104 = .ok (.putfield 52, 3) := by decide +kernel
theorem dX9_takeWord_107 : decode cX9_takeWord 107 = .ok (.return_, 1) := by decide +kernel
theorem dX9_takeNumber_0 : decode cX9_takeNumber 0 = .ok (.aload_n 0, 1) := by decide +kernel
theorem dX9_takeNumber_1 : decode cX9_takeNumber 1 = .ok (.iconst 0, 1) := by decide +kernel
theorem dX9_takeNumber_2 : decode cX9_takeNumber 2 = .ok (.putfield 82, 3) := by decide +kernel
theorem dX9_takeNumber_5 : decode cX9_takeNumber 5 = .ok (.aload_n 0, 1) := by decide +kernel
theorem dX9_takeNumber_6 : decode cX9_takeNumber 6 = .ok (.getfield 43, 3) := by decide +kernel
theorem dX9_takeNumber_9 : decode cX9_takeNumber 9 = .ok (.aload_n 0, 1) := by decide +kernel
theorem dX9_takeNumber_10 : decode cX9_takeNumber 10 = .ok (.getfield 39, 3) := by decide +kernel
theorem dX9_takeNumber_13 : decode cX9_takeNumber 13 = .ok (.if_icmp .ge 64, 3) := by decide +kernel
theorem dX9_takeNumber_16 : decode cX9_takeNumber 16 = .ok (.aload_n 0, 1) := by decide +kernel
theorem dX9_takeNumber_17 : decode cX9_takeNumber 17 = .ok (.aload_n 0, 1) := by decide +kernel
theorem dX9_takeNumber_18 : decode cX9_takeNumber 18 = .ok (.getfield 43, 3) := by decide +kernel
theorem dX9_takeNumber_21 : decode cX9_takeNumber 21 = .ok (.invokevirtual 62, 3) := by decide +kernel
theorem dX9_takeNumber_24 : decode cX9_takeNumber 24 = .ok (.ifCond .eq 53, 3) := by decide +kernel
theorem dX9_takeNumber_27 : decode cX9_takeNumber 27 = .ok (.aload_n 0, 1) := by decide +kernel
theorem dX9_takeNumber_28 : decode cX9_takeNumber 28 = .ok (.getfield 43, 3) := by decide +kernel
theorem dX9_takeNumber_31 : decode cX9_takeNumber 31 = .ok (.aload_n 0, 1) := by decide +kernel
theorem dX9_takeNumber_32 : decode cX9_takeNumber 32 = .ok (.getfield 49, 3) := by decide +kernel
theorem dX9_takeNumber_35 : decode cX9_takeNumber 35 = .ok (.isub, 1) := by decide +kernel
theorem dX9_takeNumber_36 : decode cX9_takeNumber 36 = .ok (.iconst 4, 1) := by decide +kernel
theorem dX9_takeNumber_37 : decode cX9_takeNumber 37 = .ok (.if_icmp .ge 27, 3) := by decide +kernel
theorem dX9_takeNumber_40 : decode cX9_takeNumber 40 = .ok (.aload_n 0, 1) := by decide +kernel
theorem dX9_takeNumber_41 : decode cX9_takeNumber 41 = .ok (.aload_n 0, 1) := by decide +kernel
theorem dX9_takeNumber_42 : decode cX9_takeNumber 42 = .ok (.getfield 82, 3) := by decide +kernel
theorem dX9_takeNumber_45 : decode cX9_takeNumber 45 = .ok (.bipush 10, 2) := by decide +kernel
theorem dX9_takeNumber_47 : decode cX9_takeNumber 47 = .ok (.imul, 1) := by decide +kernel
theorem dX9_takeNumber_48 : decode cX9_takeNumber 48 = .ok (.aload_n 0, 1) := by decide +kernel
theorem dX9_takeNumber_49 : decode cX9_takeNumber 49 = .ok (.getfield 9, 3) := by decide +kernel
theorem dX9_takeNumber_52 : decode cX9_takeNumber 52 = .ok (.aload_n 0, 1) := by decide +kernel
theorem dX9_takeNumber_53 : decode cX9_takeNumber 53 = .ok (.getfield 43, 3) := by decide +kernel
theorem dX9_takeNumber_56 : decode cX9_takeNumber 56 = .ok (.baload, 1) := by decide +kernel
theorem dX9_takeNumber_57 : decode cX9_takeNumber 57 = .ok (.iadd, 1) := by decide +kernel
theorem dX9_takeNumber_58 : decode cX9_takeNumber 58 = .ok (.bipush 48, 2) := by decide +kernel
theorem dX9_takeNumber_60 : decode cX9_takeNumber 60 = .ok (.isub, 1) := by decide +kernel
theorem dX9_takeNumber_61 : decode cX9_takeNumber 61 = .ok (.putfield 82, 3) := by decide +kernel
theorem dX9_takeNumber_64 : decode cX9_takeNumber 64 = .ok (.aload_n 0, 1) := by decide +kernel
theorem dX9_takeNumber_65 : decode cX9_takeNumber 65 = .ok (.dup, 1) := by decide +kernel
theorem dX9_takeNumber_66 : decode cX9_takeNumber 66 = .ok (.getfield 43, 3) := by decide +kernel
theorem dX9_takeNumber_69 : decode cX9_takeNumber 69 = .ok (.iconst 1, 1) := by decide +kernel
theorem dX9_takeNumber_70 : decode cX9_takeNumber 70 = .ok (.iadd, 1) := by decide +kernel
theorem dX9_takeNumber_71 : decode cX9_takeNumber 71 = .ok (.putfield 43, 3) := by decide +kernel
theorem dX9_takeNumber_74 : decode cX9_takeNumber 74 = .ok (.goto (-69), 3) := by decide +kernel
theorem dX9_takeNumber_77 : decode cX9_takeNumber 77 = .ok (.aload_n 0, 1) := by decide +kernel
theorem dX9_takeNumber_78 : decode cX9_takeNumber 78 = .ok (.aload_n 0, 1) := by decide +kernel
theorem dX9_takeNumber_79 : decode cX9_takeNumber 79 = .ok (.getfield 43, 3) := by decide +kernel
theorem dX9_takeNumber_82 : decode cX9_takeNumber 82 = .ok (.aload_n 0, 1) := by decide +kernel
theorem dX9_takeNumber_83 : decode cX9_takeNumber 83 = .ok (.getfield 49, 3) := by decide +kernel
theorem dX9_takeNumber_86 : decode cX9_takeNumber 86 = .ok (.isub, 1) := by decide +kernel
theorem dX9_takeNumber_87 : decode cX9_takeNumber 87 = .ok (.iconst 4, 1) := by decide +kernel
theorem dX9_takeNumber_88 : decode cX9_takeNumber 88 = .ok (.if_icmp .le 9, 3) := by decide +kernel
theorem dX9_takeNumber_91 : decode cX9_takeNumber 91 = .ok (.sipush 203, 3) := by decide +kernel
theorem dX9_takeNumber_94 : decode cX9_takeNumber 94 = .ok (.goto 6, 3) := by decide +kernel
theorem dX9_takeNumber_97 : decode cX9_takeNumber 97 = .ok (.sipush 201, 3) := by decide +kernel
theorem dX9_takeNumber_100 : decode cX9_takeNumber 100 = .ok (.putfield 52, 3) := by decide +kernel
theorem dX9_takeNumber_103 : decode cX9_takeNumber 103 = .ok (.return_, 1) := by decide +kernel
theorem dX9_wordOf_0 : decode cX9_wordOf 0 = .ok (.iconst 0, 1) := by decide +kernel
theorem dX9_wordOf_1 : decode cX9_wordOf 1 = .ok (.istore_n 3, 1) := by decide +kernel
theorem dX9_wordOf_2 : decode cX9_wordOf 2 = .ok (.iload_n 3, 1) := by decide +kernel
theorem dX9_wordOf_3 : decode cX9_wordOf 3 = .ok (.aload_n 0, 1) := by decide +kernel
theorem dX9_wordOf_4 : decode cX9_wordOf 4 = .ok (.getfield 13, 3) := by decide +kernel
theorem dX9_wordOf_7 : decode cX9_wordOf 7 = .ok (.arraylength, 1) := by decide +kernel
theorem dX9_wordOf_8 : decode cX9_wordOf 8 = .ok (.if_icmp .ge 22, 3) := by decide +kernel
theorem dX9_wordOf_11 : decode cX9_wordOf 11 = .ok (.aload_n 0, 1) := by decide +kernel
theorem dX9_wordOf_12 : decode cX9_wordOf 12 = .ok (.getfield 13, 3) := by decide +kernel
theorem dX9_wordOf_15 : decode cX9_wordOf 15 = .ok (.iload_n 3, 1) := by decide +kernel
theorem dX9_wordOf_16 : decode cX9_wordOf 16 = .ok (.laload, 1) := by decide +kernel
theorem dX9_wordOf_17 : decode cX9_wordOf 17 = .ok (.lload_n 1, 1) := by decide +kernel
theorem dX9_wordOf_18 : decode cX9_wordOf 18 = .ok (.lcmp, 1) := by decide +kernel
theorem dX9_wordOf_19 : decode cX9_wordOf 19 = .ok (.ifCond .ne 5, 3) := by decide +kernel
theorem dX9_wordOf_22 : decode cX9_wordOf 22 = .ok (.iload_n 3, 1) := by decide +kernel
theorem dX9_wordOf_23 : decode cX9_wordOf 23 = .ok (.ireturn, 1) := by decide +kernel
theorem dX9_wordOf_24 : decode cX9_wordOf 24 = .ok (.iinc 3 1, 3) := by decide +kernel
theorem dX9_wordOf_27 : decode cX9_wordOf 27 = .ok (.goto (-25), 3) := by decide +kernel
theorem dX9_wordOf_30 : decode cX9_wordOf 30 = .ok (.sipush 200, 3) := by decide +kernel
theorem dX9_wordOf_33 : decode cX9_wordOf 33 = .ok (.ireturn, 1) := by decide +kernel
theorem dX9_isLetter_0 : decode cX9_isLetter 0 = .ok (.iload_n 1, 1) := by decide +kernel
theorem dX9_isLetter_1 : decode cX9_isLetter 1 = .ok (.ifCond .lt 44, 3) := by decide +kernel
theorem dX9_isLetter_4 : decode cX9_isLetter 4 = .ok (.iload_n 1, 1) := by decide +kernel
theorem dX9_isLetter_5 : decode cX9_isLetter 5 = .ok (.aload_n 0, 1) := by decide +kernel
theorem dX9_isLetter_6 : decode cX9_isLetter 6 = .ok (.getfield 39, 3) := by decide +kernel
theorem dX9_isLetter_9 : decode cX9_isLetter 9 = .ok (.if_icmp .ge 36, 3) := by decide +kernel
theorem dX9_isLetter_12 : decode cX9_isLetter 12 = .ok (.iload_n 1, 1) := by decide +kernel
theorem dX9_isLetter_13 : decode cX9_isLetter 13 = .ok (.sipush 1000, 3) := by decide +kernel
theorem dX9_isLetter_16 : decode cX9_isLetter 16 = .ok (.if_icmp .ge 29, 3) := by decide +kernel
theorem dX9_isLetter_19 : decode cX9_isLetter 19 = .ok (.aload_n 0, 1) := by decide +kernel
theorem dX9_isLetter_20 : decode cX9_isLetter 20 = .ok (.getfield 9, 3) := by decide +kernel
theorem dX9_isLetter_23 : decode cX9_isLetter 23 = .ok (.iload_n 1, 1) := by decide +kernel
theorem dX9_isLetter_24 : decode cX9_isLetter 24 = .ok (.baload, 1) := by decide +kernel
theorem dX9_isLetter_25 : decode cX9_isLetter 25 = .ok (.bipush 97, 2) := by decide +kernel
theorem dX9_isLetter_27 : decode cX9_isLetter 27 = .ok (.if_icmp .lt 18, 3) := by decide +kernel
theorem dX9_isLetter_30 : decode cX9_isLetter 30 = .ok (.aload_n 0, 1) := by decide +kernel
theorem dX9_isLetter_31 : decode cX9_isLetter 31 = .ok (.getfield 9, 3) := by decide +kernel
theorem dX9_isLetter_34 : decode cX9_isLetter 34 = .ok (.iload_n 1, 1) := by decide +kernel
theorem dX9_isLetter_35 : decode cX9_isLetter 35 = .ok (.baload, 1) := by decide +kernel
theorem dX9_isLetter_36 : decode cX9_isLetter 36 = .ok (.bipush 122, 2) := by decide +kernel
theorem dX9_isLetter_38 : decode cX9_isLetter 38 = .ok (.if_icmp .gt 7, 3) := by decide +kernel
theorem dX9_isLetter_41 : decode cX9_isLetter 41 = .ok (.iconst 1, 1) := by decide +kernel
theorem dX9_isLetter_42 : decode cX9_isLetter 42 = .ok (.goto 4, 3) := by decide +kernel
theorem dX9_isLetter_45 : decode cX9_isLetter 45 = .ok (.iconst 0, 1) := by decide +kernel
theorem dX9_isLetter_46 : decode cX9_isLetter 46 = .ok (.ireturn, 1) := by decide +kernel
theorem dX9_isDigit_0 : decode cX9_isDigit 0 = .ok (.iload_n 1, 1) := by decide +kernel
theorem dX9_isDigit_1 : decode cX9_isDigit 1 = .ok (.ifCond .lt 44, 3) := by decide +kernel
theorem dX9_isDigit_4 : decode cX9_isDigit 4 = .ok (.iload_n 1, 1) := by decide +kernel
theorem dX9_isDigit_5 : decode cX9_isDigit 5 = .ok (.aload_n 0, 1) := by decide +kernel
theorem dX9_isDigit_6 : decode cX9_isDigit 6 = .ok (.getfield 39, 3) := by decide +kernel
theorem dX9_isDigit_9 : decode cX9_isDigit 9 = .ok (.if_icmp .ge 36, 3) := by decide +kernel
theorem dX9_isDigit_12 : decode cX9_isDigit 12 = .ok (.iload_n 1, 1) := by decide +kernel
theorem dX9_isDigit_13 : decode cX9_isDigit 13 = .ok (.sipush 1000, 3) := by decide +kernel
theorem dX9_isDigit_16 : decode cX9_isDigit 16 = .ok (.if_icmp .ge 29, 3) := by decide +kernel
theorem dX9_isDigit_19 : decode cX9_isDigit 19 = .ok (.aload_n 0, 1) := by decide +kernel
theorem dX9_isDigit_20 : decode cX9_isDigit 20 = .ok (.getfield 9, 3) := by decide +kernel
theorem dX9_isDigit_23 : decode cX9_isDigit 23 = .ok (.iload_n 1, 1) := by decide +kernel
theorem dX9_isDigit_24 : decode cX9_isDigit 24 = .ok (.baload, 1) := by decide +kernel
theorem dX9_isDigit_25 : decode cX9_isDigit 25 = .ok (.bipush 48, 2) := by decide +kernel
theorem dX9_isDigit_27 : decode cX9_isDigit 27 = .ok (.if_icmp .lt 18, 3) := by decide +kernel
theorem dX9_isDigit_30 : decode cX9_isDigit 30 = .ok (.aload_n 0, 1) := by decide +kernel
theorem dX9_isDigit_31 : decode cX9_isDigit 31 = .ok (.getfield 9, 3) := by decide +kernel
theorem dX9_isDigit_34 : decode cX9_isDigit 34 = .ok (.iload_n 1, 1) := by decide +kernel
theorem dX9_isDigit_35 : decode cX9_isDigit 35 = .ok (.baload, 1) := by decide +kernel
theorem dX9_isDigit_36 : decode cX9_isDigit 36 = .ok (.bipush 57, 2) := by decide +kernel
theorem dX9_isDigit_38 : decode cX9_isDigit 38 = .ok (.if_icmp .gt 7, 3) := by decide +kernel
theorem dX9_isDigit_41 : decode cX9_isDigit 41 = .ok (.iconst 1, 1) := by decide +kernel
theorem dX9_isDigit_42 : decode cX9_isDigit 42 = .ok (.goto 4, 3) := by decide +kernel
theorem dX9_isDigit_45 : decode cX9_isDigit 45 = .ok (.iconst 0, 1) := by decide +kernel
theorem dX9_isDigit_46 : decode cX9_isDigit 46 = .ok (.ireturn, 1) := by decide +kernel
theorem dX9_withLetter_0 : decode cX9_withLetter 0 = .ok (.lload_n 0, 1) := by decide +kernel
theorem dX9_withLetter_1 : decode cX9_withLetter 1 = .ok (.ldc2_w 85, 3) := by decide +kernel
theorem dX9_withLetter_4 : decode cX9_withLetter 4 = .ok (.lmul, 1) := by decide +kernel
theorem dX9_withLetter_5 : decode cX9_withLetter 5 = .ok (.iload_n 2, 1) := by decide +kernel
theorem dX9_withLetter_6 : decode cX9_withLetter 6 = .ok (.bipush 97, 2) := by decide +kernel
theorem dX9_withLetter_8 : decode cX9_withLetter 8 = .ok (.isub, 1) := by decide +kernel
theorem dX9_withLetter_9 : decode cX9_withLetter 9 = .ok (.iconst 1, 1) := by decide +kernel
theorem dX9_withLetter_10 : decode cX9_withLetter 10 = .ok (.iadd, 1) := by decide +kernel
theorem dX9_withLetter_11 : decode cX9_withLetter 11 = .ok (.i2l, 1) := by decide +kernel
theorem dX9_withLetter_12 : decode cX9_withLetter 12 = .ok (.ladd, 1) := by decide +kernel
theorem dX9_withLetter_13 : decode cX9_withLetter 13 = .ok (.lreturn, 1) := by decide +kernel
theorem dX10_init_0 : decode cX10_init 0 = .ok (.aload_n 0, 1) := by decide +kernel
theorem dX10_init_1 : decode cX10_init 1 = .ok (.invokespecial 3, 3) := by decide +kernel
theorem dX10_init_4 : decode cX10_init 4 = .ok (.aload_n 0, 1) := by decide +kernel
theorem dX10_init_5 : decode cX10_init 5 = .ok (.bipush 16, 2) := by decide +kernel
theorem dX10_init_7 : decode cX10_init 7 = .ok (.newarray .int, 2) := by decide +kernel
theorem dX10_init_9 : decode cX10_init 9 = .ok (.putfield 11, 3) := by decide +kernel
theorem dX10_init_12 : decode cX10_init 12 = .ok (.aload_n 0, 1) := by decide +kernel
theorem dX10_init_13 : decode cX10_init 13 = .ok (.bipush 24, 2) := by decide +kernel
theorem dX10_init_15 : decode cX10_init 15 = .ok (.newarray .int, 2) := by decide +kernel
theorem dX10_init_17 : decode cX10_init 17 = .ok (.putfield 15, 3) := by decide +kernel
theorem dX10_init_20 : decode cX10_init 20 = .ok (.aload_n 0, 1) := by decide +kernel
theorem dX10_init_21 : decode cX10_init 21 = .ok (.bipush 8, 2) := by decide +kernel
theorem dX10_init_23 : decode cX10_init 23 = .ok (.newarray .int, 2) := by decide +kernel
theorem dX10_init_25 : decode cX10_init 25 = .ok (.putfield 18, 3) := by decide +kernel
theorem dX10_init_28 : decode cX10_init 28 = .ok (.aload_n 0, 1) := by decide +kernel
theorem dX10_init_29 : decode cX10_init 29 = .ok (.bipush 8, 2) := by decide +kernel
theorem dX10_init_31 : decode cX10_init 31 = .ok (.newarray .int, 2) := by decide +kernel
theorem dX10_init_33 : decode cX10_init 33 = .ok (.putfield 21, 3) := by decide +kernel
theorem dX10_init_36 : decode cX10_init 36 = .ok (.aload_n 0, 1) := by decide +kernel
theorem dX10_init_37 : decode cX10_init 37 = .ok (.sipush 256, 3) := by decide +kernel
theorem dX10_init_40 : decode cX10_init 40 = .ok (.newarray .int, 2) := by decide +kernel
theorem dX10_init_42 : decode cX10_init 42 = .ok (.putfield 24, 3) := by decide +kernel
theorem dX10_init_45 : decode cX10_init 45 = .ok (.aload_n 0, 1) := by decide +kernel
theorem dX10_init_46 : decode cX10_init 46 = .ok (.bipush 8, 2) := by decide +kernel
theorem dX10_init_48 : decode cX10_init 48 = .ok (.newarray .int, 2) := by decide +kernel
theorem dX10_init_50 : decode cX10_init 50 = .ok (.putfield 27, 3) := by decide +kernel
theorem dX10_init_53 : decode cX10_init 53 = .ok (.aload_n 0, 1) := by decide +kernel
theorem dX10_init_54 : decode cX10_init 54 = .ok (.bipush 9, 2) := by decide +kernel
theorem dX10_init_56 : decode cX10_init 56 = .ok (.newarray .int, 2) := by decide +kernel
theorem dX10_init_58 : decode cX10_init 58 = .ok (.putfield 30, 3) := by decide +kernel
theorem dX10_init_61 : decode cX10_init 61 = .ok (.aload_n 0, 1) := by decide +kernel
theorem dX10_init_62 : decode cX10_init 62 = .ok (.bipush 9, 2) := by decide +kernel
theorem dX10_init_64 : decode cX10_init 64 = .ok (.newarray .int, 2) := by decide +kernel
theorem dX10_init_66 : decode cX10_init 66 = .ok (.putfield 33, 3) := by decide +kernel
theorem dX10_init_69 : decode cX10_init 69 = .ok (.aload_n 0, 1) := by decide +kernel
theorem dX10_init_70 : decode cX10_init 70 = .ok (.iconst 1, 1) := by decide +kernel
theorem dX10_init_71 : decode cX10_init 71 = .ok (.putfield 36, 3) := by decide +kernel
theorem dX10_init_74 : decode cX10_init 74 = .ok (.return_, 1) := by decide +kernel
theorem dX10_lay_0 : decode cX10_lay 0 = .ok (.iload_n 1, 1) := by decide +kernel
theorem dX10_lay_1 : decode cX10_lay 1 = .ok (.iconst 0, 1) := by decide +kernel
theorem dX10_lay_2 : decode cX10_lay 2 = .ok (.bipush 7, 2) := by decide +kernel
theorem dX10_lay_4 : decode cX10_lay 4 = .ok (.invokestatic 40, 3) := by decide +kernel
theorem dX10_lay_7 : decode cX10_lay 7 = .ok (.ifCond .eq 40, 3) := by decide +kernel
theorem dX10_lay_10 : decode cX10_lay 10 = .ok (.aload_n 0, 1) := by decide +kernel
theorem dX10_lay_11 : decode cX10_lay 11 = .ok (.getfield 11, 3) := by decide +kernel
theorem dX10_lay_14 : decode cX10_lay 14 = .ok (.iload_n 1, 1) := by decide +kernel
theorem dX10_lay_15 : decode cX10_lay 15 = .ok (.iconst 2, 1) := by decide +kernel
theorem dX10_lay_16 : decode cX10_lay 16 = .ok (.imul, 1) := by decide +kernel
theorem dX10_lay_17 : decode cX10_lay 17 = .ok (.iload_n 2, 1) := by decide +kernel
theorem dX10_lay_18 : decode cX10_lay 18 = .ok (.iastore, 1) := by decide +kernel
theorem dX10_lay_19 : decode cX10_lay 19 = .ok (.aload_n 0, 1) := by decide +kernel
theorem dX10_lay_20 : decode cX10_lay 20 = .ok (.getfield 11, 3) := by decide +kernel
theorem dX10_lay_23 : decode cX10_lay 23 = .ok (.iload_n 1, 1) := by decide +kernel
theorem dX10_lay_24 : decode cX10_lay 24 = .ok (.iconst 2, 1) := by decide +kernel
theorem dX10_lay_25 : decode cX10_lay 25 = .ok (.imul, 1) := by decide +kernel
theorem dX10_lay_26 : decode cX10_lay 26 = .ok (.iconst 1, 1) := by decide +kernel
theorem dX10_lay_27 : decode cX10_lay 27 = .ok (.iadd, 1) := by decide +kernel
theorem dX10_lay_28 : decode cX10_lay 28 = .ok (.iload_n 3, 1) := by decide +kernel
theorem dX10_lay_29 : decode cX10_lay 29 = .ok (.iastore, 1) := by decide +kernel
theorem dX10_lay_30 : decode cX10_lay 30 = .ok (.aload_n 0, 1) := by decide +kernel
theorem dX10_lay_31 : decode cX10_lay 31 = .ok (.dup, 1) := by decide +kernel
theorem dX10_lay_32 : decode cX10_lay 32 = .ok (.getfield 44, 3) := by decide +kernel
theorem dX10_lay_35 : decode cX10_lay 35 = .ok (.iconst 1, 1) := by decide +kernel
theorem dX10_lay_36 : decode cX10_lay 36 = .ok (.iload_n 1, 1) := by decide +kernel
theorem dX10_lay_37 : decode cX10_lay 37 = .ok (.ishl, 1) := by decide +kernel
theorem dX10_lay_38 : decode cX10_lay 38 = .ok (.ior, 1) := by decide +kernel
theorem dX10_lay_39 : decode cX10_lay 39 = .ok (.putfield 44, 3) := by decide +kernel
theorem dX10_lay_42 : decode cX10_lay 42 = .ok (.aload_n 0, 1) := by decide +kernel
theorem dX10_lay_43 : decode cX10_lay 43 = .ok (.iconst 1, 1) := by decide +kernel
theorem dX10_lay_44 : decode cX10_lay 44 = .ok (.putfield 36, 3) := by decide +kernel
theorem dX10_lay_47 : decode cX10_lay 47 = .ok (.return_, 1) := by decide +kernel
theorem dX10_tellHurt_0 : decode cX10_tellHurt 0 = .ok (.iload_n 1, 1) := by decide +kernel
theorem dX10_tellHurt_1 : decode cX10_tellHurt 1 = .ok (.iconst 0, 1) := by decide +kernel
theorem dX10_tellHurt_2 : decode cX10_tellHurt 2 = .ok (.bipush 7, 2) := by decide +kernel
theorem dX10_tellHurt_4 : decode cX10_tellHurt 4 = .ok (.invokestatic 40, 3) := by decide +kernel
theorem dX10_tellHurt_7 : decode cX10_tellHurt 7 = .ok (.ifCond .eq 40, 3) := by decide +kernel
theorem dX10_tellHurt_10 : decode cX10_tellHurt 10 = .ok (.aload_n 0, 1) := by decide +kernel
theorem dX10_tellHurt_11 : decode cX10_tellHurt 11 = .ok (.getfield 15, 3) := by decide +kernel
theorem dX10_tellHurt_14 : decode cX10_tellHurt 14 = .ok (.iload_n 1, 1) := by decide +kernel
theorem dX10_tellHurt_15 : decode cX10_tellHurt 15 = .ok (.iconst 3, 1) := by decide +kernel
theorem dX10_tellHurt_16 : decode cX10_tellHurt 16 = .ok (.imul, 1) := by decide +kernel
theorem dX10_tellHurt_17 : decode cX10_tellHurt 17 = .ok (.iload_n 2, 1) := by decide +kernel
theorem dX10_tellHurt_18 : decode cX10_tellHurt 18 = .ok (.iastore, 1) := by decide +kernel
theorem dX10_tellHurt_19 : decode cX10_tellHurt 19 = .ok (.aload_n 0, 1) := by decide +kernel
theorem dX10_tellHurt_20 : decode cX10_tellHurt 20 = .ok (.getfield 15, 3) := by decide +kernel
theorem dX10_tellHurt_23 : decode cX10_tellHurt 23 = .ok (.iload_n 1, 1) := by decide +kernel
theorem dX10_tellHurt_24 : decode cX10_tellHurt 24 = .ok (.iconst 3, 1) := by decide +kernel
theorem dX10_tellHurt_25 : decode cX10_tellHurt 25 = .ok (.imul, 1) := by decide +kernel
theorem dX10_tellHurt_26 : decode cX10_tellHurt 26 = .ok (.iconst 1, 1) := by decide +kernel
theorem dX10_tellHurt_27 : decode cX10_tellHurt 27 = .ok (.iadd, 1) := by decide +kernel
theorem dX10_tellHurt_28 : decode cX10_tellHurt 28 = .ok (.iload_n 3, 1) := by decide +kernel
theorem dX10_tellHurt_29 : decode cX10_tellHurt 29 = .ok (.iastore, 1) := by decide +kernel
theorem dX10_tellHurt_30 : decode cX10_tellHurt 30 = .ok (.aload_n 0, 1) := by decide +kernel
theorem dX10_tellHurt_31 : decode cX10_tellHurt 31 = .ok (.getfield 15, 3) := by decide +kernel
theorem dX10_tellHurt_34 : decode cX10_tellHurt 34 = .ok (.iload_n 1, 1) := by decide +kernel
theorem dX10_tellHurt_35 : decode cX10_tellHurt 35 = .ok (.iconst 3, 1) := by decide +kernel
theorem dX10_tellHurt_36 : decode cX10_tellHurt 36 = .ok (.imul, 1) := by decide +kernel
theorem dX10_tellHurt_37 : decode cX10_tellHurt 37 = .ok (.iconst 2, 1) := by decide +kernel
theorem dX10_tellHurt_38 : decode cX10_tellHurt 38 = .ok (.iadd, 1) := by decide +kernel
theorem dX10_tellHurt_39 : decode cX10_tellHurt 39 = .ok (.iload 4, 2) := by decide +kernel
theorem dX10_tellHurt_41 : decode cX10_tellHurt 41 = .ok (.iastore, 1) := by decide +kernel
theorem dX10_tellHurt_42 : decode cX10_tellHurt 42 = .ok (.aload_n 0, 1) := by decide +kernel
theorem dX10_tellHurt_43 : decode cX10_tellHurt 43 = .ok (.iconst 1, 1) := by decide +kernel
theorem dX10_tellHurt_44 : decode cX10_tellHurt 44 = .ok (.putfield 36, 3) := by decide +kernel
theorem dX10_tellHurt_47 : decode cX10_tellHurt 47 = .ok (.return_, 1) := by decide +kernel
theorem dX10_addTrip_0 : decode cX10_addTrip 0 = .ok (.aload_n 0, 1) := by decide +kernel
theorem dX10_addTrip_1 : decode cX10_addTrip 1 = .ok (.getfield 48, 3) := by decide +kernel
theorem dX10_addTrip_4 : decode cX10_addTrip 4 = .ok (.bipush 8, 2) := by decide +kernel
theorem dX10_addTrip_6 : decode cX10_addTrip 6 = .ok (.if_icmp .lt 5, 3) := by decide +kernel
theorem dX10_addTrip_9 : decode cX10_addTrip 9 = .ok (.iconst (-1), 1) := by decide +kernel
theorem dX10_addTrip_10 : decode cX10_addTrip 10 = .ok (.ireturn, 1) := by decide +kernel
theorem dX10_addTrip_11 : decode cX10_addTrip 11 = .ok (.aload_n 0, 1) := by decide +kernel
theorem dX10_addTrip_12 : decode cX10_addTrip 12 = .ok (.getfield 18, 3) := by decide +kernel
theorem dX10_addTrip_15 : decode cX10_addTrip 15 = .ok (.aload_n 0, 1) := by decide +kernel
theorem dX10_addTrip_16 : decode cX10_addTrip 16 = .ok (.getfield 48, 3) := by decide +kernel
theorem dX10_addTrip_19 : decode cX10_addTrip 19 = .ok (.iload_n 1, 1) := by decide +kernel
theorem dX10_addTrip_20 : decode cX10_addTrip 20 = .ok (.iastore, 1) := by decide +kernel
theorem dX10_addTrip_21 : decode cX10_addTrip 21 = .ok (.aload_n 0, 1) := by decide +kernel
theorem dX10_addTrip_22 : decode cX10_addTrip 22 = .ok (.getfield 21, 3) := by decide +kernel
theorem dX10_addTrip_25 : decode cX10_addTrip 25 = .ok (.aload_n 0, 1) := by decide +kernel
theorem dX10_addTrip_26 : decode cX10_addTrip 26 = .ok (.getfield 48, 3) := by decide +kernel
theorem dX10_addTrip_29 : decode cX10_addTrip 29 = .ok (.iload_n 2, 1) := by decide +kernel
theorem dX10_addTrip_30 : decode cX10_addTrip 30 = .ok (.iastore, 1) := by decide +kernel
theorem dX10_addTrip_31 : decode cX10_addTrip 31 = .ok (.aload_n 0, 1) := by decide +kernel
theorem dX10_addTrip_32 : decode cX10_addTrip 32 = .ok (.dup, 1) := by decide +kernel
theorem dX10_addTrip_33 : decode cX10_addTrip 33 = .ok (.getfield 48, 3) := by decide +kernel
theorem dX10_addTrip_36 : decode cX10_addTrip 36 = .ok (.iconst 1, 1) := by decide +kernel
theorem dX10_addTrip_37 : decode cX10_addTrip 37 = .ok (.iadd, 1) := by decide +kernel
theorem dX10_addTrip_38 : decode cX10_addTrip 38 = .ok (.putfield 48, 3) := by decide +kernel
theorem dX10_addTrip_41 : decode cX10_addTrip 41 = .ok (.aload_n 0, 1) := by decide +kernel
theorem dX10_addTrip_42 : decode cX10_addTrip 42 = .ok (.iconst 1, 1) := by decide +kernel
theorem dX10_addTrip_43 : decode cX10_addTrip 43 = .ok (.putfield 36, 3) := by decide +kernel
theorem dX10_addTrip_46 : decode cX10_addTrip 46 = .ok (.aload_n 0, 1) := by decide +kernel
theorem dX10_addTrip_47 : decode cX10_addTrip 47 = .ok (.getfield 48, 3) := by decide +kernel
theorem dX10_addTrip_50 : decode cX10_addTrip 50 = .ok (.iconst 1, 1) := by decide +kernel
theorem dX10_addTrip_51 : decode cX10_addTrip 51 = .ok (.isub, 1) := by decide +kernel
theorem dX10_addTrip_52 : decode cX10_addTrip 52 = .ok (.ireturn, 1) := by decide +kernel
theorem dX10_bestLate_0 : decode cX10_bestLate 0 = .ok (.aload_n 0, 1) := by decide +kernel
theorem dX10_bestLate_1 : decode cX10_bestLate 1 = .ok (.getfield 36, 3) := by decide +kernel
theorem dX10_bestLate_4 : decode cX10_bestLate 4 = .ok (.ifCond .eq 12, 3) := by decide +kernel
theorem dX10_bestLate_7 : decode cX10_bestLate 7 = .ok (.aload_n 0, 1) := by decide +kernel
theorem dX10_bestLate_8 : decode cX10_bestLate 8 = .ok (.invokevirtual 51, 3) := by decide +kernel
theorem dX10_bestLate_11 : decode cX10_bestLate 11 = .ok (.aload_n 0, 1) := by decide +kernel
theorem dX10_bestLate_12 : decode cX10_bestLate 12 = .ok (.iconst 0, 1) := by decide +kernel
theorem dX10_bestLate_13 : decode cX10_bestLate 13 = .ok (.putfield 36, 3) := by decide +kernel
theorem dX10_bestLate_16 : decode cX10_bestLate 16 = .ok (.iconst (-1), 1) := by decide +kernel
theorem dX10_bestLate_17 : decode cX10_bestLate 17 = .ok (.istore_n 2, 1) := by decide +kernel
theorem dX10_bestLate_18 : decode cX10_bestLate 18 = .ok (.iconst 0, 1) := by decide +kernel
theorem dX10_bestLate_19 : decode cX10_bestLate 19 = .ok (.istore_n 3, 1) := by decide +kernel
theorem dX10_bestLate_20 : decode cX10_bestLate 20 = .ok (.iload_n 3, 1) := by decide +kernel
theorem dX10_bestLate_21 : decode cX10_bestLate 21 = .ok (.iload_n 1, 1) := by decide +kernel
theorem dX10_bestLate_22 : decode cX10_bestLate 22 = .ok (.if_icmp .gt 44, 3) := by decide +kernel
theorem dX10_bestLate_25 : decode cX10_bestLate 25 = .ok (.iload_n 3, 1) := by decide +kernel
theorem dX10_bestLate_26 : decode cX10_bestLate 26 = .ok (.aload_n 0, 1) := by decide +kernel
theorem dX10_bestLate_27 : decode cX10_bestLate 27 = .ok (.getfield 30, 3) := by decide +kernel
theorem dX10_bestLate_30 : decode cX10_bestLate 30 = .ok (.arraylength, 1) := by decide +kernel
theorem dX10_bestLate_31 : decode cX10_bestLate 31 = .ok (.if_icmp .ge 35, 3) := by decide +kernel
theorem dX10_bestLate_34 : decode cX10_bestLate 34 = .ok (.aload_n 0, 1) := by decide +kernel
theorem dX10_bestLate_35 : decode cX10_bestLate 35 = .ok (.getfield 30, 3) := by decide +kernel
theorem dX10_bestLate_38 : decode cX10_bestLate 38 = .ok (.iload_n 3, 1) := by decide +kernel
theorem dX10_bestLate_39 : decode cX10_bestLate 39 = .ok (.iaload, 1) := by decide +kernel
theorem dX10_bestLate_40 : decode cX10_bestLate 40 = .ok (.iconst (-1), 1) := by decide +kernel
theorem dX10_bestLate_41 : decode cX10_bestLate 41 = .ok (.if_icmp .eq 19, 3) := by decide +kernel
theorem dX10_bestLate_44 : decode cX10_bestLate 44 = .ok (.iload_n 2, 1) := by decide +kernel
theorem dX10_bestLate_45 : decode cX10_bestLate 45 = .ok (.iconst (-1), 1) := by decide +kernel
theorem dX10_bestLate_46 : decode cX10_bestLate 46 = .ok (.if_icmp .eq 12, 3) := by decide +kernel
theorem dX10_bestLate_49 : decode cX10_bestLate 49 = .ok (.aload_n 0, 1) := by decide +kernel
theorem dX10_bestLate_50 : decode cX10_bestLate 50 = .ok (.iload_n 3, 1) := by decide +kernel
theorem dX10_bestLate_51 : decode cX10_bestLate 51 = .ok (.iload_n 2, 1) := by decide +kernel
theorem dX10_bestLate_52 : decode cX10_bestLate 52 = .ok (.invokevirtual 54, 3) := by decide +kernel
theorem dX10_bestLate_55 : decode cX10_bestLate 55 = .ok (.ifCond .eq 5, 3) := by decide +kernel
theorem dX10_bestLate_58 : decode cX10_bestLate 58 = .ok (.iload_n 3, 1) := by decide +kernel
theorem dX10_bestLate_59 : decode cX10_bestLate 59 = .ok (.istore_n 2, 1) := by decide +kernel
theorem dX10_bestLate_60 : decode cX10_bestLate 60 = .ok (.iinc 3 1, 3) := by decide +kernel
theorem dX10_bestLate_63 : decode cX10_bestLate 63 = .ok (.goto (-43), 3) := by decide +kernel
theorem dX10_bestLate_66 : decode cX10_bestLate 66 = .ok (.iload_n 2, 1) := by decide +kernel
theorem dX10_bestLate_67 : decode cX10_bestLate 67 = .ok (.ireturn, 1) := by decide +kernel
theorem dX10_sumWith_0 : decode cX10_sumWith 0 = .ok (.iload_n 1, 1) := by decide +kernel
theorem dX10_sumWith_1 : decode cX10_sumWith 1 = .ok (.ifCond .lt 21, 3) := by decide +kernel
theorem dX10_sumWith_4 : decode cX10_sumWith 4 = .ok (.iload_n 1, 1) := by decide +kernel
theorem dX10_sumWith_5 : decode cX10_sumWith 5 = .ok (.aload_n 0, 1) := by decide +kernel
theorem dX10_sumWith_6 : decode cX10_sumWith 6 = .ok (.getfield 30, 3) := by decide +kernel
theorem dX10_sumWith_9 : decode cX10_sumWith 9 = .ok (.arraylength, 1) := by decide +kernel
theorem dX10_sumWith_10 : decode cX10_sumWith 10 = .ok (.if_icmp .ge 12, 3) := by decide +kernel
theorem dX10_sumWith_13 : decode cX10_sumWith 13 = .ok (.aload_n 0, 1) := by decide +kernel
theorem dX10_sumWith_14 : decode cX10_sumWith 14 = .ok (.getfield 30, 3) := by decide +kernel
theorem dX10_sumWith_17 : decode cX10_sumWith 17 = .ok (.iload_n 1, 1) := by decide +kernel
theorem dX10_sumWith_18 : decode cX10_sumWith 18 = .ok (.iaload, 1) := by decide +kernel
theorem dX10_sumWith_19 : decode cX10_sumWith 19 = .ok (.goto 4, 3) := by decide +kernel
theorem dX10_sumWith_22 : decode cX10_sumWith 22 = .ok (.iconst (-1), 1) := by decide +kernel
theorem dX10_sumWith_23 : decode cX10_sumWith 23 = .ok (.ireturn, 1) := by decide +kernel
theorem dX10_doneWith_0 : decode cX10_doneWith 0 = .ok (.aload_n 0, 1) := by decide +kernel
theorem dX10_doneWith_1 : decode cX10_doneWith 1 = .ok (.iload_n 1, 1) := by decide +kernel
theorem dX10_doneWith_2 : decode cX10_doneWith 2 = .ok (.invokevirtual 58, 3) := by decide +kernel
theorem dX10_doneWith_5 : decode cX10_doneWith 5 = .ok (.ifCond .eq 16, 3) := by decide +kernel
theorem dX10_doneWith_8 : decode cX10_doneWith 8 = .ok (.iload_n 2, 1) := by decide +kernel
theorem dX10_doneWith_9 : decode cX10_doneWith 9 = .ok (.ifCond .lt 12, 3) := by decide +kernel
theorem dX10_doneWith_12 : decode cX10_doneWith 12 = .ok (.iload_n 2, 1) := by decide +kernel
theorem dX10_doneWith_13 : decode cX10_doneWith 13 = .ok (.aload_n 0, 1) := by decide +kernel
theorem dX10_doneWith_14 : decode cX10_doneWith 14 = .ok (.getfield 33, 3) := by decide +kernel
theorem dX10_doneWith_17 : decode cX10_doneWith 17 = .ok (.arraylength, 1) := by decide +kernel
theorem dX10_doneWith_18 : decode cX10_doneWith 18 = .ok (.if_icmp .lt 5, 3) := by decide +kernel
theorem dX10_doneWith_21 : decode cX10_doneWith 21 = .ok (.iconst (-1), 1) := by decide +kernel
theorem dX10_doneWith_22 : decode cX10_doneWith 22 = .ok (.ireturn, 1) := by decide +kernel
theorem dX10_doneWith_23 : decode cX10_doneWith 23 = .ok (.aload_n 0, 1) := by decide +kernel
theorem dX10_doneWith_24 : decode cX10_doneWith 24 = .ok (.getfield 33, 3) := by decide +kernel
theorem dX10_doneWith_27 : decode cX10_doneWith 27 = .ok (.iload_n 2, 1) := by decide +kernel
theorem dX10_doneWith_28 : decode cX10_doneWith 28 = .ok (.iaload, 1) := by decide +kernel
theorem dX10_doneWith_29 : decode cX10_doneWith 29 = .ok (.istore_n 3, 1) := by decide +kernel
theorem dX10_doneWith_30 : decode cX10_doneWith 30 = .ok (.iconst 0, 1) := by decide +kernel
theorem dX10_doneWith_31 : decode cX10_doneWith 31 = .ok (.istore 4, 2) := by decide +kernel
theorem dX10_doneWith_33 : decode cX10_doneWith 33 = .ok (.iload 4, 2) := by decide +kernel
theorem dX10_doneWith_35 : decode cX10_doneWith 35 = .ok (.iload_n 1, 1) := by decide +kernel
theorem dX10_doneWith_36 : decode cX10_doneWith 36 = .ok (.if_icmp .ge 13, 3) := by decide +kernel
theorem dX10_doneWith_39 : decode cX10_doneWith 39 = .ok (.iload_n 3, 1) := by decide +kernel
theorem dX10_doneWith_40 : decode cX10_doneWith 40 = .ok (.iconst 3, 1) := by decide +kernel
theorem dX10_doneWith_41 : decode cX10_doneWith 41 = .ok (.idiv, 1) := by decide +kernel
theorem dX10_doneWith_42 : decode cX10_doneWith 42 = .ok (.istore_n 3, 1) := by decide +kernel
theorem dX10_doneWith_43 : decode cX10_doneWith 43 = .ok (.iinc 4 1, 3) := by decide +kernel
theorem dX10_doneWith_46 : decode cX10_doneWith 46 = .ok (.goto (-13), 3) := by decide +kernel
theorem dX10_doneWith_49 : decode cX10_doneWith 49 = .ok (.iload_n 3, 1) := by decide +kernel
theorem dX10_doneWith_50 : decode cX10_doneWith 50 = .ok (.iconst 3, 1) := by decide +kernel
theorem dX10_doneWith_51 : decode cX10_doneWith 51 = .ok (.irem, 1) := by decide +kernel
theorem dX10_doneWith_52 : decode cX10_doneWith 52 = .ok (.ireturn, 1) := by decide +kernel
theorem dX10_isBetter_0 : decode cX10_isBetter 0 = .ok (.aload_n 0, 1) := by decide +kernel
theorem dX10_isBetter_1 : decode cX10_isBetter 1 = .ok (.iload_n 1, 1) := by decide +kernel
theorem dX10_isBetter_2 : decode cX10_isBetter 2 = .ok (.invokevirtual 62, 3) := by decide +kernel
theorem dX10_isBetter_5 : decode cX10_isBetter 5 = .ok (.istore_n 3, 1) := by decide +kernel
theorem dX10_isBetter_6 : decode cX10_isBetter 6 = .ok (.aload_n 0, 1) := by decide +kernel
theorem dX10_isBetter_7 : decode cX10_isBetter 7 = .ok (.iload_n 2, 1) := by decide +kernel
theorem dX10_isBetter_8 : decode cX10_isBetter 8 = .ok (.invokevirtual 62, 3) := by decide +kernel
theorem dX10_isBetter_11 : decode cX10_isBetter 11 = .ok (.istore 4, 2) := by decide +kernel
theorem dX10_isBetter_13 : decode cX10_isBetter 13 = .ok (.iload_n 3, 1) := by decide +kernel
theorem dX10_isBetter_14 : decode cX10_isBetter 14 = .ok (.iload 4, 2) := by decide +kernel
theorem dX10_isBetter_16 : decode cX10_isBetter 16 = .ok (.if_icmp .lt 42, 3) := by decide +kernel
theorem dX10_isBetter_19 : decode cX10_isBetter 19 = .ok (.iload_n 3, 1) := by decide +kernel
theorem dX10_isBetter_20 : decode cX10_isBetter 20 = .ok (.iload 4, 2) := by decide +kernel
theorem dX10_isBetter_22 : decode cX10_isBetter 22 = .ok (.if_icmp .ne 40, 3) := by decide +kernel
theorem dX10_isBetter_25 : decode cX10_isBetter 25 = .ok (.iload_n 1, 1) := by decide +kernel
theorem dX10_isBetter_26 : decode cX10_isBetter 26 = .ok (.aload_n 0, 1) := by decide +kernel
theorem dX10_isBetter_27 : decode cX10_isBetter 27 = .ok (.getfield 33, 3) := by decide +kernel
theorem dX10_isBetter_30 : decode cX10_isBetter 30 = .ok (.arraylength, 1) := by decide +kernel
theorem dX10_isBetter_31 : decode cX10_isBetter 31 = .ok (.if_icmp .ge 31, 3) := by decide +kernel
theorem dX10_isBetter_34 : decode cX10_isBetter 34 = .ok (.iload_n 2, 1) := by decide +kernel
theorem dX10_isBetter_35 : decode cX10_isBetter 35 = .ok (.aload_n 0, 1) := by decide +kernel
theorem dX10_isBetter_36 : decode cX10_isBetter 36 = .ok (.getfield 33, 3) := by decide +kernel
theorem dX10_isBetter_39 : decode cX10_isBetter 39 = .ok (.arraylength, 1) := by decide +kernel
theorem dX10_isBetter_40 : decode cX10_isBetter 40 = .ok (.if_icmp .ge 22, 3) := by decide +kernel
theorem dX10_isBetter_43 : decode cX10_isBetter 43 = .ok (.aload_n 0, 1) := by decide +kernel
theorem dX10_isBetter_44 : decode cX10_isBetter 44 = .ok (.getfield 33, 3) := by decide +kernel
theorem dX10_isBetter_47 : decode cX10_isBetter 47 = .ok (.iload_n 1, 1) := by decide +kernel
theorem dX10_isBetter_48 : decode cX10_isBetter 48 = .ok (.iaload, 1) := by decide +kernel
theorem dX10_isBetter_49 : decode cX10_isBetter 49 = .ok (.aload_n 0, 1) := by decide +kernel
theorem dX10_isBetter_50 : decode cX10_isBetter 50 = .ok (.getfield 33, 3) := by decide +kernel
theorem dX10_isBetter_53 : decode cX10_isBetter 53 = .ok (.iload_n 2, 1) := by decide +kernel
theorem dX10_isBetter_54 : decode cX10_isBetter 54 = .ok (.iaload, 1) := by decide +kernel
theorem dX10_isBetter_55 : decode cX10_isBetter 55 = .ok (.if_icmp .ge 7, 3) := by decide +kernel
theorem dX10_isBetter_58 : decode cX10_isBetter 58 = .ok (.iconst 1, 1) := by decide +kernel
theorem dX10_isBetter_59 : decode cX10_isBetter 59 = .ok (.goto 4, 3) := by decide +kernel
theorem dX10_isBetter_62 : decode cX10_isBetter 62 = .ok (.iconst 0, 1) := by decide +kernel
theorem dX10_isBetter_63 : decode cX10_isBetter 63 = .ok (.ireturn, 1) := by decide +kernel
theorem dX10_findPlans_0 : decode cX10_findPlans 0 = .ok (.aload_n 0, 1) := by decide +kernel
theorem dX10_findPlans_1 : decode cX10_findPlans 1 = .ok (.getfield 30, 3) := by decide +kernel
theorem dX10_findPlans_4 : decode cX10_findPlans 4 = .ok (.iconst (-1), 1) := by decide +kernel
theorem dX10_findPlans_5 : decode cX10_findPlans 5 = .ok (.invokestatic 66, 3) := by decide +kernel
theorem dX10_findPlans_8 : decode cX10_findPlans 8 = .ok (.iconst 0, 1) := by decide +kernel
theorem dX10_findPlans_9 : decode cX10_findPlans 9 = .ok (.istore_n 1, 1) := by decide +kernel
theorem dX10_findPlans_10 : decode cX10_findPlans 10 = .ok (.iload_n 1, 1) := by decide +kernel
theorem dX10_findPlans_11 : decode cX10_findPlans 11 = .ok (.aload_n 0, 1) := by decide +kernel
theorem dX10_findPlans_12 : decode cX10_findPlans 12 = .ok (.getfield 24, 3) := by decide +kernel
theorem dX10_findPlans_15 : decode cX10_findPlans 15 = .ok (.arraylength, 1) := by decide +kernel
theorem dX10_findPlans_16 : decode cX10_findPlans 16 = .ok (.if_icmp .ge 31, 3) := by decide +kernel
theorem dX10_findPlans_19 : decode cX10_findPlans 19 = .ok (.iload_n 1, 1) := by decide +kernel
theorem dX10_findPlans_20 : decode cX10_findPlans 20 = .ok (.aload_n 0, 1) := by decide +kernel
theorem dX10_findPlans_21 : decode cX10_findPlans 21 = .ok (.getfield 44, 3) := by decide +kernel
theorem dX10_findPlans_24 : decode cX10_findPlans 24 = .ok (.iconst (-1), 1) := by decide +kernel
theorem dX10_findPlans_25 : decode cX10_findPlans 25 = .ok (.ixor, 1) := by decide +kernel
theorem dX10_findPlans_26 : decode cX10_findPlans 26 = .ok (.iand, 1) := by decide +kernel
theorem dX10_findPlans_27 : decode cX10_findPlans 27 = .ok (.ifCond .ne 14, 3) := by decide +kernel
theorem dX10_findPlans_30 : decode cX10_findPlans 30 = .ok (.aload_n 0, 1) := by decide +kernel
theorem dX10_findPlans_31 : decode cX10_findPlans 31 = .ok (.getfield 24, 3) := by decide +kernel
theorem dX10_findPlans_34 : decode cX10_findPlans 34 = .ok (.iload_n 1, 1) := by decide +kernel
theorem dX10_findPlans_35 : decode cX10_findPlans 35 = .ok (.aload_n 0, 1) := by decide +kernel
theorem dX10_findPlans_36 : decode cX10_findPlans 36 = .ok (.iload_n 1, 1) := by decide +kernel
theorem dX10_findPlans_37 : decode cX10_findPlans 37 = .ok (.invokevirtual 72, 3) := by decide +kernel
theorem dX10_findPlans_40 : decode cX10_findPlans 40 = .ok (.iastore, 1) := by decide +kernel
theorem dX10_findPlans_41 : decode cX10_findPlans 41 = .ok (.iinc 1 1, 3) := by decide +kernel
theorem dX10_findPlans_44 : decode cX10_findPlans 44 = .ok (.goto (-34), 3) := by decide +kernel
theorem dX10_findPlans_47 : decode cX10_findPlans 47 = .ok (.aload_n 0, 1) := by decide +kernel
theorem dX10_findPlans_48 : decode cX10_findPlans 48 = .ok (.bipush 7, 2) := by decide +kernel
theorem dX10_findPlans_50 : decode cX10_findPlans 50 = .ok (.iconst 0, 1) := by decide +kernel
theorem dX10_findPlans_51 : decode cX10_findPlans 51 = .ok (.iconst 0, 1) := by decide +kernel
theorem dX10_findPlans_52 : decode cX10_findPlans 52 = .ok (.iconst 0, 1) := by decide +kernel
theorem dX10_findPlans_53 : decode cX10_findPlans 53 = .ok (.iconst 0, 1) := by decide +kernel
theorem dX10_findPlans_54 : decode cX10_findPlans 54 = .ok (.invokevirtual 75, 3) := by decide +kernel
theorem dX10_findPlans_57 : decode cX10_findPlans 57 = .ok (.return_, 1) := by decide +kernel
theorem dX10_decide_0 : decode cX10_decide 0 = .ok (.iload_n 1, 1) := by decide +kernel
theorem dX10_decide_1 : decode cX10_decide 1 = .ok (.ifCond .lt 9, 3) := by decide +kernel
theorem dX10_decide_4 : decode cX10_decide 4 = .ok (.iload_n 1, 1) := by decide +kernel
theorem dX10_decide_5 : decode cX10_decide 5 = .ok (.bipush 8, 2) := by decide +kernel
theorem dX10_decide_7 : decode cX10_decide 7 = .ok (.if_icmp .lt 14, 3) := by decide +kernel
theorem dX10_decide_10 : decode cX10_decide 10 = .ok (.aload_n 0, 1) := by decide +kernel
theorem dX10_decide_11 : decode cX10_decide 11 = .ok (.iload_n 2, 1) := by decide +kernel
theorem dX10_decide_12 : decode cX10_decide 12 = .ok (.iload_n 3, 1) := by decide +kernel
theorem dX10_decide_13 : decode cX10_decide 13 = .ok (.iload 4, 2) := by decide +kernel
theorem dX10_decide_15 : decode cX10_decide 15 = .ok (.iload 5, 2) := by decide +kernel
theorem dX10_decide_17 : decode cX10_decide 17 = .ok (.invokevirtual 79, 3) := by decide +kernel
theorem dX10_decide_20 : decode cX10_decide 20 = .ok (.return_, 1) := by decide +kernel
theorem dX10_decide_21 : decode cX10_decide 21 = .ok (.aload_n 0, 1) := by decide +kernel
theorem dX10_decide_22 : decode cX10_decide 22 = .ok (.iload_n 1, 1) := by decide +kernel
theorem dX10_decide_23 : decode cX10_decide 23 = .ok (.invokevirtual 58, 3) := by decide +kernel
theorem dX10_decide_26 : decode cX10_decide 26 = .ok (.ifCond .ne 19, 3) := by decide +kernel
theorem dX10_decide_29 : decode cX10_decide 29 = .ok (.aload_n 0, 1) := by decide +kernel
theorem dX10_decide_30 : decode cX10_decide 30 = .ok (.iload_n 1, 1) := by decide +kernel
theorem dX10_decide_31 : decode cX10_decide 31 = .ok (.iconst 1, 1) := by decide +kernel
theorem dX10_decide_32 : decode cX10_decide 32 = .ok (.isub, 1) := by decide +kernel
theorem dX10_decide_33 : decode cX10_decide 33 = .ok (.iload_n 2, 1) := by decide +kernel
theorem dX10_decide_34 : decode cX10_decide 34 = .ok (.iload_n 3, 1) := by decide +kernel
theorem dX10_decide_35 : decode cX10_decide 35 = .ok (.iload 4, 2) := by decide +kernel
theorem dX10_decide_37 : decode cX10_decide 37 = .ok (.iload 5, 2) := by decide +kernel
theorem dX10_decide_39 : decode cX10_decide 39 = .ok (.iconst 3, 1) := by decide +kernel
theorem dX10_decide_40 : decode cX10_decide 40 = .ok (.imul, 1) := by decide +kernel
theorem dX10_decide_41 : decode cX10_decide 41 = .ok (.invokevirtual 75, 3) := by decide +kernel
theorem dX10_decide_44 : decode cX10_decide 44 = .ok (.return_, 1) := by decide +kernel
theorem dX10_decide_45 : decode cX10_decide 45 = .ok (.iconst 1, 1) := by decide +kernel
theorem dX10_decide_46 : decode cX10_decide 46 = .ok (.iload_n 1, 1) := by decide +kernel
theorem dX10_decide_47 : decode cX10_decide 47 = .ok (.ishl, 1) := by decide +kernel
theorem dX10_decide_48 : decode cX10_decide 48 = .ok (.istore 6, 2) := by decide +kernel
theorem dX10_decide_50 : decode cX10_decide 50 = .ok (.iload_n 1, 1) := by decide +kernel
theorem dX10_decide_51 : decode cX10_decide 51 = .ok (.iconst 3, 1) := by decide +kernel
theorem dX10_decide_52 : decode cX10_decide 52 = .ok (.imul, 1) := by decide +kernel
theorem dX10_decide_53 : decode cX10_decide 53 = .ok (.istore 7, 2) := by decide +kernel
theorem dX10_decide_55 : decode cX10_decide 55 = .ok (.aload_n 0, 1) := by decide +kernel
theorem dX10_decide_56 : decode cX10_decide 56 = .ok (.iload_n 1, 1) := by decide +kernel
theorem dX10_decide_57 : decode cX10_decide 57 = .ok (.iconst 1, 1) := by decide +kernel
theorem dX10_decide_58 : decode cX10_decide 58 = .ok (.isub, 1) := by decide +kernel
theorem dX10_decide_59 : decode cX10_decide 59 = .ok (.iload_n 2, 1) := by decide +kernel
theorem dX10_decide_60 : decode cX10_decide 60 = .ok (.iload 6, 2) := by decide +kernel
theorem dX10_decide_62 : decode cX10_decide 62 = .ok (.ior, 1) := by decide +kernel
theorem dX10_decide_63 : decode cX10_decide 63 = .ok (.iload_n 3, 1) := by decide +kernel
theorem dX10_decide_64 : decode cX10_decide 64 = .ok (.iload 6, 2) := by decide +kernel
theorem dX10_decide_66 : decode cX10_decide 66 = .ok (.ior, 1) := by decide +kernel
theorem dX10_decide_67 : decode cX10_decide 67 = .ok (.iload 4, 2) := by decide +kernel
theorem dX10_decide_69 : decode cX10_decide 69 = .ok (.aload_n 0, 1) := by decide +kernel
theorem dX10_decide_70 : decode cX10_decide 70 = .ok (.getfield 15, 3) := by decide +kernel
theorem dX10_decide_73 : decode cX10_decide 73 = .ok (.iload 7, 2) := by decide +kernel
theorem dX10_decide_75 : decode cX10_decide 75 = .ok (.iaload, 1) := by decide +kernel
theorem dX10_decide_76 : decode cX10_decide 76 = .ok (.iadd, 1) := by decide +kernel
theorem dX10_decide_77 : decode cX10_decide 77 = .ok (.iload 5, 2) := by decide +kernel
theorem dX10_decide_79 : decode cX10_decide 79 = .ok (.iconst 3, 1) := by decide +kernel
theorem dX10_decide_80 : decode cX10_decide 80 = .ok (.imul, 1) := by decide +kernel
theorem dX10_decide_81 : decode cX10_decide 81 = .ok (.invokevirtual 75, 3) := by decide +kernel
theorem dX10_decide_84 : decode cX10_decide 84 = .ok (.aload_n 0, 1) := by decide +kernel
theorem dX10_decide_85 : decode cX10_decide 85 = .ok (.iload_n 1, 1) := by decide +kernel
theorem dX10_decide_86 : decode cX10_decide 86 = .ok (.iconst 1, 1) := by decide +kernel
theorem dX10_decide_87 : decode cX10_decide 87 = .ok (.isub, 1) := by decide +kernel
theorem dX10_decide_88 : decode cX10_decide 88 = .ok (.iload_n 2, 1) := by decide +kernel
theorem dX10_decide_89 : decode cX10_decide 89 = .ok (.iload_n 3, 1) := by decide +kernel
theorem dX10_decide_90 : decode cX10_decide 90 = .ok (.iload 6, 2) := by decide +kernel
theorem dX10_decide_92 : decode cX10_decide 92 = .ok (.ior, 1) := by decide +kernel
theorem dX10_decide_93 : decode cX10_decide 93 = .ok (.iload 4, 2) := by decide +kernel
theorem dX10_decide_95 : decode cX10_decide 95 = .ok (.aload_n 0, 1) := by decide +kernel
theorem dX10_decide_96 : decode cX10_decide 96 = .ok (.getfield 15, 3) := by decide +kernel
theorem dX10_decide_99 : decode cX10_decide 99 = .ok (.iload 7, 2) := by decide +kernel
theorem dX10_decide_101 : decode cX10_decide 101 = .ok (.iconst 1, 1) := by decide +kernel
theorem dX10_decide_102 : decode cX10_decide 102 = .ok (.iadd, 1) := by decide +kernel
theorem dX10_decide_103 : decode cX10_decide 103 = .ok (.iaload, 1) := by decide +kernel
theorem dX10_decide_104 : decode cX10_decide 104 = .ok (.iadd, 1) := by decide +kernel
theorem dX10_decide_105 : decode cX10_decide 105 = .ok (.iload 5, 2) := by decide +kernel
theorem dX10_decide_107 : decode cX10_decide 107 = .ok (.iconst 3, 1) := by decide +kernel
theorem dX10_decide_108 : decode cX10_decide 108 = .ok (.imul, 1) := by decide +kernel
theorem dX10_decide_109 : decode cX10_decide 109 = .ok (.iconst 1, 1) := by decide +kernel
theorem dX10_decide_110 : decode cX10_decide 110 = .ok (.iadd, 1) := by decide +kernel
theorem dX10_decide_111 : decode cX10_decide 111 = .ok (.invokevirtual 75, 3) := by decide +kernel
theorem dX10_decide_114 : decode cX10_decide 114 = .ok (.aload_n 0, 1) := by decide +kernel
theorem dX10_decide_115 : decode cX10_decide 115 = .ok (.iload_n 1, 1) := by decide +kernel
theorem dX10_decide_116 : decode cX10_decide 116 = .ok (.iconst 1, 1) := by decide +kernel
theorem dX10_decide_117 : decode cX10_decide 117 = .ok (.isub, 1) := by decide +kernel
theorem dX10_decide_118 : decode cX10_decide 118 = .ok (.iload_n 2, 1) := by decide +kernel
theorem dX10_decide_119 : decode cX10_decide 119 = .ok (.iload_n 3, 1) := by decide +kernel
theorem dX10_decide_120 : decode cX10_decide 120 = .ok (.iload 4, 2) := by decide +kernel
theorem dX10_decide_122 : decode cX10_decide 122 = .ok (.aload_n 0, 1) := by decide +kernel
theorem dX10_decide_123 : decode cX10_decide 123 = .ok (.getfield 15, 3) := by decide +kernel
theorem dX10_decide_126 : decode cX10_decide 126 = .ok (.iload 7, 2) := by decide +kernel
theorem dX10_decide_128 : decode cX10_decide 128 = .ok (.iconst 2, 1) := by decide +kernel
theorem dX10_decide_129 : decode cX10_decide 129 = .ok (.iadd, 1) := by decide +kernel
theorem dX10_decide_130 : decode cX10_decide 130 = .ok (.iaload, 1) := by decide +kernel
theorem dX10_decide_131 : decode cX10_decide 131 = .ok (.iadd, 1) := by decide +kernel
theorem dX10_decide_132 : decode cX10_decide 132 = .ok (.iload 5, 2) := by decide +kernel
theorem dX10_decide_134 : decode cX10_decide 134 = .ok (.iconst 3, 1) := by decide +kernel
theorem dX10_decide_135 : decode cX10_decide 135 = .ok (.imul, 1) := by decide +kernel
theorem dX10_decide_136 : decode cX10_decide 136 = .ok (.iconst 2, 1) := by decide +kernel
theorem dX10_decide_137 : decode cX10_decide 137 = .ok (.iadd, 1) := by decide +kernel
theorem dX10_decide_138 : decode cX10_decide 138 = .ok (.invokevirtual 75, 3) := by decide +kernel
theorem dX10_decide_141 : decode cX10_decide 141 = .ok (.return_, 1) := by decide +kernel
theorem dX10_weigh_0 : decode cX10_weigh 0 = .ok (.iload_n 1, 1) := by decide +kernel
theorem dX10_weigh_1 : decode cX10_weigh 1 = .ok (.iconst 0, 1) := by decide +kernel
theorem dX10_weigh_2 : decode cX10_weigh 2 = .ok (.aload_n 0, 1) := by decide +kernel
theorem dX10_weigh_3 : decode cX10_weigh 3 = .ok (.getfield 24, 3) := by decide +kernel
theorem dX10_weigh_6 : decode cX10_weigh 6 = .ok (.arraylength, 1) := by decide +kernel
theorem dX10_weigh_7 : decode cX10_weigh 7 = .ok (.iconst 1, 1) := by decide +kernel
theorem dX10_weigh_8 : decode cX10_weigh 8 = .ok (.isub, 1) := by decide +kernel
theorem dX10_weigh_9 : decode cX10_weigh 9 = .ok (.invokestatic 40, 3) := by decide +kernel
theorem dX10_weigh_12 : decode cX10_weigh 12 = .ok (.ifCond .eq 22, 3) := by decide +kernel
theorem dX10_weigh_15 : decode cX10_weigh 15 = .ok (.iload_n 2, 1) := by decide +kernel
theorem dX10_weigh_16 : decode cX10_weigh 16 = .ok (.iconst 0, 1) := by decide +kernel
theorem dX10_weigh_17 : decode cX10_weigh 17 = .ok (.aload_n 0, 1) := by decide +kernel
theorem dX10_weigh_18 : decode cX10_weigh 18 = .ok (.getfield 24, 3) := by decide +kernel
theorem dX10_weigh_21 : decode cX10_weigh 21 = .ok (.arraylength, 1) := by decide +kernel
theorem dX10_weigh_22 : decode cX10_weigh 22 = .ok (.iconst 1, 1) := by decide +kernel
theorem dX10_weigh_23 : decode cX10_weigh 23 = .ok (.isub, 1) := by decide +kernel
theorem dX10_weigh_24 : decode cX10_weigh 24 = .ok (.invokestatic 40, 3) := by decide +kernel
theorem dX10_weigh_27 : decode cX10_weigh 27 = .ok (.ifCond .eq 7, 3) := by decide +kernel
theorem dX10_weigh_30 : decode cX10_weigh 30 = .ok (.iconst 1, 1) := by decide +kernel
theorem dX10_weigh_31 : decode cX10_weigh 31 = .ok (.goto 4, 3) := by decide +kernel
theorem dX10_weigh_34 : decode cX10_weigh 34 = .ok (.iconst 0, 1) := by decide +kernel
theorem dX10_weigh_35 : decode cX10_weigh 35 = .ok (.istore 5, 2) := by decide +kernel
theorem dX10_weigh_37 : decode cX10_weigh 37 = .ok (.iload 5, 2) := by decide +kernel
theorem dX10_weigh_39 : decode cX10_weigh 39 = .ok (.ifCond .eq 16, 3) := by decide +kernel
theorem dX10_weigh_42 : decode cX10_weigh 42 = .ok (.aload_n 0, 1) := by decide +kernel
theorem dX10_weigh_43 : decode cX10_weigh 43 = .ok (.getfield 24, 3) := by decide +kernel
theorem dX10_weigh_46 : decode cX10_weigh 46 = .ok (.iload_n 2, 1) := by decide +kernel
theorem dX10_weigh_47 : decode cX10_weigh 47 = .ok (.iaload, 1) := by decide +kernel
theorem dX10_weigh_48 : decode cX10_weigh 48 = .ok (.aload_n 0, 1) := by decide +kernel
theorem dX10_weigh_49 : decode cX10_weigh 49 = .ok (.getfield 48, 3) := by decide +kernel
theorem dX10_weigh_52 : decode cX10_weigh 52 = .ok (.if_icmp .ge 4, 3) := by decide +kernel
theorem dX10_weigh_55 : decode cX10_weigh 55 = .ok (.return_, 1) := by decide +kernel
theorem dX10_weigh_56 : decode cX10_weigh 56 = .ok (.aload_n 0, 1) := by decide +kernel
theorem dX10_weigh_57 : decode cX10_weigh 57 = .ok (.getfield 48, 3) := by decide +kernel
theorem dX10_weigh_60 : decode cX10_weigh 60 = .ok (.aload_n 0, 1) := by decide +kernel
theorem dX10_weigh_61 : decode cX10_weigh 61 = .ok (.getfield 24, 3) := by decide +kernel
theorem dX10_weigh_64 : decode cX10_weigh 64 = .ok (.iload_n 1, 1) := by decide +kernel
theorem dX10_weigh_65 : decode cX10_weigh 65 = .ok (.iaload, 1) := by decide +kernel
theorem dX10_weigh_66 : decode cX10_weigh 66 = .ok (.isub, 1) := by decide +kernel
theorem dX10_weigh_67 : decode cX10_weigh 67 = .ok (.istore 6, 2) := by decide +kernel
theorem dX10_weigh_69 : decode cX10_weigh 69 = .ok (.iload 6, 2) := by decide +kernel
theorem dX10_weigh_71 : decode cX10_weigh 71 = .ok (.ifCond .lt 52, 3) := by decide +kernel
theorem dX10_weigh_74 : decode cX10_weigh 74 = .ok (.iload 6, 2) := by decide +kernel
theorem dX10_weigh_76 : decode cX10_weigh 76 = .ok (.aload_n 0, 1) := by decide +kernel
theorem dX10_weigh_77 : decode cX10_weigh 77 = .ok (.getfield 30, 3) := by decide +kernel
theorem dX10_weigh_80 : decode cX10_weigh 80 = .ok (.arraylength, 1) := by decide +kernel
theorem dX10_weigh_81 : decode cX10_weigh 81 = .ok (.if_icmp .ge 42, 3) := by decide +kernel
theorem dX10_weigh_84 : decode cX10_weigh 84 = .ok (.aload_n 0, 1) := by decide +kernel
theorem dX10_weigh_85 : decode cX10_weigh 85 = .ok (.getfield 30, 3) := by decide +kernel
theorem dX10_weigh_88 : decode cX10_weigh 88 = .ok (.iload 6, 2) := by decide +kernel
theorem dX10_weigh_90 : decode cX10_weigh 90 = .ok (.iaload, 1) := by decide +kernel
theorem dX10_weigh_91 : decode cX10_weigh 91 = .ok (.iconst (-1), 1) := by decide +kernel
theorem dX10_weigh_92 : decode cX10_weigh 92 = .ok (.if_icmp .eq 14, 3) := by decide +kernel
theorem dX10_weigh_95 : decode cX10_weigh 95 = .ok (.iload_n 3, 1) := by decide +kernel
theorem dX10_weigh_96 : decode cX10_weigh 96 = .ok (.aload_n 0, 1) := by decide +kernel
theorem dX10_weigh_97 : decode cX10_weigh 97 = .ok (.getfield 30, 3) := by decide +kernel
theorem dX10_weigh_100 : decode cX10_weigh 100 = .ok (.iload 6, 2) := by decide +kernel
theorem dX10_weigh_102 : decode cX10_weigh 102 = .ok (.iaload, 1) := by decide +kernel
theorem dX10_weigh_103 : decode cX10_weigh 103 = .ok (.if_icmp .ge 20, 3) := by decide +kernel
theorem dX10_weigh_106 : decode cX10_weigh 106 = .ok (.aload_n 0, 1) := by decide +kernel
theorem dX10_weigh_107 : decode cX10_weigh 107 = .ok (.getfield 30, 3) := by decide +kernel
theorem dX10_weigh_110 : decode cX10_weigh 110 = .ok (.iload 6, 2) := by decide +kernel
theorem dX10_weigh_112 : decode cX10_weigh 112 = .ok (.iload_n 3, 1) := by decide +kernel
theorem dX10_weigh_113 : decode cX10_weigh 113 = .ok (.iastore, 1) := by decide +kernel
theorem dX10_weigh_114 : decode cX10_weigh 114 = .ok (.aload_n 0, 1) := by decide +kernel
theorem dX10_weigh_115 : decode cX10_weigh 115 = .ok (.getfield 33, 3) := by decide +kernel
theorem dX10_weigh_118 : decode cX10_weigh 118 = .ok (.iload 6, 2) := by decide +kernel
theorem dX10_weigh_120 : decode cX10_weigh 120 = .ok (.iload 4, 2) := by decide +kernel
theorem dX10_weigh_122 : decode cX10_weigh 122 = .ok (.iastore, 1) := by decide +kernel
theorem dX10_weigh_123 : decode cX10_weigh 123 = .ok (.return_, 1) := by decide +kernel
theorem dX10_tripsBy_0 : decode cX10_tripsBy 0 = .ok (.iconst 0, 1) := by decide +kernel
theorem dX10_tripsBy_1 : decode cX10_tripsBy 1 = .ok (.istore_n 2, 1) := by decide +kernel
theorem dX10_tripsBy_2 : decode cX10_tripsBy 2 = .ok (.iload_n 2, 1) := by decide +kernel
theorem dX10_tripsBy_3 : decode cX10_tripsBy 3 = .ok (.bipush 8, 2) := by decide +kernel
theorem dX10_tripsBy_5 : decode cX10_tripsBy 5 = .ok (.if_icmp .ge 18, 3) := by decide +kernel
theorem dX10_tripsBy_8 : decode cX10_tripsBy 8 = .ok (.aload_n 0, 1) := by decide +kernel
theorem dX10_tripsBy_9 : decode cX10_tripsBy 9 = .ok (.getfield 27, 3) := by decide +kernel
theorem dX10_tripsBy_12 : decode cX10_tripsBy 12 = .ok (.iload_n 2, 1) := by decide +kernel
theorem dX10_tripsBy_13 : decode cX10_tripsBy 13 = .ok (.iconst 1, 1) := by decide +kernel
theorem dX10_tripsBy_14 : decode cX10_tripsBy 14 = .ok (.iload_n 2, 1) := by decide +kernel
theorem dX10_tripsBy_15 : decode cX10_tripsBy 15 = .ok (.ishl, 1) := by decide +kernel
theorem dX10_tripsBy_16 : decode cX10_tripsBy 16 = .ok (.iastore, 1) := by decide +kernel
theorem dX10_tripsBy_17 : decode cX10_tripsBy 17 = .ok (.iinc 2 1, 3) := by decide +kernel
theorem dX10_tripsBy_20 : decode cX10_tripsBy 20 = .ok (.goto (-18), 3) := by decide +kernel
theorem dX10_tripsBy_23 : decode cX10_tripsBy 23 = .ok (.iconst 0, 1) := by decide +kernel
theorem dX10_tripsBy_24 : decode cX10_tripsBy 24 = .ok (.istore_n 2, 1) := by decide +kernel
theorem dX10_tripsBy_25 : decode cX10_tripsBy 25 = .ok (.iload_n 2, 1) := by decide +kernel
theorem dX10_tripsBy_26 : decode cX10_tripsBy 26 = .ok (.bipush 8, 2) := by decide +kernel
theorem dX10_tripsBy_28 : decode cX10_tripsBy 28 = .ok (.if_icmp .ge 39, 3) := by decide +kernel
theorem dX10_tripsBy_31 : decode cX10_tripsBy 31 = .ok (.iload_n 1, 1) := by decide +kernel
theorem dX10_tripsBy_32 : decode cX10_tripsBy 32 = .ok (.iload_n 2, 1) := by decide +kernel
theorem dX10_tripsBy_33 : decode cX10_tripsBy 33 = .ok (.ishr, 1) := by decide +kernel
theorem dX10_tripsBy_34 : decode cX10_tripsBy 34 = .ok (.iconst 1, 1) := by decide +kernel
theorem dX10_tripsBy_35 : decode cX10_tripsBy 35 = .ok (.iand, 1) := by decide +kernel
theorem dX10_tripsBy_36 : decode cX10_tripsBy 36 = .ok (.ifCond .eq 25, 3) := by decide +kernel
theorem dX10_tripsBy_39 : decode cX10_tripsBy 39 = .ok (.aload_n 0, 1) := by decide +kernel
theorem dX10_tripsBy_40 : decode cX10_tripsBy 40 = .ok (.aload_n 0, 1) := by decide +kernel
theorem dX10_tripsBy_41 : decode cX10_tripsBy 41 = .ok (.getfield 11, 3) := by decide +kernel
theorem dX10_tripsBy_44 : decode cX10_tripsBy 44 = .ok (.iload_n 2, 1) := by decide +kernel
theorem dX10_tripsBy_45 : decode cX10_tripsBy 45 = .ok (.iconst 2, 1) := by decide +kernel
theorem dX10_tripsBy_46 : decode cX10_tripsBy 46 = .ok (.imul, 1) := by decide +kernel
theorem dX10_tripsBy_47 : decode cX10_tripsBy 47 = .ok (.iaload, 1) := by decide +kernel
theorem dX10_tripsBy_48 : decode cX10_tripsBy 48 = .ok (.aload_n 0, 1) := by decide +kernel
theorem dX10_tripsBy_49 : decode cX10_tripsBy 49 = .ok (.getfield 11, 3) := by decide +kernel
theorem dX10_tripsBy_52 : decode cX10_tripsBy 52 = .ok (.iload_n 2, 1) := by decide +kernel
theorem dX10_tripsBy_53 : decode cX10_tripsBy 53 = .ok (.iconst 2, 1) := by decide +kernel
theorem dX10_tripsBy_54 : decode cX10_tripsBy 54 = .ok (.imul, 1) := by decide +kernel
theorem dX10_tripsBy_55 : decode cX10_tripsBy 55 = .ok (.iconst 1, 1) := by decide +kernel
theorem dX10_tripsBy_56 : decode cX10_tripsBy 56 = .ok (.iadd, 1) := by decide +kernel
theorem dX10_tripsBy_57 : decode cX10_tripsBy 57 = .ok (.iaload, 1) := by decide +kernel
theorem dX10_tripsBy_58 : decode cX10_tripsBy 58 = .ok (.invokevirtual 83, 3) := by decide +kernel
theorem dX10_tripsBy_61 : decode cX10_tripsBy 61 = .ok (.iinc 2 1, 3) := by decide +kernel
theorem dX10_tripsBy_64 : decode cX10_tripsBy 64 = .ok (.goto (-39), 3) := by decide +kernel
theorem dX10_tripsBy_67 : decode cX10_tripsBy 67 = .ok (.iconst 0, 1) := by decide +kernel
theorem dX10_tripsBy_68 : decode cX10_tripsBy 68 = .ok (.istore_n 2, 1) := by decide +kernel
theorem dX10_tripsBy_69 : decode cX10_tripsBy 69 = .ok (.iconst 0, 1) := by decide +kernel
theorem dX10_tripsBy_70 : decode cX10_tripsBy 70 = .ok (.istore_n 3, 1) := by decide +kernel
theorem dX10_tripsBy_71 : decode cX10_tripsBy 71 = .ok (.iload_n 3, 1) := by decide +kernel
theorem dX10_tripsBy_72 : decode cX10_tripsBy 72 = .ok (.aload_n 0, 1) := by decide +kernel
theorem dX10_tripsBy_73 : decode cX10_tripsBy 73 = .ok (.getfield 48, 3) := by decide +kernel
theorem dX10_tripsBy_76 : decode cX10_tripsBy 76 = .ok (.if_icmp .ge 40, 3) := by decide +kernel
theorem dX10_tripsBy_79 : decode cX10_tripsBy 79 = .ok (.iload_n 3, 1) := by decide +kernel
theorem dX10_tripsBy_80 : decode cX10_tripsBy 80 = .ok (.bipush 8, 2) := by decide +kernel
theorem dX10_tripsBy_82 : decode cX10_tripsBy 82 = .ok (.if_icmp .ge 34, 3) := by decide +kernel
theorem dX10_tripsBy_85 : decode cX10_tripsBy 85 = .ok (.aload_n 0, 1) := by decide +kernel
theorem dX10_tripsBy_86 : decode cX10_tripsBy 86 = .ok (.aload_n 0, 1) := by decide +kernel
theorem dX10_tripsBy_87 : decode cX10_tripsBy 87 = .ok (.getfield 18, 3) := by decide +kernel
theorem dX10_tripsBy_90 : decode cX10_tripsBy 90 = .ok (.iload_n 3, 1) := by decide +kernel
theorem dX10_tripsBy_91 : decode cX10_tripsBy 91 = .ok (.iaload, 1) := by decide +kernel
theorem dX10_tripsBy_92 : decode cX10_tripsBy 92 = .ok (.invokevirtual 87, 3) := by decide +kernel
theorem dX10_tripsBy_95 : decode cX10_tripsBy 95 = .ok (.aload_n 0, 1) := by decide +kernel
theorem dX10_tripsBy_96 : decode cX10_tripsBy 96 = .ok (.getfield 21, 3) := by decide +kernel
theorem dX10_tripsBy_99 : decode cX10_tripsBy 99 = .ok (.iload_n 3, 1) := by decide +kernel
theorem dX10_tripsBy_100 : decode cX10_tripsBy 100 = .ok (.iaload, 1) := by decide +kernel
theorem dX10_tripsBy_101 : decode cX10_tripsBy 101 = .ok (.ishr, 1) := by decide +kernel
theorem dX10_tripsBy_102 : decode cX10_tripsBy 102 = .ok (.iconst 1, 1) := by decide +kernel
theorem dX10_tripsBy_103 : decode cX10_tripsBy 103 = .ok (.iand, 1) := by decide +kernel
theorem dX10_tripsBy_104 : decode cX10_tripsBy 104 = .ok (.ifCond .eq 6, 3) := by decide +kernel
theorem dX10_tripsBy_107 : decode cX10_tripsBy 107 = .ok (.iinc 2 1, 3) := by decide +kernel
theorem dX10_tripsBy_110 : decode cX10_tripsBy 110 = .ok (.iinc 3 1, 3) := by decide +kernel
theorem dX10_tripsBy_113 : decode cX10_tripsBy 113 = .ok (.goto (-42), 3) := by decide +kernel
theorem dX10_tripsBy_116 : decode cX10_tripsBy 116 = .ok (.iload_n 2, 1) := by decide +kernel
theorem dX10_tripsBy_117 : decode cX10_tripsBy 117 = .ok (.ireturn, 1) := by decide +kernel
theorem dX10_join_0 : decode cX10_join 0 = .ok (.aload_n 0, 1) := by decide +kernel
theorem dX10_join_1 : decode cX10_join 1 = .ok (.iload_n 1, 1) := by decide +kernel
theorem dX10_join_2 : decode cX10_join 2 = .ok (.invokevirtual 87, 3) := by decide +kernel
theorem dX10_join_5 : decode cX10_join 5 = .ok (.aload_n 0, 1) := by decide +kernel
theorem dX10_join_6 : decode cX10_join 6 = .ok (.iload_n 2, 1) := by decide +kernel
theorem dX10_join_7 : decode cX10_join 7 = .ok (.invokevirtual 87, 3) := by decide +kernel
theorem dX10_join_10 : decode cX10_join 10 = .ok (.ior, 1) := by decide +kernel
theorem dX10_join_11 : decode cX10_join 11 = .ok (.istore_n 3, 1) := by decide +kernel
theorem dX10_join_12 : decode cX10_join 12 = .ok (.iconst 0, 1) := by decide +kernel
theorem dX10_join_13 : decode cX10_join 13 = .ok (.istore 4, 2) := by decide +kernel
theorem dX10_join_15 : decode cX10_join 15 = .ok (.iload 4, 2) := by decide +kernel
theorem dX10_join_17 : decode cX10_join 17 = .ok (.bipush 8, 2) := by decide +kernel
theorem dX10_join_19 : decode cX10_join 19 = .ok (.if_icmp .ge 26, 3) := by decide +kernel
theorem dX10_join_22 : decode cX10_join 22 = .ok (.iload_n 3, 1) := by decide +kernel
theorem dX10_join_23 : decode cX10_join 23 = .ok (.iload 4, 2) := by decide +kernel
theorem dX10_join_25 : decode cX10_join 25 = .ok (.ishr, 1) := by decide +kernel
theorem dX10_join_26 : decode cX10_join 26 = .ok (.iconst 1, 1) := by decide +kernel
theorem dX10_join_27 : decode cX10_join 27 = .ok (.iand, 1) := by decide +kernel
theorem dX10_join_28 : decode cX10_join 28 = .ok (.ifCond .eq 11, 3) := by decide +kernel
theorem dX10_join_31 : decode cX10_join 31 = .ok (.aload_n 0, 1) := by decide +kernel
theorem dX10_join_32 : decode cX10_join 32 = .ok (.getfield 27, 3) := by decide +kernel
theorem dX10_join_35 : decode cX10_join 35 = .ok (.iload 4, 2) := by decide +kernel
theorem dX10_join_37 : decode cX10_join 37 = .ok (.iload_n 3, 1) := by decide +kernel
theorem dX10_join_38 : decode cX10_join 38 = .ok (.iastore, 1) := by decide +kernel
theorem dX10_join_39 : decode cX10_join 39 = .ok (.iinc 4 1, 3) := by decide +kernel
theorem dX10_join_42 : decode cX10_join 42 = .ok (.goto (-27), 3) := by decide +kernel
theorem dX10_join_45 : decode cX10_join 45 = .ok (.return_, 1) := by decide +kernel
theorem dX10_groupOf_0 : decode cX10_groupOf 0 = .ok (.iload_n 1, 1) := by decide +kernel
theorem dX10_groupOf_1 : decode cX10_groupOf 1 = .ok (.ifCond .lt 18, 3) := by decide +kernel
theorem dX10_groupOf_4 : decode cX10_groupOf 4 = .ok (.iload_n 1, 1) := by decide +kernel
theorem dX10_groupOf_5 : decode cX10_groupOf 5 = .ok (.bipush 8, 2) := by decide +kernel
theorem dX10_groupOf_7 : decode cX10_groupOf 7 = .ok (.if_icmp .ge 12, 3) := by decide +kernel
theorem dX10_groupOf_10 : decode cX10_groupOf 10 = .ok (.aload_n 0, 1) := by decide +kernel
theorem dX10_groupOf_11 : decode cX10_groupOf 11 = .ok (.getfield 27, 3) := by decide +kernel
theorem dX10_groupOf_14 : decode cX10_groupOf 14 = .ok (.iload_n 1, 1) := by decide +kernel
theorem dX10_groupOf_15 : decode cX10_groupOf 15 = .ok (.iaload, 1) := by decide +kernel
theorem dX10_groupOf_16 : decode cX10_groupOf 16 = .ok (.goto 4, 3) := by decide +kernel
theorem dX10_groupOf_19 : decode cX10_groupOf 19 = .ok (.iconst 0, 1) := by decide +kernel
theorem dX10_groupOf_20 : decode cX10_groupOf 20 = .ok (.ireturn, 1) := by decide +kernel
theorem dX10_isTold_0 : decode cX10_isTold 0 = .ok (.iload_n 1, 1) := by decide +kernel
theorem dX10_isTold_1 : decode cX10_isTold 1 = .ok (.ifCond .lt 24, 3) := by decide +kernel
theorem dX10_isTold_4 : decode cX10_isTold 4 = .ok (.iload_n 1, 1) := by decide +kernel
theorem dX10_isTold_5 : decode cX10_isTold 5 = .ok (.bipush 8, 2) := by decide +kernel
theorem dX10_isTold_7 : decode cX10_isTold 7 = .ok (.if_icmp .ge 18, 3) := by decide +kernel
theorem dX10_isTold_10 : decode cX10_isTold 10 = .ok (.aload_n 0, 1) := by decide +kernel
theorem dX10_isTold_11 : decode cX10_isTold 11 = .ok (.getfield 44, 3) := by decide +kernel
theorem dX10_isTold_14 : decode cX10_isTold 14 = .ok (.iload_n 1, 1) := by decide +kernel
theorem dX10_isTold_15 : decode cX10_isTold 15 = .ok (.ishr, 1) := by decide +kernel
theorem dX10_isTold_16 : decode cX10_isTold 16 = .ok (.iconst 1, 1) := by decide +kernel
theorem dX10_isTold_17 : decode cX10_isTold 17 = .ok (.iand, 1) := by decide +kernel
theorem dX10_isTold_18 : decode cX10_isTold 18 = .ok (.ifCond .eq 7, 3) := by decide +kernel
theorem dX10_isTold_21 : decode cX10_isTold 21 = .ok (.iconst 1, 1) := by decide +kernel
theorem dX10_isTold_22 : decode cX10_isTold 22 = .ok (.goto 4, 3) := by decide +kernel
theorem dX10_isTold_25 : decode cX10_isTold 25 = .ok (.iconst 0, 1) := by decide +kernel
theorem dX10_isTold_26 : decode cX10_isTold 26 = .ok (.ireturn, 1) := by decide +kernel
theorem dX11_init_0 : decode cX11_init 0 = .ok (.aload_n 0, 1) := by decide +kernel
theorem dX11_init_1 : decode cX11_init 1 = .ok (.invokespecial 1, 3) := by decide +kernel
theorem dX11_init_4 : decode cX11_init 4 = .ok (.aload_n 0, 1) := by decide +kernel
theorem dX11_init_5 : decode cX11_init 5 = .ok (.bipush 40, 2) := by decide +kernel
theorem dX11_init_7 : decode cX11_init 7 = .ok (.anewarray 9, 3) := by decide +kernel
theorem dX11_init_10 : decode cX11_init 10 = .ok (.putfield 11, 3) := by decide +kernel
theorem dX11_init_13 : decode cX11_init 13 = .ok (.aload_n 0, 1) := by decide +kernel
theorem dX11_init_14 : decode cX11_init 14 = .ok (.new 15, 3) := by decide +kernel
theorem dX11_init_17 : decode cX11_init 17 = .ok (.dup, 1) := by decide +kernel
theorem dX11_init_18 : decode cX11_init 18 = .ok (.invokespecial 17, 3) := by decide +kernel
theorem dX11_init_21 : decode cX11_init 21 = .ok (.putfield 18, 3) := by decide +kernel
theorem dX11_init_24 : decode cX11_init 24 = .ok (.aload_n 0, 1) := by decide +kernel
theorem dX11_init_25 : decode cX11_init 25 = .ok (.new 22, 3) := by decide +kernel
theorem dX11_init_28 : decode cX11_init 28 = .ok (.dup, 1) := by decide +kernel
theorem dX11_init_29 : decode cX11_init 29 = .ok (.invokespecial 24, 3) := by decide +kernel
theorem dX11_init_32 : decode cX11_init 32 = .ok (.putfield 25, 3) := by decide +kernel
theorem dX11_init_35 : decode cX11_init 35 = .ok (.aload_n 0, 1) := by decide +kernel
theorem dX11_init_36 : decode cX11_init 36 = .ok (.new 29, 3) := by decide +kernel
theorem dX11_init_39 : decode cX11_init 39 = .ok (.dup, 1) := by decide +kernel
theorem dX11_init_40 : decode cX11_init 40 = .ok (.invokespecial 31, 3) := by decide +kernel
theorem dX11_init_43 : decode cX11_init 43 = .ok (.putfield 32, 3) := by decide +kernel
theorem dX11_init_46 : decode cX11_init 46 = .ok (.aload_n 0, 1) := by decide +kernel
theorem dX11_init_47 : decode cX11_init 47 = .ok (.new 36, 3) := by decide +kernel
theorem dX11_init_50 : decode cX11_init 50 = .ok (.dup, 1) := by decide +kernel
theorem dX11_init_51 : decode cX11_init 51 = .ok (.invokespecial 38, 3) := by decide +kernel
theorem dX11_init_54 : decode cX11_init 54 = .ok (.putfield 39, 3) := by decide +kernel
theorem dX11_init_57 : decode cX11_init 57 = .ok (.aload_n 0, 1) := by decide +kernel
theorem dX11_init_58 : decode cX11_init 58 = .ok (.new 43, 3) := by decide +kernel
theorem dX11_init_61 : decode cX11_init 61 = .ok (.dup, 1) := by decide +kernel
theorem dX11_init_62 : decode cX11_init 62 = .ok (.invokespecial 45, 3) := by decide +kernel
theorem dX11_init_65 : decode cX11_init 65 = .ok (.putfield 46, 3) := by decide +kernel
theorem dX11_init_68 : decode cX11_init 68 = .ok (.aload_n 0, 1) := by decide +kernel
theorem dX11_init_69 : decode cX11_init 69 = .ok (.new 50, 3) := by decide +kernel
theorem dX11_init_72 : decode cX11_init 72 = .ok (.dup, 1) := by decide +kernel
theorem dX11_init_73 : decode cX11_init 73 = .ok (.invokespecial 52, 3) := by decide +kernel
theorem dX11_init_76 : decode cX11_init 76 = .ok (.putfield 53, 3) := by decide +kernel
theorem dX11_init_79 : decode cX11_init 79 = .ok (.aload_n 0, 1) := by decide +kernel
theorem dX11_init_80 : decode cX11_init 80 = .ok (.new 57, 3) := by decide +kernel
theorem dX11_init_83 : decode cX11_init 83 = .ok (.dup, 1) := by decide +kernel
theorem dX11_init_84 : decode cX11_init 84 = .ok (.invokespecial 59, 3) := by decide +kernel
theorem dX11_init_87 : decode cX11_init 87 = .ok (.putfield 60, 3) := by decide +kernel
theorem dX11_init_90 : decode cX11_init 90 = .ok (.aload_n 0, 1) := by decide +kernel
theorem dX11_init_91 : decode cX11_init 91 = .ok (.new 64, 3) := by decide +kernel
theorem dX11_init_94 : decode cX11_init 94 = .ok (.dup, 1) := by decide +kernel
theorem dX11_init_95 : decode cX11_init 95 = .ok (.invokespecial 66, 3) := by decide +kernel
theorem dX11_init_98 : decode cX11_init 98 = .ok (.putfield 67, 3) := by decide +kernel
theorem dX11_init_101 : decode cX11_init 101 = .ok (.aload_n 0, 1) := by decide +kernel
theorem dX11_init_102 : decode cX11_init 102 = .ok (.new 71, 3) := by decide +kernel
theorem dX11_init_105 : decode cX11_init 105 = .ok (.dup, 1) := by decide +kernel
theorem dX11_init_106 : decode cX11_init 106 = .ok (.invokespecial 73, 3) := by decide +kernel
theorem dX11_init_109 : decode cX11_init 109 = .ok (.putfield 74, 3) := by decide +kernel
theorem dX11_init_112 : decode cX11_init 112 = .ok (.aload_n 0, 1) := by decide +kernel
theorem dX11_init_113 : decode cX11_init 113 = .ok (.iconst (-1), 1) := by decide +kernel
theorem dX11_init_114 : decode cX11_init 114 = .ok (.putfield 78, 3) := by decide +kernel
theorem dX11_init_117 : decode cX11_init 117 = .ok (.return_, 1) := by decide +kernel
theorem dX11_years_0 : decode cX11_years 0 = .ok (.iload_n 1, 1) := by decide +kernel
theorem dX11_years_1 : decode cX11_years 1 = .ok (.iconst 0, 1) := by decide +kernel
theorem dX11_years_2 : decode cX11_years 2 = .ok (.bipush 30, 2) := by decide +kernel
theorem dX11_years_4 : decode cX11_years 4 = .ok (.invokestatic 82, 3) := by decide +kernel
theorem dX11_years_7 : decode cX11_years 7 = .ok (.ifCond .eq 14, 3) := by decide +kernel
theorem dX11_years_10 : decode cX11_years 10 = .ok (.aload_n 0, 1) := by decide +kernel
theorem dX11_years_11 : decode cX11_years 11 = .ok (.getfield 86, 3) := by decide +kernel
theorem dX11_years_14 : decode cX11_years 14 = .ok (.iload_n 1, 1) := by decide +kernel
theorem dX11_years_15 : decode cX11_years 15 = .ok (.iadd, 1) := by decide +kernel
theorem dX11_years_16 : decode cX11_years 16 = .ok (.bipush 30, 2) := by decide +kernel
theorem dX11_years_18 : decode cX11_years 18 = .ok (.if_icmp .le 5, 3) := by decide +kernel
theorem dX11_years_21 : decode cX11_years 21 = .ok (.iconst (-1), 1) := by decide +kernel
theorem dX11_years_22 : decode cX11_years 22 = .ok (.ireturn, 1) := by decide +kernel
theorem dX11_years_23 : decode cX11_years 23 = .ok (.aload_n 0, 1) := by decide +kernel
theorem dX11_years_24 : decode cX11_years 24 = .ok (.dup, 1) := by decide +kernel
theorem dX11_years_25 : decode cX11_years 25 = .ok (.getfield 86, 3) := by decide +kernel
theorem dX11_years_28 : decode cX11_years 28 = .ok (.iload_n 1, 1) := by decide +kernel
theorem dX11_years_29 : decode cX11_years 29 = .ok (.iadd, 1) := by decide +kernel
theorem dX11_years_30 : decode cX11_years 30 = .ok (.putfield 86, 3) := by decide +kernel
theorem dX11_years_33 : decode cX11_years 33 = .ok (.aload_n 0, 1) := by decide +kernel
theorem dX11_years_34 : decode cX11_years 34 = .ok (.getfield 86, 3) := by decide +kernel
theorem dX11_years_37 : decode cX11_years 37 = .ok (.ireturn, 1) := by decide +kernel
theorem dX11_view_0 : decode cX11_view 0 = .ok (.iload_n 1, 1) := by decide +kernel
theorem dX11_view_1 : decode cX11_view 1 = .ok (.iconst 0, 1) := by decide +kernel
theorem dX11_view_2 : decode cX11_view 2 = .ok (.aload_n 0, 1) := by decide +kernel
theorem dX11_view_3 : decode cX11_view 3 = .ok (.getfield 86, 3) := by decide +kernel
theorem dX11_view_6 : decode cX11_view 6 = .ok (.invokestatic 82, 3) := by decide +kernel
theorem dX11_view_9 : decode cX11_view 9 = .ok (.ifCond .ne 5, 3) := by decide +kernel
theorem dX11_view_12 : decode cX11_view 12 = .ok (.iconst 0, 1) := by decide +kernel
theorem dX11_view_13 : decode cX11_view 13 = .ok (.ireturn, 1) := by decide +kernel
theorem dX11_view_14 : decode cX11_view 14 = .ok (.aload_n 0, 1) := by decide +kernel
theorem dX11_view_15 : decode cX11_view 15 = .ok (.iload_n 1, 1) := by decide +kernel
theorem dX11_view_16 : decode cX11_view 16 = .ok (.aload_n 0, 1) := by decide +kernel
theorem dX11_view_17 : decode cX11_view 17 = .ok (.getfield 86, 3) := by decide +kernel
theorem dX11_view_20 : decode cX11_view 20 = .ok (.if_icmp .ne 7, 3) := by decide +kernel
theorem dX11_view_23 : decode cX11_view 23 = .ok (.iconst (-1), 1) := by decide +kernel
theorem dX11_view_24 : decode cX11_view 24 = .ok (.goto 4, 3) := by decide +kernel
theorem dX11_view_27 : decode cX11_view 27 = .ok (.iload_n 1, 1) := by decide +kernel
theorem dX11_view_28 : decode cX11_view 28 = .ok (.putfield 78, 3) := by decide +kernel
theorem dX11_view_31 : decode cX11_view 31 = .ok (.iconst 1, 1) := by decide +kernel
theorem dX11_view_32 : decode cX11_view 32 = .ok (.ireturn, 1) := by decide +kernel
theorem dX11_meeting_0 : decode cX11_meeting 0 = .ok (.iload_n 2, 1) := by decide +kernel
theorem dX11_meeting_1 : decode cX11_meeting 1 = .ok (.sipush (-9999), 3) := by decide +kernel
theorem dX11_meeting_4 : decode cX11_meeting 4 = .ok (.iconst (-1), 1) := by decide +kernel
theorem dX11_meeting_5 : decode cX11_meeting 5 = .ok (.invokestatic 82, 3) := by decide +kernel
theorem dX11_meeting_8 : decode cX11_meeting 8 = .ok (.ifCond .eq 28, 3) := by decide +kernel
theorem dX11_meeting_11 : decode cX11_meeting 11 = .ok (.iload_n 3, 1) := by decide +kernel
theorem dX11_meeting_12 : decode cX11_meeting 12 = .ok (.iconst 1, 1) := by decide +kernel
theorem dX11_meeting_13 : decode cX11_meeting 13 = .ok (.sipush 300, 3) := by decide +kernel
theorem dX11_meeting_16 : decode cX11_meeting 16 = .ok (.invokestatic 82, 3) := by decide +kernel
theorem dX11_meeting_19 : decode cX11_meeting 19 = .ok (.ifCond .eq 17, 3) := by decide +kernel
theorem dX11_meeting_22 : decode cX11_meeting 22 = .ok (.iload 4, 2) := by decide +kernel
theorem dX11_meeting_24 : decode cX11_meeting 24 = .ok (.iconst 0, 1) := by decide +kernel
theorem dX11_meeting_25 : decode cX11_meeting 25 = .ok (.iconst 5, 1) := by decide +kernel
theorem dX11_meeting_26 : decode cX11_meeting 26 = .ok (.invokestatic 82, 3) := by decide +kernel
theorem dX11_meeting_29 : decode cX11_meeting 29 = .ok (.ifCond .eq 7, 3) := by decide +kernel
theorem dX11_meeting_32 : decode cX11_meeting 32 = .ok (.iconst 1, 1) := by decide +kernel
theorem dX11_meeting_33 : decode cX11_meeting 33 = .ok (.goto 4, 3) := by decide +kernel
theorem dX11_meeting_36 : decode cX11_meeting 36 = .ok (.iconst 0, 1) := by decide +kernel
theorem dX11_meeting_37 : decode cX11_meeting 37 = .ok (.istore 8, 2) := by decide +kernel
theorem dX11_meeting_39 : decode cX11_meeting 39 = .ok (.iload 5, 2) := by decide +kernel
theorem dX11_meeting_41 : decode cX11_meeting 41 = .ok (.sipush (-999), 3) := by decide +kernel
theorem dX11_meeting_44 : decode cX11_meeting 44 = .ok (.iconst (-1), 1) := by decide +kernel
theorem dX11_meeting_45 : decode cX11_meeting 45 = .ok (.invokestatic 82, 3) := by decide +kernel
theorem dX11_meeting_48 : decode cX11_meeting 48 = .ok (.ifCond .eq 28, 3) := by decide +kernel
theorem dX11_meeting_51 : decode cX11_meeting 51 = .ok (.iload 6, 2) := by decide +kernel
theorem dX11_meeting_53 : decode cX11_meeting 53 = .ok (.iconst 1, 1) := by decide +kernel
theorem dX11_meeting_54 : decode cX11_meeting 54 = .ok (.bipush 60, 2) := by decide +kernel
theorem dX11_meeting_56 : decode cX11_meeting 56 = .ok (.invokestatic 82, 3) := by decide +kernel
theorem dX11_meeting_59 : decode cX11_meeting 59 = .ok (.ifCond .eq 17, 3) := by decide +kernel
theorem dX11_meeting_62 : decode cX11_meeting 62 = .ok (.iload 7, 2) := by decide +kernel
theorem dX11_meeting_64 : decode cX11_meeting 64 = .ok (.iconst 0, 1) := by decide +kernel
theorem dX11_meeting_65 : decode cX11_meeting 65 = .ok (.iconst 5, 1) := by decide +kernel
theorem dX11_meeting_66 : decode cX11_meeting 66 = .ok (.invokestatic 82, 3) := by decide +kernel
theorem dX11_meeting_69 : decode cX11_meeting 69 = .ok (.ifCond .eq 7, 3) := by decide +kernel
theorem dX11_meeting_72 : decode cX11_meeting 72 = .ok (.iconst 1, 1) := by decide +kernel
theorem dX11_meeting_73 : decode cX11_meeting 73 = .ok (.goto 4, 3) := by decide +kernel
theorem dX11_meeting_76 : decode cX11_meeting 76 = .ok (.iconst 0, 1) := by decide +kernel
theorem dX11_meeting_77 : decode cX11_meeting 77 = .ok (.istore 9, 2) := by decide +kernel
theorem dX11_meeting_79 : decode cX11_meeting 79 = .ok (.iload_n 1, 1) := by decide +kernel
theorem dX11_meeting_80 : decode cX11_meeting 80 = .ok (.iconst 0, 1) := by decide +kernel
theorem dX11_meeting_81 : decode cX11_meeting 81 = .ok (.aload_n 0, 1) := by decide +kernel
theorem dX11_meeting_82 : decode cX11_meeting 82 = .ok (.getfield 86, 3) := by decide +kernel
theorem dX11_meeting_85 : decode cX11_meeting 85 = .ok (.invokestatic 82, 3) := by decide +kernel
theorem dX11_meeting_88 : decode cX11_meeting 88 = .ok (.ifCond .eq 22, 3) := by decide +kernel
theorem dX11_meeting_91 : decode cX11_meeting 91 = .ok (.iload 8, 2) := by decide +kernel
theorem dX11_meeting_93 : decode cX11_meeting 93 = .ok (.ifCond .eq 17, 3) := by decide +kernel
theorem dX11_meeting_96 : decode cX11_meeting 96 = .ok (.iload 9, 2) := by decide +kernel
theorem dX11_meeting_98 : decode cX11_meeting 98 = .ok (.ifCond .eq 12, 3) := by decide +kernel
theorem dX11_meeting_101 : decode cX11_meeting 101 = .ok (.aload_n 0, 1) := by decide +kernel
theorem dX11_meeting_102 : decode cX11_meeting 102 = .ok (.getfield 89, 3) := by decide +kernel
theorem dX11_meeting_105 : decode cX11_meeting 105 = .ok (.bipush 40, 2) := by decide +kernel
theorem dX11_meeting_107 : decode cX11_meeting 107 = .ok (.if_icmp .lt 5, 3) := by decide +kernel
theorem dX11_meeting_110 : decode cX11_meeting 110 = .ok (.iconst (-1), 1) := by decide +kernel
theorem dX11_meeting_111 : decode cX11_meeting 111 = .ok (.ireturn, 1) := by decide +kernel
theorem dX11_meeting_112 : decode cX11_meeting 112 = .ok (.new 9, 3) := by decide +kernel
theorem dX11_meeting_115 : decode cX11_meeting 115 = .ok (.dup, 1) := by decide +kernel
theorem dX11_meeting_116 : decode cX11_meeting 116 = .ok (.iload_n 2, 1) := by decide +kernel
theorem dX11_meeting_117 : decode cX11_meeting 117 = .ok (.iload_n 3, 1) := by decide +kernel
theorem dX11_meeting_118 : decode cX11_meeting 118 = .ok (.iload 4, 2) := by decide +kernel
theorem dX11_meeting_120 : decode cX11_meeting 120 = .ok (.iload 5, 2) := by decide +kernel
theorem dX11_meeting_122 : decode cX11_meeting 122 = .ok (.iload 6, 2) := by decide +kernel
theorem dX11_meeting_124 : decode cX11_meeting 124 = .ok (.iload 7, 2) := by decide +kernel
theorem dX11_meeting_126 : decode cX11_meeting 126 = .ok (.invokespecial 92, 3) := by decide +kernel
theorem dX11_meeting_129 : decode cX11_meeting 129 = .ok (.astore 10, 2) := by decide +kernel
theorem dX11_meeting_131 : decode cX11_meeting 131 = .ok (.aload_n 0, 1) := by decide +kernel
theorem dX11_meeting_132 : decode cX11_meeting 132 = .ok (.getfield 18, 3) := by decide +kernel
theorem dX11_meeting_135 : decode cX11_meeting 135 = .ok (.aload 10, 2) := by decide +kernel
theorem dX11_meeting_137 : decode cX11_meeting 137 = .ok (.invokevirtual 95, 3) := by decide +kernel
theorem dX11_meeting_140 : decode cX11_meeting 140 = .ok (.aload_n 0, 1) := by decide +kernel
theorem dX11_meeting_141 : decode cX11_meeting 141 = .ok (.getfield 11, 3) := by decide +kernel
theorem dX11_meeting_144 : decode cX11_meeting 144 = .ok (.aload_n 0, 1) := by decide +kernel
theorem dX11_meeting_145 : decode cX11_meeting 145 = .ok (.getfield 89, 3) := by decide +kernel
theorem dX11_meeting_148 : decode cX11_meeting 148 = .ok (.aload 10, 2) := by decide +kernel
theorem dX11_meeting_150 : decode cX11_meeting 150 = .ok (.aastore, 1) := by decide +kernel
theorem dX11_meeting_151 : decode cX11_meeting 151 = .ok (.aload_n 0, 1) := by decide +kernel
theorem dX11_meeting_152 : decode cX11_meeting 152 = .ok (.dup, 1) := by decide +kernel
theorem dX11_meeting_153 : decode cX11_meeting 153 = .ok (.getfield 89, 3) := by decide +kernel
theorem dX11_meeting_156 : decode cX11_meeting 156 = .ok (.iconst 1, 1) := by decide +kernel
theorem dX11_meeting_157 : decode cX11_meeting 157 = .ok (.iadd, 1) := by decide +kernel
theorem dX11_meeting_158 : decode cX11_meeting 158 = .ok (.putfield 89, 3) := by decide +kernel
theorem dX11_meeting_161 : decode cX11_meeting 161 = .ok (.aload_n 0, 1) := by decide +kernel
theorem dX11_meeting_162 : decode cX11_meeting 162 = .ok (.getfield 89, 3) := by decide +kernel
theorem dX11_meeting_165 : decode cX11_meeting 165 = .ok (.iconst 1, 1) := by decide +kernel
theorem dX11_meeting_166 : decode cX11_meeting 166 = .ok (.isub, 1) := by decide +kernel
theorem dX11_meeting_167 : decode cX11_meeting 167 = .ok (.ireturn, 1) := by decide +kernel
theorem dX11_stand_0 : decode cX11_stand 0 = .ok (.aload_n 0, 1) := by decide +kernel
theorem dX11_stand_1 : decode cX11_stand 1 = .ok (.iload_n 1, 1) := by decide +kernel
theorem dX11_stand_2 : decode cX11_stand 2 = .ok (.invokevirtual 99, 3) := by decide +kernel
theorem dX11_stand_5 : decode cX11_stand 5 = .ok (.astore 6, 2) := by decide +kernel
theorem dX11_stand_7 : decode cX11_stand 7 = .ok (.iload_n 2, 1) := by decide +kernel
theorem dX11_stand_8 : decode cX11_stand 8 = .ok (.ifCond .eq 25, 3) := by decide +kernel
theorem dX11_stand_11 : decode cX11_stand 11 = .ok (.iload_n 2, 1) := by decide +kernel
theorem dX11_stand_12 : decode cX11_stand 12 = .ok (.sipush (-9999), 3) := by decide +kernel
theorem dX11_stand_15 : decode cX11_stand 15 = .ok (.iconst (-1), 1) := by decide +kernel
theorem dX11_stand_16 : decode cX11_stand 16 = .ok (.invokestatic 82, 3) := by decide +kernel
theorem dX11_stand_19 : decode cX11_stand 19 = .ok (.ifCond .eq 18, 3) := by decide +kernel
theorem dX11_stand_22 : decode cX11_stand 22 = .ok (.iload_n 3, 1) := by decide +kernel
theorem dX11_stand_23 : decode cX11_stand 23 = .ok (.sipush (-999), 3) := by decide +kernel
theorem dX11_stand_26 : decode cX11_stand 26 = .ok (.iconst (-1), 1) := by decide +kernel
theorem dX11_stand_27 : decode cX11_stand 27 = .ok (.invokestatic 82, 3) := by decide +kernel
theorem dX11_stand_30 : decode cX11_stand 30 = .ok (.ifCond .eq 7, 3) := by decide +kernel
theorem dX11_stand_33 : decode cX11_stand 33 = .ok (.iconst 1, 1) := by decide +kernel
theorem dX11_stand_34 : decode cX11_stand 34 = .ok (.goto 4, 3) := by decide +kernel
theorem dX11_stand_37 : decode cX11_stand 37 = .ok (.iconst 0, 1) := by decide +kernel
theorem dX11_stand_38 : decode cX11_stand 38 = .ok (.istore 7, 2) := by decide +kernel
theorem dX11_stand_40 : decode cX11_stand 40 = .ok (.aload 6, 2) := by decide +kernel
theorem dX11_stand_42 : decode cX11_stand 42 = .ok (.ifnull 29, 3) := by decide +kernel
theorem dX11_stand_45 : decode cX11_stand 45 = .ok (.iload 7, 2) := by decide +kernel
theorem dX11_stand_47 : decode cX11_stand 47 = .ok (.ifCond .eq 24, 3) := by decide +kernel
theorem dX11_stand_50 : decode cX11_stand 50 = .ok (.iload 4, 2) := by decide +kernel
theorem dX11_stand_52 : decode cX11_stand 52 = .ok (.iconst 0, 1) := by decide +kernel
theorem dX11_stand_53 : decode cX11_stand 53 = .ok (.iconst 2, 1) := by decide +kernel
theorem dX11_stand_54 : decode cX11_stand 54 = .ok (.invokestatic 82, 3) := by decide +kernel
theorem dX11_stand_57 : decode cX11_stand 57 = .ok (.ifCond .eq 14, 3) := by decide +kernel
theorem dX11_stand_60 : decode cX11_stand 60 = .ok (.iload 5, 2) := by decide +kernel
theorem dX11_stand_62 : decode cX11_stand 62 = .ok (.iconst 0, 1) := by decide +kernel
theorem dX11_stand_63 : decode cX11_stand 63 = .ok (.bipush 99, 2) := by decide +kernel
theorem dX11_stand_65 : decode cX11_stand 65 = .ok (.invokestatic 82, 3) := by decide +kernel
theorem dX11_stand_68 : decode cX11_stand 68 = .ok (.ifCond .ne 5, 3) := by decide +kernel
theorem dX11_stand_71 : decode cX11_stand 71 = .ok (.iconst 0, 1) := by decide +kernel
theorem dX11_stand_72 : decode cX11_stand 72 = .ok (.ireturn, 1) := by decide +kernel
theorem dX11_stand_73 : decode cX11_stand 73 = .ok (.aload 6, 2) := by decide +kernel
theorem dX11_stand_75 : decode cX11_stand 75 = .ok (.iload_n 2, 1) := by decide +kernel
theorem dX11_stand_76 : decode cX11_stand 76 = .ok (.putfield 103, 3) := by decide +kernel
theorem dX11_stand_79 : decode cX11_stand 79 = .ok (.aload 6, 2) := by decide +kernel
theorem dX11_stand_81 : decode cX11_stand 81 = .ok (.iload_n 3, 1) := by decide +kernel
theorem dX11_stand_82 : decode cX11_stand 82 = .ok (.putfield 106, 3) := by decide +kernel
theorem dX11_stand_85 : decode cX11_stand 85 = .ok (.aload 6, 2) := by decide +kernel
theorem dX11_stand_87 : decode cX11_stand 87 = .ok (.iload 4, 2) := by decide +kernel
theorem dX11_stand_89 : decode cX11_stand 89 = .ok (.putfield 109, 3) := by decide +kernel
theorem dX11_stand_92 : decode cX11_stand 92 = .ok (.aload 6, 2) := by decide +kernel
theorem dX11_stand_94 : decode cX11_stand 94 = .ok (.iload 5, 2) := by decide +kernel
theorem dX11_stand_96 : decode cX11_stand 96 = .ok (.putfield 112, 3) := by decide +kernel
theorem dX11_stand_99 : decode cX11_stand 99 = .ok (.aload_n 0, 1) := by decide +kernel
theorem dX11_stand_100 : decode cX11_stand 100 = .ok (.getfield 18, 3) := by decide +kernel
theorem dX11_stand_103 : decode cX11_stand 103 = .ok (.aload 6, 2) := by decide +kernel
theorem dX11_stand_105 : decode cX11_stand 105 = .ok (.invokevirtual 95, 3) := by decide +kernel
theorem dX11_stand_108 : decode cX11_stand 108 = .ok (.iconst 1, 1) := by decide +kernel
theorem dX11_stand_109 : decode cX11_stand 109 = .ok (.ireturn, 1) := by decide +kernel
theorem dX11_look_0 : decode cX11_look 0 = .ok (.aload_n 0, 1) := by decide +kernel
theorem dX11_look_1 : decode cX11_look 1 = .ok (.iload_n 1, 1) := by decide +kernel
theorem dX11_look_2 : decode cX11_look 2 = .ok (.invokevirtual 99, 3) := by decide +kernel
theorem dX11_look_5 : decode cX11_look 5 = .ok (.astore_n 3, 1) := by decide +kernel
theorem dX11_look_6 : decode cX11_look 6 = .ok (.aload_n 3, 1) := by decide +kernel
theorem dX11_look_7 : decode cX11_look 7 = .ok (.ifnonnull 5, 3) := by decide +kernel
theorem dX11_look_10 : decode cX11_look 10 = .ok (.iconst (-1), 1) := by decide +kernel
theorem dX11_look_11 : decode cX11_look 11 = .ok (.ireturn, 1) := by decide +kernel
theorem dX11_look_12 : decode cX11_look 12 = .ok (.iload_n 2, 1) := by decide +kernel
theorem dX11_look_13 : decode cX11_look 13 = .ok (.tableswitch 82 0 6 #[43, 48, 53, 62, 67, 72, 77], 43) := by decide +kernel
theorem dX11_look_56 : decode cX11_look 56 = .ok (.aload_n 3, 1) := by decide +kernel
theorem dX11_look_57 : decode cX11_look 57 = .ok (.getfield 115, 3) := by decide +kernel
theorem dX11_look_60 : decode cX11_look 60 = .ok (.ireturn, 1) := by decide +kernel
theorem dX11_look_61 : decode cX11_look 61 = .ok (.aload_n 3, 1) := by decide +kernel
theorem dX11_look_62 : decode cX11_look 62 = .ok (.getfield 118, 3) := by decide +kernel
theorem dX11_look_65 : decode cX11_look 65 = .ok (.ireturn, 1) := by decide +kernel
theorem dX11_look_66 : decode cX11_look 66 = .ok (.aload_n 0, 1) := by decide +kernel
theorem dX11_look_67 : decode cX11_look 67 = .ok (.getfield 18, 3) := by decide +kernel
theorem dX11_look_70 : decode cX11_look 70 = .ok (.aload_n 3, 1) := by decide +kernel
theorem dX11_look_71 : decode cX11_look 71 = .ok (.invokevirtual 121, 3) := by decide +kernel
theorem dX11_look_74 : decode cX11_look 74 = .ok (.ireturn, 1) := by decide +kernel
theorem dX11_look_75 : decode cX11_look 75 = .ok (.aload_n 3, 1) := by decide +kernel
theorem dX11_look_76 : decode cX11_look 76 = .ok (.invokevirtual 125, 3) := by decide +kernel
theorem dX11_look_79 : decode cX11_look 79 = .ok (.ireturn, 1) := by decide +kernel
theorem dX11_look_80 : decode cX11_look 80 = .ok (.aload_n 3, 1) := by decide +kernel
theorem dX11_look_81 : decode cX11_look 81 = .ok (.getfield 129, 3) := by decide +kernel
theorem dX11_look_84 : decode cX11_look 84 = .ok (.ireturn, 1) := by decide +kernel
theorem dX11_look_85 : decode cX11_look 85 = .ok (.aload_n 3, 1) := by decide +kernel
theorem dX11_look_86 : decode cX11_look 86 = .ok (.invokevirtual 132, 3) := by decide +kernel
theorem dX11_look_89 : decode cX11_look 89 = .ok (.ireturn, 1) := by decide +kernel
theorem dX11_look_90 : decode cX11_look 90 = .ok (.aload_n 3, 1) := by decide +kernel
theorem dX11_look_91 : decode cX11_look 91 = .ok (.getfield 135, 3) := by decide +kernel
theorem dX11_look_94 : decode cX11_look 94 = .ok (.ireturn, 1) := by decide +kernel
theorem dX11_look_95 : decode cX11_look 95 = .ok (.iconst (-1), 1) := by decide +kernel
theorem dX11_look_96 : decode cX11_look 96 = .ok (.ireturn, 1) := by decide +kernel
theorem dX11_at_0 : decode cX11_at 0 = .ok (.aload_n 0, 1) := by decide +kernel
theorem dX11_at_1 : decode cX11_at 1 = .ok (.iload_n 1, 1) := by decide +kernel
theorem dX11_at_2 : decode cX11_at 2 = .ok (.invokevirtual 99, 3) := by decide +kernel
theorem dX11_at_5 : decode cX11_at 5 = .ok (.astore 4, 2) := by decide +kernel
theorem dX11_at_7 : decode cX11_at 7 = .ok (.aload 4, 2) := by decide +kernel
theorem dX11_at_9 : decode cX11_at 9 = .ok (.ifnull 25, 3) := by decide +kernel
theorem dX11_at_12 : decode cX11_at 12 = .ok (.iload_n 2, 1) := by decide +kernel
theorem dX11_at_13 : decode cX11_at 13 = .ok (.iconst 0, 1) := by decide +kernel
theorem dX11_at_14 : decode cX11_at 14 = .ok (.iconst 1, 1) := by decide +kernel
theorem dX11_at_15 : decode cX11_at 15 = .ok (.invokestatic 82, 3) := by decide +kernel
theorem dX11_at_18 : decode cX11_at 18 = .ok (.ifCond .eq 16, 3) := by decide +kernel
theorem dX11_at_21 : decode cX11_at 21 = .ok (.iload_n 3, 1) := by decide +kernel
theorem dX11_at_22 : decode cX11_at 22 = .ok (.iconst 0, 1) := by decide +kernel
theorem dX11_at_23 : decode cX11_at 23 = .ok (.aload 4, 2) := by decide +kernel
theorem dX11_at_25 : decode cX11_at 25 = .ok (.invokevirtual 138, 3) := by decide +kernel
theorem dX11_at_28 : decode cX11_at 28 = .ok (.invokestatic 82, 3) := by decide +kernel
theorem dX11_at_31 : decode cX11_at 31 = .ok (.ifCond .ne 13, 3) := by decide +kernel
theorem dX11_at_34 : decode cX11_at 34 = .ok (.new 141, 3) := by decide +kernel
theorem dX11_at_37 : decode cX11_at 37 = .ok (.dup, 1) := by decide +kernel
theorem dX11_at_38 : decode cX11_at 38 = .ok (.ldc 143, 2) := by decide +kernel
theorem dX11_at_40 : decode cX11_at 40 = .ok (.invokespecial 145, 3) := by decide +kernel
theorem dX11_at_43 : decode cX11_at 43 = .ok (.athrow, 1) := by decide +kernel
theorem dX11_at_44 : decode cX11_at 44 = .ok (.aload_n 0, 1) := by decide +kernel
theorem dX11_at_45 : decode cX11_at 45 = .ok (.getfield 18, 3) := by decide +kernel
theorem dX11_at_48 : decode cX11_at 48 = .ok (.aload 4, 2) := by decide +kernel
theorem dX11_at_50 : decode cX11_at 50 = .ok (.aload 4, 2) := by decide +kernel
theorem dX11_at_52 : decode cX11_at 52 = .ok (.getfield 148, 3) := by decide +kernel
theorem dX11_at_55 : decode cX11_at 55 = .ok (.iload_n 3, 1) := by decide +kernel
theorem dX11_at_56 : decode cX11_at 56 = .ok (.invokevirtual 151, 3) := by decide +kernel
theorem dX11_at_59 : decode cX11_at 59 = .ok (.iload_n 2, 1) := by decide +kernel
theorem dX11_at_60 : decode cX11_at 60 = .ok (.ifCond .ne 13, 3) := by decide +kernel
theorem dX11_at_63 : decode cX11_at 63 = .ok (.aload_n 0, 1) := by decide +kernel
theorem dX11_at_64 : decode cX11_at 64 = .ok (.getfield 18, 3) := by decide +kernel
theorem dX11_at_67 : decode cX11_at 67 = .ok (.getfield 155, 3) := by decide +kernel
theorem dX11_at_70 : decode cX11_at 70 = .ok (.goto 10, 3) := by decide +kernel
theorem dX11_at_73 : decode cX11_at 73 = .ok (.aload_n 0, 1) := by decide +kernel
theorem dX11_at_74 : decode cX11_at 74 = .ok (.getfield 18, 3) := by decide +kernel
theorem dX11_at_77 : decode cX11_at 77 = .ok (.getfield 158, 3) := by decide +kernel
theorem dX11_at_80 : decode cX11_at 80 = .ok (.ireturn, 1) := by decide +kernel
theorem dX11_feed_0 : decode cX11_feed 0 = .ok (.aload_n 0, 1) := by decide +kernel
theorem dX11_feed_1 : decode cX11_feed 1 = .ok (.getfield 25, 3) := by decide +kernel
theorem dX11_feed_4 : decode cX11_feed 4 = .ok (.lload_n 1, 1) := by decide +kernel
theorem dX11_feed_5 : decode cX11_feed 5 = .ok (.invokevirtual 161, 3) := by decide +kernel
theorem dX11_feed_8 : decode cX11_feed 8 = .ok (.aload_n 0, 1) := by decide +kernel
theorem dX11_feed_9 : decode cX11_feed 9 = .ok (.getfield 25, 3) := by decide +kernel
theorem dX11_feed_12 : decode cX11_feed 12 = .ok (.lload_n 3, 1) := by decide +kernel
theorem dX11_feed_13 : decode cX11_feed 13 = .ok (.invokevirtual 161, 3) := by decide +kernel
theorem dX11_feed_16 : decode cX11_feed 16 = .ok (.aload_n 0, 1) := by decide +kernel
theorem dX11_feed_17 : decode cX11_feed 17 = .ok (.getfield 25, 3) := by decide +kernel
theorem dX11_feed_20 : decode cX11_feed 20 = .ok (.lload 5, 2) := by decide +kernel
theorem dX11_feed_22 : decode cX11_feed 22 = .ok (.invokevirtual 161, 3) := by decide +kernel
theorem dX11_feed_25 : decode cX11_feed 25 = .ok (.aload_n 0, 1) := by decide +kernel
theorem dX11_feed_26 : decode cX11_feed 26 = .ok (.getfield 25, 3) := by decide +kernel
theorem dX11_feed_29 : decode cX11_feed 29 = .ok (.getfield 165, 3) := by decide +kernel
theorem dX11_feed_32 : decode cX11_feed 32 = .ok (.ireturn, 1) := by decide +kernel
theorem dX11_law_0 : decode cX11_law 0 = .ok (.iconst (-1), 1) := by decide +kernel
theorem dX11_law_1 : decode cX11_law 1 = .ok (.istore_n 2, 1) := by decide +kernel
theorem dX11_law_2 : decode cX11_law 2 = .ok (.iload_n 1, 1) := by decide +kernel
theorem dX11_law_3 : decode cX11_law 3 = .ok (.iconst 0, 1) := by decide +kernel
theorem dX11_law_4 : decode cX11_law 4 = .ok (.bipush 30, 2) := by decide +kernel
theorem dX11_law_6 : decode cX11_law 6 = .ok (.invokestatic 82, 3) := by decide +kernel
theorem dX11_law_9 : decode cX11_law 9 = .ok (.ifCond .eq 55, 3) := by decide +kernel
theorem dX11_law_12 : decode cX11_law 12 = .ok (.aload_n 0, 1) := by decide +kernel
theorem dX11_law_13 : decode cX11_law 13 = .ok (.getfield 39, 3) := by decide +kernel
theorem dX11_law_16 : decode cX11_law 16 = .ok (.invokevirtual 168, 3) := by decide +kernel
theorem dX11_law_19 : decode cX11_law 19 = .ok (.ifCond .ne 45, 3) := by decide +kernel
theorem dX11_law_22 : decode cX11_law 22 = .ok (.aload_n 0, 1) := by decide +kernel
theorem dX11_law_23 : decode cX11_law 23 = .ok (.getfield 32, 3) := by decide +kernel
theorem dX11_law_26 : decode cX11_law 26 = .ok (.aload_n 0, 1) := by decide +kernel
theorem dX11_law_27 : decode cX11_law 27 = .ok (.getfield 25, 3) := by decide +kernel
theorem dX11_law_30 : decode cX11_law 30 = .ok (.invokevirtual 172, 3) := by decide +kernel
theorem dX11_law_33 : decode cX11_law 33 = .ok (.istore_n 2, 1) := by decide +kernel
theorem dX11_law_34 : decode cX11_law 34 = .ok (.iload_n 2, 1) := by decide +kernel
theorem dX11_law_35 : decode cX11_law 35 = .ok (.ifCond .ne 29, 3) := by decide +kernel
theorem dX11_law_38 : decode cX11_law 38 = .ok (.aload_n 0, 1) := by decide +kernel
theorem dX11_law_39 : decode cX11_law 39 = .ok (.getfield 39, 3) := by decide +kernel
theorem dX11_law_42 : decode cX11_law 42 = .ok (.new 176, 3) := by decide +kernel
theorem dX11_law_45 : decode cX11_law 45 = .ok (.dup, 1) := by decide +kernel
theorem dX11_law_46 : decode cX11_law 46 = .ok (.aload_n 0, 1) := by decide +kernel
theorem dX11_law_47 : decode cX11_law 47 = .ok (.getfield 86, 3) := by decide +kernel
theorem dX11_law_50 : decode cX11_law 50 = .ok (.iload_n 1, 1) := by decide +kernel
theorem dX11_law_51 : decode cX11_law 51 = .ok (.aload_n 0, 1) := by decide +kernel
theorem dX11_law_52 : decode cX11_law 52 = .ok (.getfield 32, 3) := by decide +kernel
theorem dX11_law_55 : decode cX11_law 55 = .ok (.invokevirtual 178, 3) := by decide +kernel
theorem dX11_law_58 : decode cX11_law 58 = .ok (.invokespecial 182, 3) := by decide +kernel
theorem dX11_law_61 : decode cX11_law 61 = .ok (.invokevirtual 185, 3) := by decide +kernel
theorem dX11_law_64 : decode cX11_law 64 = .ok (.aload_n 0, 1) := by decide +kernel
theorem dX11_law_65 : decode cX11_law 65 = .ok (.getfield 25, 3) := by decide +kernel
theorem dX11_law_68 : decode cX11_law 68 = .ok (.iconst 0, 1) := by decide +kernel
theorem dX11_law_69 : decode cX11_law 69 = .ok (.putfield 165, 3) := by decide +kernel
theorem dX11_law_72 : decode cX11_law 72 = .ok (.iload_n 2, 1) := by decide +kernel
theorem dX11_law_73 : decode cX11_law 73 = .ok (.ireturn, 1) := by decide +kernel
theorem dX11_whose_0 : decode cX11_whose 0 = .ok (.aload_n 0, 1) := by decide +kernel
theorem dX11_whose_1 : decode cX11_whose 1 = .ok (.iload_n 1, 1) := by decide +kernel
theorem dX11_whose_2 : decode cX11_whose 2 = .ok (.invokevirtual 99, 3) := by decide +kernel
theorem dX11_whose_5 : decode cX11_whose 5 = .ok (.astore 4, 2) := by decide +kernel
theorem dX11_whose_7 : decode cX11_whose 7 = .ok (.aload 4, 2) := by decide +kernel
theorem dX11_whose_9 : decode cX11_whose 9 = .ok (.ifnull 13, 3) := by decide +kernel
theorem dX11_whose_12 : decode cX11_whose 12 = .ok (.iload_n 2, 1) := by decide +kernel
theorem dX11_whose_13 : decode cX11_whose 13 = .ok (.iconst 0, 1) := by decide +kernel
theorem dX11_whose_14 : decode cX11_whose 14 = .ok (.bipush 30, 2) := by decide +kernel
theorem dX11_whose_16 : decode cX11_whose 16 = .ok (.invokestatic 82, 3) := by decide +kernel
theorem dX11_whose_19 : decode cX11_whose 19 = .ok (.ifCond .ne 5, 3) := by decide +kernel
theorem dX11_whose_22 : decode cX11_whose 22 = .ok (.iconst (-1), 1) := by decide +kernel
theorem dX11_whose_23 : decode cX11_whose 23 = .ok (.ireturn, 1) := by decide +kernel
theorem dX11_whose_24 : decode cX11_whose 24 = .ok (.aload_n 0, 1) := by decide +kernel
theorem dX11_whose_25 : decode cX11_whose 25 = .ok (.getfield 39, 3) := by decide +kernel
theorem dX11_whose_28 : decode cX11_whose 28 = .ok (.aload 4, 2) := by decide +kernel
theorem dX11_whose_30 : decode cX11_whose 30 = .ok (.iload_n 2, 1) := by decide +kernel
theorem dX11_whose_31 : decode cX11_whose 31 = .ok (.aload_n 0, 1) := by decide +kernel
theorem dX11_whose_32 : decode cX11_whose 32 = .ok (.invokevirtual 189, 3) := by decide +kernel
theorem dX11_whose_35 : decode cX11_whose 35 = .ok (.invokevirtual 192, 3) := by decide +kernel
theorem dX11_whose_38 : decode cX11_whose 38 = .ok (.iload_n 3, 1) := by decide +kernel
theorem dX11_whose_39 : decode cX11_whose 39 = .ok (.tableswitch 61 0 3 #[29, 37, 45, 53], 29) := by decide +kernel
theorem dX11_whose_68 : decode cX11_whose 68 = .ok (.aload_n 0, 1) := by decide +kernel
theorem dX11_whose_69 : decode cX11_whose 69 = .ok (.getfield 39, 3) := by decide +kernel
theorem dX11_whose_72 : decode cX11_whose 72 = .ok (.getfield 195, 3) := by decide +kernel
theorem dX11_whose_75 : decode cX11_whose 75 = .ok (.ireturn, 1) := by decide +kernel
theorem dX11_whose_76 : decode cX11_whose 76 = .ok (.aload_n 0, 1) := by decide +kernel
theorem dX11_whose_77 : decode cX11_whose 77 = .ok (.getfield 39, 3) := by decide +kernel
theorem dX11_whose_80 : decode cX11_whose 80 = .ok (.getfield 198, 3) := by decide +kernel
theorem dX11_whose_83 : decode cX11_whose 83 = .ok (.ireturn, 1) := by decide +kernel
theorem dX11_whose_84 : decode cX11_whose 84 = .ok (.aload_n 0, 1) := by decide +kernel
theorem dX11_whose_85 : decode cX11_whose 85 = .ok (.getfield 39, 3) := by decide +kernel
theorem dX11_whose_88 : decode cX11_whose 88 = .ok (.getfield 201, 3) := by decide +kernel
theorem dX11_whose_91 : decode cX11_whose 91 = .ok (.ireturn, 1) := by decide +kernel
theorem dX11_whose_92 : decode cX11_whose 92 = .ok (.aload_n 0, 1) := by decide +kernel
theorem dX11_whose_93 : decode cX11_whose 93 = .ok (.getfield 39, 3) := by decide +kernel
theorem dX11_whose_96 : decode cX11_whose 96 = .ok (.getfield 204, 3) := by decide +kernel
theorem dX11_whose_99 : decode cX11_whose 99 = .ok (.ireturn, 1) := by decide +kernel
theorem dX11_whose_100 : decode cX11_whose 100 = .ok (.iconst (-1), 1) := by decide +kernel
theorem dX11_whose_101 : decode cX11_whose 101 = .ok (.ireturn, 1) := by decide +kernel
theorem dX11_changes_0 : decode cX11_changes 0 = .ok (.aload_n 0, 1) := by decide +kernel
theorem dX11_changes_1 : decode cX11_changes 1 = .ok (.iload_n 1, 1) := by decide +kernel
theorem dX11_changes_2 : decode cX11_changes 2 = .ok (.invokevirtual 99, 3) := by decide +kernel
theorem dX11_changes_5 : decode cX11_changes 5 = .ok (.astore_n 3, 1) := by decide +kernel
theorem dX11_changes_6 : decode cX11_changes 6 = .ok (.aload_n 3, 1) := by decide +kernel
theorem dX11_changes_7 : decode cX11_changes 7 = .ok (.ifnull 7, 3) := by decide +kernel
theorem dX11_changes_10 : decode cX11_changes 10 = .ok (.iload_n 2, 1) := by decide +kernel
theorem dX11_changes_11 : decode cX11_changes 11 = .ok (.ifCond .ge 5, 3) := by decide +kernel
theorem dX11_changes_14 : decode cX11_changes 14 = .ok (.iconst (-1), 1) := by decide +kernel
theorem dX11_changes_15 : decode cX11_changes 15 = .ok (.ireturn, 1) := by decide +kernel
theorem dX11_changes_16 : decode cX11_changes 16 = .ok (.aload_n 0, 1) := by decide +kernel
theorem dX11_changes_17 : decode cX11_changes 17 = .ok (.getfield 39, 3) := by decide +kernel
theorem dX11_changes_20 : decode cX11_changes 20 = .ok (.aload_n 3, 1) := by decide +kernel
theorem dX11_changes_21 : decode cX11_changes 21 = .ok (.iconst 0, 1) := by decide +kernel
theorem dX11_changes_22 : decode cX11_changes 22 = .ok (.aload_n 0, 1) := by decide +kernel
theorem dX11_changes_23 : decode cX11_changes 23 = .ok (.invokevirtual 189, 3) := by decide +kernel
theorem dX11_changes_26 : decode cX11_changes 26 = .ok (.invokevirtual 192, 3) := by decide +kernel
theorem dX11_changes_29 : decode cX11_changes 29 = .ok (.aload_n 0, 1) := by decide +kernel
theorem dX11_changes_30 : decode cX11_changes 30 = .ok (.getfield 39, 3) := by decide +kernel
theorem dX11_changes_33 : decode cX11_changes 33 = .ok (.getfield 195, 3) := by decide +kernel
theorem dX11_changes_36 : decode cX11_changes 36 = .ok (.istore 4, 2) := by decide +kernel
theorem dX11_changes_38 : decode cX11_changes 38 = .ok (.iconst 0, 1) := by decide +kernel
theorem dX11_changes_39 : decode cX11_changes 39 = .ok (.istore 5, 2) := by decide +kernel
theorem dX11_changes_41 : decode cX11_changes 41 = .ok (.iconst 1, 1) := by decide +kernel
theorem dX11_changes_42 : decode cX11_changes 42 = .ok (.istore 6, 2) := by decide +kernel
theorem dX11_changes_44 : decode cX11_changes 44 = .ok (.iload 6, 2) := by decide +kernel
theorem dX11_changes_46 : decode cX11_changes 46 = .ok (.bipush 30, 2) := by decide +kernel
theorem dX11_changes_48 : decode cX11_changes 48 = .ok (.if_icmp .gt 56, 3) := by decide +kernel
theorem dX11_changes_51 : decode cX11_changes 51 = .ok (.aload_n 0, 1) := by decide +kernel
theorem dX11_changes_52 : decode cX11_changes 52 = .ok (.getfield 39, 3) := by decide +kernel
theorem dX11_changes_55 : decode cX11_changes 55 = .ok (.aload_n 3, 1) := by decide +kernel
theorem dX11_changes_56 : decode cX11_changes 56 = .ok (.iload 6, 2) := by decide +kernel
theorem dX11_changes_58 : decode cX11_changes 58 = .ok (.aload_n 0, 1) := by decide +kernel
theorem dX11_changes_59 : decode cX11_changes 59 = .ok (.invokevirtual 189, 3) := by decide +kernel
theorem dX11_changes_62 : decode cX11_changes 62 = .ok (.invokevirtual 192, 3) := by decide +kernel
theorem dX11_changes_65 : decode cX11_changes 65 = .ok (.aload_n 0, 1) := by decide +kernel
theorem dX11_changes_66 : decode cX11_changes 66 = .ok (.getfield 39, 3) := by decide +kernel
theorem dX11_changes_69 : decode cX11_changes 69 = .ok (.getfield 195, 3) := by decide +kernel
theorem dX11_changes_72 : decode cX11_changes 72 = .ok (.iload 4, 2) := by decide +kernel
theorem dX11_changes_74 : decode cX11_changes 74 = .ok (.if_icmp .eq 15, 3) := by decide +kernel
theorem dX11_changes_77 : decode cX11_changes 77 = .ok (.iload 5, 2) := by decide +kernel
theorem dX11_changes_79 : decode cX11_changes 79 = .ok (.iload_n 2, 1) := by decide +kernel
theorem dX11_changes_80 : decode cX11_changes 80 = .ok (.if_icmp .ne 6, 3) := by decide +kernel
theorem dX11_changes_83 : decode cX11_changes 83 = .ok (.iload 6, 2) := by decide +kernel
theorem dX11_changes_85 : decode cX11_changes 85 = .ok (.ireturn, 1) := by decide +kernel
theorem dX11_changes_86 : decode cX11_changes 86 = .ok (.iinc 5 1, 3) := by decide +kernel
theorem dX11_changes_89 : decode cX11_changes 89 = .ok (.aload_n 0, 1) := by decide +kernel
theorem dX11_changes_90 : decode cX11_changes 90 = .ok (.getfield 39, 3) := by decide +kernel
theorem dX11_changes_93 : decode cX11_changes 93 = .ok (.getfield 195, 3) := by decide +kernel
theorem dX11_changes_96 : decode cX11_changes 96 = .ok (.istore 4, 2) := by decide +kernel
theorem dX11_changes_98 : decode cX11_changes 98 = .ok (.iinc 6 1, 3) := by decide +kernel
theorem dX11_changes_101 : decode cX11_changes 101 = .ok (.goto (-57), 3) := by decide +kernel
theorem dX11_changes_104 : decode cX11_changes 104 = .ok (.iconst (-1), 1) := by decide +kernel
theorem dX11_changes_105 : decode cX11_changes 105 = .ok (.ireturn, 1) := by decide +kernel
theorem dX11_ruling_0 : decode cX11_ruling 0 = .ok (.aload_n 0, 1) := by decide +kernel
theorem dX11_ruling_1 : decode cX11_ruling 1 = .ok (.iload_n 1, 1) := by decide +kernel
theorem dX11_ruling_2 : decode cX11_ruling 2 = .ok (.invokevirtual 99, 3) := by decide +kernel
theorem dX11_ruling_5 : decode cX11_ruling 5 = .ok (.astore_n 3, 1) := by decide +kernel
theorem dX11_ruling_6 : decode cX11_ruling 6 = .ok (.aload_n 3, 1) := by decide +kernel
theorem dX11_ruling_7 : decode cX11_ruling 7 = .ok (.ifnull 23, 3) := by decide +kernel
theorem dX11_ruling_10 : decode cX11_ruling 10 = .ok (.aload_n 0, 1) := by decide +kernel
theorem dX11_ruling_11 : decode cX11_ruling 11 = .ok (.getfield 46, 3) := by decide +kernel
theorem dX11_ruling_14 : decode cX11_ruling 14 = .ok (.aload_n 3, 1) := by decide +kernel
theorem dX11_ruling_15 : decode cX11_ruling 15 = .ok (.aload_n 0, 1) := by decide +kernel
theorem dX11_ruling_16 : decode cX11_ruling 16 = .ok (.getfield 86, 3) := by decide +kernel
theorem dX11_ruling_19 : decode cX11_ruling 19 = .ok (.iload_n 2, 1) := by decide +kernel
theorem dX11_ruling_20 : decode cX11_ruling 20 = .ok (.invokevirtual 207, 3) := by decide +kernel
theorem dX11_ruling_23 : decode cX11_ruling 23 = .ok (.ifCond .eq 7, 3) := by decide +kernel
theorem dX11_ruling_26 : decode cX11_ruling 26 = .ok (.iconst 1, 1) := by decide +kernel
theorem dX11_ruling_27 : decode cX11_ruling 27 = .ok (.goto 4, 3) := by decide +kernel
theorem dX11_ruling_30 : decode cX11_ruling 30 = .ok (.iconst 0, 1) := by decide +kernel
theorem dX11_ruling_31 : decode cX11_ruling 31 = .ok (.ireturn, 1) := by decide +kernel
theorem dX11_customs_0 : decode cX11_customs 0 = .ok (.iload_n 1, 1) := by decide +kernel
theorem dX11_customs_1 : decode cX11_customs 1 = .ok (.iconst 0, 1) := by decide +kernel
theorem dX11_customs_2 : decode cX11_customs 2 = .ok (.bipush 30, 2) := by decide +kernel
theorem dX11_customs_4 : decode cX11_customs 4 = .ok (.invokestatic 82, 3) := by decide +kernel
theorem dX11_customs_7 : decode cX11_customs 7 = .ok (.ifCond .ne 5, 3) := by decide +kernel
theorem dX11_customs_10 : decode cX11_customs 10 = .ok (.iconst (-1), 1) := by decide +kernel
theorem dX11_customs_11 : decode cX11_customs 11 = .ok (.ireturn, 1) := by decide +kernel
theorem dX11_customs_12 : decode cX11_customs 12 = .ok (.aload_n 0, 1) := by decide +kernel
theorem dX11_customs_13 : decode cX11_customs 13 = .ok (.getfield 46, 3) := by decide +kernel
theorem dX11_customs_16 : decode cX11_customs 16 = .ok (.iload_n 1, 1) := by decide +kernel
theorem dX11_customs_17 : decode cX11_customs 17 = .ok (.aload_n 0, 1) := by decide +kernel
theorem dX11_customs_18 : decode cX11_customs 18 = .ok (.invokevirtual 189, 3) := by decide +kernel
theorem dX11_customs_21 : decode cX11_customs 21 = .ok (.invokevirtual 210, 3) := by decide +kernel
theorem dX11_customs_24 : decode cX11_customs 24 = .ok (.aload_n 0, 1) := by decide +kernel
theorem dX11_customs_25 : decode cX11_customs 25 = .ok (.getfield 46, 3) := by decide +kernel
theorem dX11_customs_28 : decode cX11_customs 28 = .ok (.getfield 214, 3) := by decide +kernel
theorem dX11_customs_31 : decode cX11_customs 31 = .ok (.ireturn, 1) := by decide +kernel
theorem dX11_held_0 : decode cX11_held 0 = .ok (.aload_n 0, 1) := by decide +kernel
theorem dX11_held_1 : decode cX11_held 1 = .ok (.iload_n 1, 1) := by decide +kernel
theorem dX11_held_2 : decode cX11_held 2 = .ok (.invokevirtual 99, 3) := by decide +kernel
theorem dX11_held_5 : decode cX11_held 5 = .ok (.astore_n 3, 1) := by decide +kernel
theorem dX11_held_6 : decode cX11_held 6 = .ok (.aload_n 3, 1) := by decide +kernel
theorem dX11_held_7 : decode cX11_held 7 = .ok (.ifnull 13, 3) := by decide +kernel
theorem dX11_held_10 : decode cX11_held 10 = .ok (.iload_n 2, 1) := by decide +kernel
theorem dX11_held_11 : decode cX11_held 11 = .ok (.iconst 0, 1) := by decide +kernel
theorem dX11_held_12 : decode cX11_held 12 = .ok (.bipush 30, 2) := by decide +kernel
theorem dX11_held_14 : decode cX11_held 14 = .ok (.invokestatic 82, 3) := by decide +kernel
theorem dX11_held_17 : decode cX11_held 17 = .ok (.ifCond .ne 5, 3) := by decide +kernel
theorem dX11_held_20 : decode cX11_held 20 = .ok (.iconst (-1), 1) := by decide +kernel
theorem dX11_held_21 : decode cX11_held 21 = .ok (.ireturn, 1) := by decide +kernel
theorem dX11_held_22 : decode cX11_held 22 = .ok (.aload_n 0, 1) := by decide +kernel
theorem dX11_held_23 : decode cX11_held 23 = .ok (.getfield 46, 3) := by decide +kernel
theorem dX11_held_26 : decode cX11_held 26 = .ok (.iload_n 2, 1) := by decide +kernel
theorem dX11_held_27 : decode cX11_held 27 = .ok (.aload_n 0, 1) := by decide +kernel
theorem dX11_held_28 : decode cX11_held 28 = .ok (.invokevirtual 189, 3) := by decide +kernel
theorem dX11_held_31 : decode cX11_held 31 = .ok (.invokevirtual 210, 3) := by decide +kernel
theorem dX11_held_34 : decode cX11_held 34 = .ok (.aload_n 0, 1) := by decide +kernel
theorem dX11_held_35 : decode cX11_held 35 = .ok (.getfield 46, 3) := by decide +kernel
theorem dX11_held_38 : decode cX11_held 38 = .ok (.aload_n 3, 1) := by decide +kernel
theorem dX11_held_39 : decode cX11_held 39 = .ok (.invokevirtual 217, 3) := by decide +kernel
theorem dX11_held_42 : decode cX11_held 42 = .ok (.ireturn, 1) := by decide +kernel
theorem dX11_since_0 : decode cX11_since 0 = .ok (.iload_n 1, 1) := by decide +kernel
theorem dX11_since_1 : decode cX11_since 1 = .ok (.iconst 0, 1) := by decide +kernel
theorem dX11_since_2 : decode cX11_since 2 = .ok (.bipush 15, 2) := by decide +kernel
theorem dX11_since_4 : decode cX11_since 4 = .ok (.invokestatic 82, 3) := by decide +kernel
theorem dX11_since_7 : decode cX11_since 7 = .ok (.ifCond .eq 18, 3) := by decide +kernel
theorem dX11_since_10 : decode cX11_since 10 = .ok (.aload_n 0, 1) := by decide +kernel
theorem dX11_since_11 : decode cX11_since 11 = .ok (.getfield 46, 3) := by decide +kernel
theorem dX11_since_14 : decode cX11_since 14 = .ok (.iload_n 1, 1) := by decide +kernel
theorem dX11_since_15 : decode cX11_since 15 = .ok (.aload_n 0, 1) := by decide +kernel
theorem dX11_since_16 : decode cX11_since 16 = .ok (.invokevirtual 189, 3) := by decide +kernel
theorem dX11_since_19 : decode cX11_since 19 = .ok (.invokevirtual 219, 3) := by decide +kernel
theorem dX11_since_22 : decode cX11_since 22 = .ok (.goto 4, 3) := by decide +kernel
theorem dX11_since_25 : decode cX11_since 25 = .ok (.iconst (-1), 1) := by decide +kernel
theorem dX11_since_26 : decode cX11_since 26 = .ok (.ireturn, 1) := by decide +kernel
theorem dX11_stream_0 : decode cX11_stream 0 = .ok (.iload_n 2, 1) := by decide +kernel
theorem dX11_stream_1 : decode cX11_stream 1 = .ok (.ifCond .ne 7, 3) := by decide +kernel
theorem dX11_stream_4 : decode cX11_stream 4 = .ok (.iconst 1, 1) := by decide +kernel
theorem dX11_stream_5 : decode cX11_stream 5 = .ok (.goto 4, 3) := by decide +kernel
theorem dX11_stream_8 : decode cX11_stream 8 = .ok (.iconst 0, 1) := by decide +kernel
theorem dX11_stream_9 : decode cX11_stream 9 = .ok (.istore 6, 2) := by decide +kernel
theorem dX11_stream_11 : decode cX11_stream 11 = .ok (.iload_n 2, 1) := by decide +kernel
theorem dX11_stream_12 : decode cX11_stream 12 = .ok (.iconst 1, 1) := by decide +kernel
theorem dX11_stream_13 : decode cX11_stream 13 = .ok (.bipush 99, 2) := by decide +kernel
theorem dX11_stream_15 : decode cX11_stream 15 = .ok (.invokestatic 82, 3) := by decide +kernel
theorem dX11_stream_18 : decode cX11_stream 18 = .ok (.ifCond .eq 17, 3) := by decide +kernel
theorem dX11_stream_21 : decode cX11_stream 21 = .ok (.iload_n 3, 1) := by decide +kernel
theorem dX11_stream_22 : decode cX11_stream 22 = .ok (.iconst 1, 1) := by decide +kernel
theorem dX11_stream_23 : decode cX11_stream 23 = .ok (.bipush 60, 2) := by decide +kernel
theorem dX11_stream_25 : decode cX11_stream 25 = .ok (.invokestatic 82, 3) := by decide +kernel
theorem dX11_stream_28 : decode cX11_stream 28 = .ok (.ifCond .eq 7, 3) := by decide +kernel
theorem dX11_stream_31 : decode cX11_stream 31 = .ok (.iconst 1, 1) := by decide +kernel
theorem dX11_stream_32 : decode cX11_stream 32 = .ok (.goto 4, 3) := by decide +kernel
theorem dX11_stream_35 : decode cX11_stream 35 = .ok (.iconst 0, 1) := by decide +kernel
theorem dX11_stream_36 : decode cX11_stream 36 = .ok (.istore 7, 2) := by decide +kernel
theorem dX11_stream_38 : decode cX11_stream 38 = .ok (.iload_n 1, 1) := by decide +kernel
theorem dX11_stream_39 : decode cX11_stream 39 = .ok (.iconst 0, 1) := by decide +kernel
theorem dX11_stream_40 : decode cX11_stream 40 = .ok (.iconst 3, 1) := by decide +kernel
theorem dX11_stream_41 : decode cX11_stream 41 = .ok (.invokestatic 82, 3) := by decide +kernel
theorem dX11_stream_44 : decode cX11_stream 44 = .ok (.ifCond .eq 36, 3) := by decide +kernel
theorem dX11_stream_47 : decode cX11_stream 47 = .ok (.iload 6, 2) := by decide +kernel
theorem dX11_stream_49 : decode cX11_stream 49 = .ok (.ifCond .ne 8, 3) := by decide +kernel
theorem dX11_stream_52 : decode cX11_stream 52 = .ok (.iload 7, 2) := by decide +kernel
theorem dX11_stream_54 : decode cX11_stream 54 = .ok (.ifCond .eq 26, 3) := by decide +kernel
theorem dX11_stream_57 : decode cX11_stream 57 = .ok (.iload 4, 2) := by decide +kernel
theorem dX11_stream_59 : decode cX11_stream 59 = .ok (.iconst 1, 1) := by decide +kernel
theorem dX11_stream_60 : decode cX11_stream 60 = .ok (.bipush 60, 2) := by decide +kernel
theorem dX11_stream_62 : decode cX11_stream 62 = .ok (.invokestatic 82, 3) := by decide +kernel
theorem dX11_stream_65 : decode cX11_stream 65 = .ok (.ifCond .eq 15, 3) := by decide +kernel
theorem dX11_stream_68 : decode cX11_stream 68 = .ok (.iload 5, 2) := by decide +kernel
theorem dX11_stream_70 : decode cX11_stream 70 = .ok (.iconst 0, 1) := by decide +kernel
theorem dX11_stream_71 : decode cX11_stream 71 = .ok (.sipush 999, 3) := by decide +kernel
theorem dX11_stream_74 : decode cX11_stream 74 = .ok (.invokestatic 82, 3) := by decide +kernel
theorem dX11_stream_77 : decode cX11_stream 77 = .ok (.ifCond .ne 5, 3) := by decide +kernel
theorem dX11_stream_80 : decode cX11_stream 80 = .ok (.iconst 0, 1) := by decide +kernel
theorem dX11_stream_81 : decode cX11_stream 81 = .ok (.ireturn, 1) := by decide +kernel
theorem dX11_stream_82 : decode cX11_stream 82 = .ok (.aload_n 0, 1) := by decide +kernel
theorem dX11_stream_83 : decode cX11_stream 83 = .ok (.getfield 53, 3) := by decide +kernel
theorem dX11_stream_86 : decode cX11_stream 86 = .ok (.iload_n 1, 1) := by decide +kernel
theorem dX11_stream_87 : decode cX11_stream 87 = .ok (.iload 6, 2) := by decide +kernel
theorem dX11_stream_89 : decode cX11_stream 89 = .ok (.ifCond .eq 8, 3) := by decide +kernel
theorem dX11_stream_92 : decode cX11_stream 92 = .ok (.iload 4, 2) := by decide +kernel
theorem dX11_stream_94 : decode cX11_stream 94 = .ok (.goto 16, 3) := by decide +kernel
theorem dX11_stream_97 : decode cX11_stream 97 = .ok (.iload 4, 2) := by decide +kernel
theorem dX11_stream_99 : decode cX11_stream 99 = .ok (.iload_n 2, 1) := by decide +kernel
theorem dX11_stream_100 : decode cX11_stream 100 = .ok (.bipush 10, 2) := by decide +kernel
theorem dX11_stream_102 : decode cX11_stream 102 = .ok (.imul, 1) := by decide +kernel
theorem dX11_stream_103 : decode cX11_stream 103 = .ok (.iload_n 3, 1) := by decide +kernel
theorem dX11_stream_104 : decode cX11_stream 104 = .ok (.invokestatic 223, 3) := by decide +kernel
theorem dX11_stream_107 : decode cX11_stream 107 = .ok (.invokestatic 226, 3) := by decide +kernel
theorem dX11_stream_110 : decode cX11_stream 110 = .ok (.iload 5, 2) := by decide +kernel
theorem dX11_stream_112 : decode cX11_stream 112 = .ok (.invokevirtual 231, 3) := by decide +kernel
theorem dX11_stream_115 : decode cX11_stream 115 = .ok (.iconst 1, 1) := by decide +kernel
theorem dX11_stream_116 : decode cX11_stream 116 = .ok (.ireturn, 1) := by decide +kernel
theorem dX11_together_0 : decode cX11_together 0 = .ok (.iload_n 1, 1) := by decide +kernel
theorem dX11_together_1 : decode cX11_together 1 = .ok (.iconst 0, 1) := by decide +kernel
theorem dX11_together_2 : decode cX11_together 2 = .ok (.iconst 3, 1) := by decide +kernel
theorem dX11_together_3 : decode cX11_together 3 = .ok (.invokestatic 82, 3) := by decide +kernel
theorem dX11_together_6 : decode cX11_together 6 = .ok (.ifCond .eq 17, 3) := by decide +kernel
theorem dX11_together_9 : decode cX11_together 9 = .ok (.iload_n 2, 1) := by decide +kernel
theorem dX11_together_10 : decode cX11_together 10 = .ok (.iconst 0, 1) := by decide +kernel
theorem dX11_together_11 : decode cX11_together 11 = .ok (.iconst 3, 1) := by decide +kernel
theorem dX11_together_12 : decode cX11_together 12 = .ok (.invokestatic 82, 3) := by decide +kernel
theorem dX11_together_15 : decode cX11_together 15 = .ok (.ifCond .eq 8, 3) := by decide +kernel
theorem dX11_together_18 : decode cX11_together 18 = .ok (.iload_n 1, 1) := by decide +kernel
theorem dX11_together_19 : decode cX11_together 19 = .ok (.iload_n 2, 1) := by decide +kernel
theorem dX11_together_20 : decode cX11_together 20 = .ok (.if_icmp .ne 5, 3) := by decide +kernel
theorem dX11_together_23 : decode cX11_together 23 = .ok (.iconst 0, 1) := by decide +kernel
theorem dX11_together_24 : decode cX11_together 24 = .ok (.ireturn, 1) := by decide +kernel
theorem dX11_together_25 : decode cX11_together 25 = .ok (.aload_n 0, 1) := by decide +kernel
theorem dX11_together_26 : decode cX11_together 26 = .ok (.getfield 53, 3) := by decide +kernel
theorem dX11_together_29 : decode cX11_together 29 = .ok (.iload_n 1, 1) := by decide +kernel
theorem dX11_together_30 : decode cX11_together 30 = .ok (.iload_n 2, 1) := by decide +kernel
theorem dX11_together_31 : decode cX11_together 31 = .ok (.iload_n 3, 1) := by decide +kernel
theorem dX11_together_32 : decode cX11_together 32 = .ok (.invokevirtual 235, 3) := by decide +kernel
theorem dX11_together_35 : decode cX11_together 35 = .ok (.aload_n 0, 1) := by decide +kernel
theorem dX11_together_36 : decode cX11_together 36 = .ok (.getfield 53, 3) := by decide +kernel
theorem dX11_together_39 : decode cX11_together 39 = .ok (.iload_n 2, 1) := by decide +kernel
theorem dX11_together_40 : decode cX11_together 40 = .ok (.iload_n 1, 1) := by decide +kernel
theorem dX11_together_41 : decode cX11_together 41 = .ok (.iload_n 3, 1) := by decide +kernel
theorem dX11_together_42 : decode cX11_together 42 = .ok (.invokevirtual 235, 3) := by decide +kernel
theorem dX11_together_45 : decode cX11_together 45 = .ok (.iconst 1, 1) := by decide +kernel
theorem dX11_together_46 : decode cX11_together 46 = .ok (.ireturn, 1) := by decide +kernel
theorem dX11_lights_0 : decode cX11_lights 0 = .ok (.iload_n 1, 1) := by decide +kernel
theorem dX11_lights_1 : decode cX11_lights 1 = .ok (.iconst 0, 1) := by decide +kernel
theorem dX11_lights_2 : decode cX11_lights 2 = .ok (.bipush 9, 2) := by decide +kernel
theorem dX11_lights_4 : decode cX11_lights 4 = .ok (.invokestatic 82, 3) := by decide +kernel
theorem dX11_lights_7 : decode cX11_lights 7 = .ok (.ifCond .eq 24, 3) := by decide +kernel
theorem dX11_lights_10 : decode cX11_lights 10 = .ok (.iload_n 2, 1) := by decide +kernel
theorem dX11_lights_11 : decode cX11_lights 11 = .ok (.iconst 0, 1) := by decide +kernel
theorem dX11_lights_12 : decode cX11_lights 12 = .ok (.bipush 9, 2) := by decide +kernel
theorem dX11_lights_14 : decode cX11_lights 14 = .ok (.invokestatic 82, 3) := by decide +kernel
theorem dX11_lights_17 : decode cX11_lights 17 = .ok (.ifCond .eq 14, 3) := by decide +kernel
theorem dX11_lights_20 : decode cX11_lights 20 = .ok (.aload_n 0, 1) := by decide +kernel
theorem dX11_lights_21 : decode cX11_lights 21 = .ok (.getfield 53, 3) := by decide +kernel
theorem dX11_lights_24 : decode cX11_lights 24 = .ok (.iload_n 1, 1) := by decide +kernel
theorem dX11_lights_25 : decode cX11_lights 25 = .ok (.invokevirtual 239, 3) := by decide +kernel
theorem dX11_lights_28 : decode cX11_lights 28 = .ok (.ifCond .ne 5, 3) := by decide +kernel
theorem dX11_lights_31 : decode cX11_lights 31 = .ok (.iconst (-1), 1) := by decide +kernel
theorem dX11_lights_32 : decode cX11_lights 32 = .ok (.ireturn, 1) := by decide +kernel
theorem dX11_lights_33 : decode cX11_lights 33 = .ok (.iload_n 2, 1) := by decide +kernel
theorem dX11_lights_34 : decode cX11_lights 34 = .ok (.iconst 4, 1) := by decide +kernel
theorem dX11_lights_35 : decode cX11_lights 35 = .ok (.if_icmp .ne 11, 3) := by decide +kernel
theorem dX11_lights_38 : decode cX11_lights 38 = .ok (.aload_n 0, 1) := by decide +kernel
theorem dX11_lights_39 : decode cX11_lights 39 = .ok (.getfield 53, 3) := by decide +kernel
theorem dX11_lights_42 : decode cX11_lights 42 = .ok (.getfield 243, 3) := by decide +kernel
theorem dX11_lights_45 : decode cX11_lights 45 = .ok (.ireturn, 1) := by decide +kernel
theorem dX11_lights_46 : decode cX11_lights 46 = .ok (.iload_n 2, 1) := by decide +kernel
theorem dX11_lights_47 : decode cX11_lights 47 = .ok (.iconst 5, 1) := by decide +kernel
theorem dX11_lights_48 : decode cX11_lights 48 = .ok (.if_icmp .ne 11, 3) := by decide +kernel
theorem dX11_lights_51 : decode cX11_lights 51 = .ok (.aload_n 0, 1) := by decide +kernel
theorem dX11_lights_52 : decode cX11_lights 52 = .ok (.getfield 53, 3) := by decide +kernel
theorem dX11_lights_55 : decode cX11_lights 55 = .ok (.getfield 246, 3) := by decide +kernel
theorem dX11_lights_58 : decode cX11_lights 58 = .ok (.ireturn, 1) := by decide +kernel
theorem dX11_lights_59 : decode cX11_lights 59 = .ok (.iload_n 2, 1) := by decide +kernel
theorem dX11_lights_60 : decode cX11_lights 60 = .ok (.iconst 4, 1) := by decide +kernel
theorem dX11_lights_61 : decode cX11_lights 61 = .ok (.if_icmp .ge 7, 3) := by decide +kernel
theorem dX11_lights_64 : decode cX11_lights 64 = .ok (.iload_n 2, 1) := by decide +kernel
theorem dX11_lights_65 : decode cX11_lights 65 = .ok (.goto 7, 3) := by decide +kernel
theorem dX11_lights_68 : decode cX11_lights 68 = .ok (.iload_n 2, 1) := by decide +kernel
theorem dX11_lights_69 : decode cX11_lights 69 = .ok (.bipush 6, 2) := by decide +kernel
theorem dX11_lights_71 : decode cX11_lights 71 = .ok (.isub, 1) := by decide +kernel
theorem dX11_lights_72 : decode cX11_lights 72 = .ok (.istore_n 3, 1) := by decide +kernel
theorem dX11_lights_73 : decode cX11_lights 73 = .ok (.aload_n 0, 1) := by decide +kernel
theorem dX11_lights_74 : decode cX11_lights 74 = .ok (.getfield 53, 3) := by decide +kernel
theorem dX11_lights_77 : decode cX11_lights 77 = .ok (.iload_n 3, 1) := by decide +kernel
theorem dX11_lights_78 : decode cX11_lights 78 = .ok (.invokevirtual 249, 3) := by decide +kernel
theorem dX11_lights_81 : decode cX11_lights 81 = .ok (.ifCond .ne 5, 3) := by decide +kernel
theorem dX11_lights_84 : decode cX11_lights 84 = .ok (.iconst (-1), 1) := by decide +kernel
theorem dX11_lights_85 : decode cX11_lights 85 = .ok (.ireturn, 1) := by decide +kernel
theorem dX11_lights_86 : decode cX11_lights 86 = .ok (.iload_n 2, 1) := by decide +kernel
theorem dX11_lights_87 : decode cX11_lights 87 = .ok (.iconst 4, 1) := by decide +kernel
theorem dX11_lights_88 : decode cX11_lights 88 = .ok (.if_icmp .ge 14, 3) := by decide +kernel
theorem dX11_lights_91 : decode cX11_lights 91 = .ok (.aload_n 0, 1) := by decide +kernel
theorem dX11_lights_92 : decode cX11_lights 92 = .ok (.getfield 53, 3) := by decide +kernel
theorem dX11_lights_95 : decode cX11_lights 95 = .ok (.iload_n 3, 1) := by decide +kernel
theorem dX11_lights_96 : decode cX11_lights 96 = .ok (.invokevirtual 252, 3) := by decide +kernel
theorem dX11_lights_99 : decode cX11_lights 99 = .ok (.goto 12, 3) := by decide +kernel
theorem dX11_lights_102 : decode cX11_lights 102 = .ok (.aload_n 0, 1) := by decide +kernel
theorem dX11_lights_103 : decode cX11_lights 103 = .ok (.getfield 53, 3) := by decide +kernel
theorem dX11_lights_106 : decode cX11_lights 106 = .ok (.iload_n 3, 1) := by decide +kernel
theorem dX11_lights_107 : decode cX11_lights 107 = .ok (.iload_n 1, 1) := by decide +kernel
theorem dX11_lights_108 : decode cX11_lights 108 = .ok (.invokevirtual 256, 3) := by decide +kernel
theorem dX11_lights_111 : decode cX11_lights 111 = .ok (.ireturn, 1) := by decide +kernel
theorem dX11_voters_0 : decode cX11_voters 0 = .ok (.iload_n 1, 1) := by decide +kernel
theorem dX11_voters_1 : decode cX11_voters 1 = .ok (.iconst 1, 1) := by decide +kernel
theorem dX11_voters_2 : decode cX11_voters 2 = .ok (.sipush 9999, 3) := by decide +kernel
theorem dX11_voters_5 : decode cX11_voters 5 = .ok (.invokestatic 82, 3) := by decide +kernel
theorem dX11_voters_8 : decode cX11_voters 8 = .ok (.ifCond .eq 14, 3) := by decide +kernel
theorem dX11_voters_11 : decode cX11_voters 11 = .ok (.aload_n 0, 1) := by decide +kernel
theorem dX11_voters_12 : decode cX11_voters 12 = .ok (.getfield 60, 3) := by decide +kernel
theorem dX11_voters_15 : decode cX11_voters 15 = .ok (.iload_n 1, 1) := by decide +kernel
theorem dX11_voters_16 : decode cX11_voters 16 = .ok (.invokevirtual 259, 3) := by decide +kernel
theorem dX11_voters_19 : decode cX11_voters 19 = .ok (.goto 4, 3) := by decide +kernel
theorem dX11_voters_22 : decode cX11_voters 22 = .ok (.iconst (-1), 1) := by decide +kernel
theorem dX11_voters_23 : decode cX11_voters 23 = .ok (.ireturn, 1) := by decide +kernel
theorem dX11_leans_0 : decode cX11_leans 0 = .ok (.iload_n 1, 1) := by decide +kernel
theorem dX11_leans_1 : decode cX11_leans 1 = .ok (.iconst 0, 1) := by decide +kernel
theorem dX11_leans_2 : decode cX11_leans 2 = .ok (.aload_n 0, 1) := by decide +kernel
theorem dX11_leans_3 : decode cX11_leans 3 = .ok (.getfield 60, 3) := by decide +kernel
theorem dX11_leans_6 : decode cX11_leans 6 = .ok (.getfield 261, 3) := by decide +kernel
theorem dX11_leans_9 : decode cX11_leans 9 = .ok (.iconst 1, 1) := by decide +kernel
theorem dX11_leans_10 : decode cX11_leans 10 = .ok (.isub, 1) := by decide +kernel
theorem dX11_leans_11 : decode cX11_leans 11 = .ok (.invokestatic 82, 3) := by decide +kernel
theorem dX11_leans_14 : decode cX11_leans 14 = .ok (.ifCond .eq 24, 3) := by decide +kernel
theorem dX11_leans_17 : decode cX11_leans 17 = .ok (.iload_n 2, 1) := by decide +kernel
theorem dX11_leans_18 : decode cX11_leans 18 = .ok (.iconst 0, 1) := by decide +kernel
theorem dX11_leans_19 : decode cX11_leans 19 = .ok (.bipush 8, 2) := by decide +kernel
theorem dX11_leans_21 : decode cX11_leans 21 = .ok (.invokestatic 82, 3) := by decide +kernel
theorem dX11_leans_24 : decode cX11_leans 24 = .ok (.ifCond .eq 14, 3) := by decide +kernel
theorem dX11_leans_27 : decode cX11_leans 27 = .ok (.iload_n 3, 1) := by decide +kernel
theorem dX11_leans_28 : decode cX11_leans 28 = .ok (.bipush (-99), 2) := by decide +kernel
theorem dX11_leans_30 : decode cX11_leans 30 = .ok (.bipush 99, 2) := by decide +kernel
theorem dX11_leans_32 : decode cX11_leans 32 = .ok (.invokestatic 82, 3) := by decide +kernel
theorem dX11_leans_35 : decode cX11_leans 35 = .ok (.ifCond .ne 5, 3) := by decide +kernel
theorem dX11_leans_38 : decode cX11_leans 38 = .ok (.iconst 0, 1) := by decide +kernel
theorem dX11_leans_39 : decode cX11_leans 39 = .ok (.ireturn, 1) := by decide +kernel
theorem dX11_leans_40 : decode cX11_leans 40 = .ok (.aload_n 0, 1) := by decide +kernel
theorem dX11_leans_41 : decode cX11_leans 41 = .ok (.getfield 60, 3) := by decide +kernel
theorem dX11_leans_44 : decode cX11_leans 44 = .ok (.iload_n 1, 1) := by decide +kernel
theorem dX11_leans_45 : decode cX11_leans 45 = .ok (.iload_n 2, 1) := by decide +kernel
theorem dX11_leans_46 : decode cX11_leans 46 = .ok (.iload_n 3, 1) := by decide +kernel
theorem dX11_leans_47 : decode cX11_leans 47 = .ok (.invokevirtual 264, 3) := by decide +kernel
theorem dX11_leans_50 : decode cX11_leans 50 = .ok (.iconst 1, 1) := by decide +kernel
theorem dX11_leans_51 : decode cX11_leans 51 = .ok (.ireturn, 1) := by decide +kernel
theorem dX11_passes_0 : decode cX11_passes 0 = .ok (.iload_n 1, 1) := by decide +kernel
theorem dX11_passes_1 : decode cX11_passes 1 = .ok (.iconst 0, 1) := by decide +kernel
theorem dX11_passes_2 : decode cX11_passes 2 = .ok (.sipush 511, 3) := by decide +kernel
theorem dX11_passes_5 : decode cX11_passes 5 = .ok (.invokestatic 82, 3) := by decide +kernel
theorem dX11_passes_8 : decode cX11_passes 8 = .ok (.ifCond .ne 5, 3) := by decide +kernel
theorem dX11_passes_11 : decode cX11_passes 11 = .ok (.iconst (-1), 1) := by decide +kernel
theorem dX11_passes_12 : decode cX11_passes 12 = .ok (.ireturn, 1) := by decide +kernel
theorem dX11_passes_13 : decode cX11_passes 13 = .ok (.aload_n 0, 1) := by decide +kernel
theorem dX11_passes_14 : decode cX11_passes 14 = .ok (.getfield 60, 3) := by decide +kernel
theorem dX11_passes_17 : decode cX11_passes 17 = .ok (.iload_n 1, 1) := by decide +kernel
theorem dX11_passes_18 : decode cX11_passes 18 = .ok (.invokevirtual 267, 3) := by decide +kernel
theorem dX11_passes_21 : decode cX11_passes 21 = .ok (.ifCond .eq 7, 3) := by decide +kernel
theorem dX11_passes_24 : decode cX11_passes 24 = .ok (.iconst 1, 1) := by decide +kernel
theorem dX11_passes_25 : decode cX11_passes 25 = .ok (.goto 4, 3) := by decide +kernel
theorem dX11_passes_28 : decode cX11_passes 28 = .ok (.iconst 0, 1) := by decide +kernel
theorem dX11_passes_29 : decode cX11_passes 29 = .ok (.ireturn, 1) := by decide +kernel
theorem dX11_most_0 : decode cX11_most 0 = .ok (.iload_n 1, 1) := by decide +kernel
theorem dX11_most_1 : decode cX11_most 1 = .ok (.iconst 0, 1) := by decide +kernel
theorem dX11_most_2 : decode cX11_most 2 = .ok (.sipush 511, 3) := by decide +kernel
theorem dX11_most_5 : decode cX11_most 5 = .ok (.invokestatic 82, 3) := by decide +kernel
theorem dX11_most_8 : decode cX11_most 8 = .ok (.ifCond .eq 14, 3) := by decide +kernel
theorem dX11_most_11 : decode cX11_most 11 = .ok (.aload_n 0, 1) := by decide +kernel
theorem dX11_most_12 : decode cX11_most 12 = .ok (.getfield 60, 3) := by decide +kernel
theorem dX11_most_15 : decode cX11_most 15 = .ok (.iload_n 1, 1) := by decide +kernel
theorem dX11_most_16 : decode cX11_most 16 = .ok (.invokevirtual 270, 3) := by decide +kernel
theorem dX11_most_19 : decode cX11_most 19 = .ok (.goto 4, 3) := by decide +kernel
theorem dX11_most_22 : decode cX11_most 22 = .ok (.iconst (-1), 1) := by decide +kernel
theorem dX11_most_23 : decode cX11_most 23 = .ok (.ireturn, 1) := by decide +kernel
theorem dX11_counted_0 : decode cX11_counted 0 = .ok (.iload_n 3, 1) := by decide +kernel
theorem dX11_counted_1 : decode cX11_counted 1 = .ok (.iconst (-1), 1) := by decide +kernel
theorem dX11_counted_2 : decode cX11_counted 2 = .ok (.if_icmp .eq 26, 3) := by decide +kernel
theorem dX11_counted_5 : decode cX11_counted 5 = .ok (.iload_n 3, 1) := by decide +kernel
theorem dX11_counted_6 : decode cX11_counted 6 = .ok (.iconst 0, 1) := by decide +kernel
theorem dX11_counted_7 : decode cX11_counted 7 = .ok (.sipush 9999, 3) := by decide +kernel
theorem dX11_counted_10 : decode cX11_counted 10 = .ok (.invokestatic 82, 3) := by decide +kernel
theorem dX11_counted_13 : decode cX11_counted 13 = .ok (.ifCond .eq 19, 3) := by decide +kernel
theorem dX11_counted_16 : decode cX11_counted 16 = .ok (.iload 4, 2) := by decide +kernel
theorem dX11_counted_18 : decode cX11_counted 18 = .ok (.iconst 0, 1) := by decide +kernel
theorem dX11_counted_19 : decode cX11_counted 19 = .ok (.ldc_w 273, 3) := by decide +kernel
theorem dX11_counted_22 : decode cX11_counted 22 = .ok (.invokestatic 82, 3) := by decide +kernel
theorem dX11_counted_25 : decode cX11_counted 25 = .ok (.ifCond .eq 7, 3) := by decide +kernel
theorem dX11_counted_28 : decode cX11_counted 28 = .ok (.iconst 1, 1) := by decide +kernel
theorem dX11_counted_29 : decode cX11_counted 29 = .ok (.goto 4, 3) := by decide +kernel
theorem dX11_counted_32 : decode cX11_counted 32 = .ok (.iconst 0, 1) := by decide +kernel
theorem dX11_counted_33 : decode cX11_counted 33 = .ok (.istore 5, 2) := by decide +kernel
theorem dX11_counted_35 : decode cX11_counted 35 = .ok (.iload_n 1, 1) := by decide +kernel
theorem dX11_counted_36 : decode cX11_counted 36 = .ok (.iconst 0, 1) := by decide +kernel
theorem dX11_counted_37 : decode cX11_counted 37 = .ok (.bipush 7, 2) := by decide +kernel
theorem dX11_counted_39 : decode cX11_counted 39 = .ok (.invokestatic 82, 3) := by decide +kernel
theorem dX11_counted_42 : decode cX11_counted 42 = .ok (.ifCond .eq 18, 3) := by decide +kernel
theorem dX11_counted_45 : decode cX11_counted 45 = .ok (.iload_n 2, 1) := by decide +kernel
theorem dX11_counted_46 : decode cX11_counted 46 = .ok (.iconst 0, 1) := by decide +kernel
theorem dX11_counted_47 : decode cX11_counted 47 = .ok (.bipush 30, 2) := by decide +kernel
theorem dX11_counted_49 : decode cX11_counted 49 = .ok (.invokestatic 82, 3) := by decide +kernel
theorem dX11_counted_52 : decode cX11_counted 52 = .ok (.ifCond .eq 8, 3) := by decide +kernel
theorem dX11_counted_55 : decode cX11_counted 55 = .ok (.iload 5, 2) := by decide +kernel
theorem dX11_counted_57 : decode cX11_counted 57 = .ok (.ifCond .ne 5, 3) := by decide +kernel
theorem dX11_counted_60 : decode cX11_counted 60 = .ok (.iconst 0, 1) := by decide +kernel
theorem dX11_counted_61 : decode cX11_counted 61 = .ok (.ireturn, 1) := by decide +kernel
theorem dX11_counted_62 : decode cX11_counted 62 = .ok (.aload_n 0, 1) := by decide +kernel
theorem dX11_counted_63 : decode cX11_counted 63 = .ok (.getfield 67, 3) := by decide +kernel
theorem dX11_counted_66 : decode cX11_counted 66 = .ok (.iload_n 1, 1) := by decide +kernel
theorem dX11_counted_67 : decode cX11_counted 67 = .ok (.iload_n 2, 1) := by decide +kernel
theorem dX11_counted_68 : decode cX11_counted 68 = .ok (.iload_n 3, 1) := by decide +kernel
theorem dX11_counted_69 : decode cX11_counted 69 = .ok (.iload 4, 2) := by decide +kernel
theorem dX11_counted_71 : decode cX11_counted 71 = .ok (.invokevirtual 274, 3) := by decide +kernel
theorem dX11_counted_74 : decode cX11_counted 74 = .ok (.iconst 1, 1) := by decide +kernel
theorem dX11_counted_75 : decode cX11_counted 75 = .ok (.ireturn, 1) := by decide +kernel
theorem dX11_fell_0 : decode cX11_fell 0 = .ok (.iload_n 1, 1) := by decide +kernel
theorem dX11_fell_1 : decode cX11_fell 1 = .ok (.iconst 0, 1) := by decide +kernel
theorem dX11_fell_2 : decode cX11_fell 2 = .ok (.bipush 7, 2) := by decide +kernel
theorem dX11_fell_4 : decode cX11_fell 4 = .ok (.invokestatic 82, 3) := by decide +kernel
theorem dX11_fell_7 : decode cX11_fell 7 = .ok (.ifCond .eq 28, 3) := by decide +kernel
theorem dX11_fell_10 : decode cX11_fell 10 = .ok (.iload_n 2, 1) := by decide +kernel
theorem dX11_fell_11 : decode cX11_fell 11 = .ok (.iconst 0, 1) := by decide +kernel
theorem dX11_fell_12 : decode cX11_fell 12 = .ok (.bipush 30, 2) := by decide +kernel
theorem dX11_fell_14 : decode cX11_fell 14 = .ok (.invokestatic 82, 3) := by decide +kernel
theorem dX11_fell_17 : decode cX11_fell 17 = .ok (.ifCond .eq 18, 3) := by decide +kernel
theorem dX11_fell_20 : decode cX11_fell 20 = .ok (.iload_n 3, 1) := by decide +kernel
theorem dX11_fell_21 : decode cX11_fell 21 = .ok (.iconst 0, 1) := by decide +kernel
theorem dX11_fell_22 : decode cX11_fell 22 = .ok (.bipush 30, 2) := by decide +kernel
theorem dX11_fell_24 : decode cX11_fell 24 = .ok (.invokestatic 82, 3) := by decide +kernel
theorem dX11_fell_27 : decode cX11_fell 27 = .ok (.ifCond .eq 8, 3) := by decide +kernel
theorem dX11_fell_30 : decode cX11_fell 30 = .ok (.iload_n 2, 1) := by decide +kernel
theorem dX11_fell_31 : decode cX11_fell 31 = .ok (.iload_n 3, 1) := by decide +kernel
theorem dX11_fell_32 : decode cX11_fell 32 = .ok (.if_icmp .lt 5, 3) := by decide +kernel
theorem dX11_fell_35 : decode cX11_fell 35 = .ok (.iconst (-1), 1) := by decide +kernel
theorem dX11_fell_36 : decode cX11_fell 36 = .ok (.ireturn, 1) := by decide +kernel
