theorem dX0_init_0 : decode cX0_init 0 = .ok (.aload_n 0, 1) := by decide +kernel
theorem dX0_init_1 : decode cX0_init 1 = .ok (.invokespecial 3, 3) := by decide +kernel
theorem dX0_init_4 : decode cX0_init 4 = .ok (.aload_n 0, 1) := by decide +kernel
theorem dX0_init_5 : decode cX0_init 5 = .ok (.bipush 80, 2) := by decide +kernel
theorem dX0_init_7 : decode cX0_init 7 = .ok (.anewarray 11, 3) := by decide +kernel
theorem dX0_init_10 : decode cX0_init 10 = .ok (.putfield 13, 3) := by decide +kernel
theorem dX0_init_13 : decode cX0_init 13 = .ok (.aload_n 0, 1) := by decide +kernel
theorem dX0_init_14 : decode cX0_init 14 = .ok (.bipush 80, 2) := by decide +kernel
theorem dX0_init_16 : decode cX0_init 16 = .ok (.newarray .int, 2) := by decide +kernel
theorem dX0_init_18 : decode cX0_init 18 = .ok (.putfield 17, 3) := by decide +kernel
theorem dX0_init_21 : decode cX0_init 21 = .ok (.aload_n 0, 1) := by decide +kernel
theorem dX0_init_22 : decode cX0_init 22 = .ok (.bipush 80, 2) := by decide +kernel
theorem dX0_init_24 : decode cX0_init 24 = .ok (.newarray .boolean, 2) := by decide +kernel
theorem dX0_init_26 : decode cX0_init 26 = .ok (.putfield 21, 3) := by decide +kernel
theorem dX0_init_29 : decode cX0_init 29 = .ok (.aload_n 0, 1) := by decide +kernel
theorem dX0_init_30 : decode cX0_init 30 = .ok (.sipush 128, 3) := by decide +kernel
theorem dX0_init_33 : decode cX0_init 33 = .ok (.newarray .int, 2) := by decide +kernel
theorem dX0_init_35 : decode cX0_init 35 = .ok (.putfield 25, 3) := by decide +kernel
theorem dX0_init_38 : decode cX0_init 38 = .ok (.aload_n 0, 1) := by decide +kernel
theorem dX0_init_39 : decode cX0_init 39 = .ok (.sipush 128, 3) := by decide +kernel
theorem dX0_init_42 : decode cX0_init 42 = .ok (.newarray .int, 2) := by decide +kernel
theorem dX0_init_44 : decode cX0_init 44 = .ok (.putfield 28, 3) := by decide +kernel
theorem dX0_init_47 : decode cX0_init 47 = .ok (.iconst 0, 1) := by decide +kernel
theorem dX0_init_48 : decode cX0_init 48 = .ok (.istore_n 1, 1) := by decide +kernel
theorem dX0_init_49 : decode cX0_init 49 = .ok (.iconst 0, 1) := by decide +kernel
theorem dX0_init_50 : decode cX0_init 50 = .ok (.istore_n 2, 1) := by decide +kernel
theorem dX0_init_51 : decode cX0_init 51 = .ok (.iload_n 2, 1) := by decide +kernel
theorem dX0_init_52 : decode cX0_init 52 = .ok (.bipush 16, 2) := by decide +kernel
theorem dX0_init_54 : decode cX0_init 54 = .ok (.if_icmp .ge 54, 3) := by decide +kernel
theorem dX0_init_57 : decode cX0_init 57 = .ok (.iload_n 2, 1) := by decide +kernel
theorem dX0_init_58 : decode cX0_init 58 = .ok (.istore_n 3, 1) := by decide +kernel
theorem dX0_init_59 : decode cX0_init 59 = .ok (.iload_n 3, 1) := by decide +kernel
theorem dX0_init_60 : decode cX0_init 60 = .ok (.bipush 16, 2) := by decide +kernel
theorem dX0_init_62 : decode cX0_init 62 = .ok (.if_icmp .ge 40, 3) := by decide +kernel
theorem dX0_init_65 : decode cX0_init 65 = .ok (.iload_n 3, 1) := by decide +kernel
theorem dX0_init_66 : decode cX0_init 66 = .ok (.iload_n 2, 1) := by decide +kernel
theorem dX0_init_67 : decode cX0_init 67 = .ok (.isub, 1) := by decide +kernel
theorem dX0_init_68 : decode cX0_init 68 = .ok (.bipush 8, 2) := by decide +kernel
theorem dX0_init_70 : decode cX0_init 70 = .ok (.if_icmp .eq 26, 3) := by decide +kernel
theorem dX0_init_73 : decode cX0_init 73 = .ok (.iload_n 1, 1) := by decide +kernel
theorem dX0_init_74 : decode cX0_init 74 = .ok (.sipush 128, 3) := by decide +kernel
theorem dX0_init_77 : decode cX0_init 77 = .ok (.if_icmp .ge 19, 3) := by decide +kernel
theorem dX0_init_80 : decode cX0_init 80 = .ok (.aload_n 0, 1) := by decide +kernel
theorem dX0_init_81 : decode cX0_init 81 = .ok (.getfield 25, 3) := by decide +kernel
theorem dX0_init_84 : decode cX0_init 84 = .ok (.iload_n 1, 1) := by decide +kernel
theorem dX0_init_85 : decode cX0_init 85 = .ok (.iconst 1, 1) := by decide +kernel
theorem dX0_init_86 : decode cX0_init 86 = .ok (.iload_n 2, 1) := by decide +kernel
theorem dX0_init_87 : decode cX0_init 87 = .ok (.ishl, 1) := by decide +kernel
theorem dX0_init_88 : decode cX0_init 88 = .ok (.iconst 1, 1) := by decide +kernel
theorem dX0_init_89 : decode cX0_init 89 = .ok (.iload_n 3, 1) := by decide +kernel
theorem dX0_init_90 : decode cX0_init 90 = .ok (.ishl, 1) := by decide +kernel
theorem dX0_init_91 : decode cX0_init 91 = .ok (.ior, 1) := by decide +kernel
theorem dX0_init_92 : decode cX0_init 92 = .ok (.iastore, 1) := by decide +kernel
theorem dX0_init_93 : decode cX0_init 93 = .ok (.iinc 1 1, 3) := by decide +kernel
theorem dX0_init_96 : decode cX0_init 96 = .ok (.iinc 3 1, 3) := by decide +kernel
theorem dX0_init_99 : decode cX0_init 99 = .ok (.goto (-40), 3) := by decide +kernel
theorem dX0_init_102 : decode cX0_init 102 = .ok (.iinc 2 1, 3) := by decide +kernel
theorem dX0_init_105 : decode cX0_init 105 = .ok (.goto (-54), 3) := by decide +kernel
theorem dX0_init_108 : decode cX0_init 108 = .ok (.return_, 1) := by decide +kernel
theorem dX0_add_0 : decode cX0_add 0 = .ok (.aload_n 0, 1) := by decide +kernel
theorem dX0_add_1 : decode cX0_add 1 = .ok (.getfield 31, 3) := by decide +kernel
theorem dX0_add_4 : decode cX0_add 4 = .ok (.bipush 80, 2) := by decide +kernel
theorem dX0_add_6 : decode cX0_add 6 = .ok (.if_icmp .lt 5, 3) := by decide +kernel
theorem dX0_add_9 : decode cX0_add 9 = .ok (.iconst 0, 1) := by decide +kernel
theorem dX0_add_10 : decode cX0_add 10 = .ok (.ireturn, 1) := by decide +kernel
theorem dX0_add_11 : decode cX0_add 11 = .ok (.aload_n 0, 1) := by decide +kernel
theorem dX0_add_12 : decode cX0_add 12 = .ok (.getfield 13, 3) := by decide +kernel
theorem dX0_add_15 : decode cX0_add 15 = .ok (.aload_n 0, 1) := by decide +kernel
theorem dX0_add_16 : decode cX0_add 16 = .ok (.getfield 31, 3) := by decide +kernel
theorem dX0_add_19 : decode cX0_add 19 = .ok (.aload_n 1, 1) := by decide +kernel
theorem dX0_add_20 : decode cX0_add 20 = .ok (.aastore, 1) := by decide +kernel
theorem dX0_add_21 : decode cX0_add 21 = .ok (.aload_n 0, 1) := by decide +kernel
theorem dX0_add_22 : decode cX0_add 22 = .ok (.getfield 17, 3) := by decide +kernel
theorem dX0_add_25 : decode cX0_add 25 = .ok (.aload_n 0, 1) := by decide +kernel
theorem dX0_add_26 : decode cX0_add 26 = .ok (.getfield 31, 3) := by decide +kernel
theorem dX0_add_29 : decode cX0_add 29 = .ok (.iload_n 2, 1) := by decide +kernel
theorem dX0_add_30 : decode cX0_add 30 = .ok (.iastore, 1) := by decide +kernel
theorem dX0_add_31 : decode cX0_add 31 = .ok (.aload_n 0, 1) := by decide +kernel
theorem dX0_add_32 : decode cX0_add 32 = .ok (.getfield 21, 3) := by decide +kernel
theorem dX0_add_35 : decode cX0_add 35 = .ok (.aload_n 0, 1) := by decide +kernel
theorem dX0_add_36 : decode cX0_add 36 = .ok (.getfield 31, 3) := by decide +kernel
theorem dX0_add_39 : decode cX0_add 39 = .ok (.iload_n 3, 1) := by decide +kernel
theorem dX0_add_40 : decode cX0_add 40 = .ok (.bastore, 1) := by decide +kernel
theorem dX0_add_41 : decode cX0_add 41 = .ok (.aload_n 0, 1) := by decide +kernel
theorem dX0_add_42 : decode cX0_add 42 = .ok (.dup, 1) := by decide +kernel
theorem dX0_add_43 : decode cX0_add 43 = .ok (.getfield 31, 3) := by decide +kernel
theorem dX0_add_46 : decode cX0_add 46 = .ok (.iconst 1, 1) := by decide +kernel
theorem dX0_add_47 : decode cX0_add 47 = .ok (.iadd, 1) := by decide +kernel
theorem dX0_add_48 : decode cX0_add 48 = .ok (.putfield 31, 3) := by decide +kernel
theorem dX0_add_51 : decode cX0_add 51 = .ok (.iconst 1, 1) := by decide +kernel
theorem dX0_add_52 : decode cX0_add 52 = .ok (.ireturn, 1) := by decide +kernel
theorem dX0_toldBy_0 : decode cX0_toldBy 0 = .ok (.iconst 0, 1) := by decide +kernel
theorem dX0_toldBy_1 : decode cX0_toldBy 1 = .ok (.istore_n 2, 1) := by decide +kernel
theorem dX0_toldBy_2 : decode cX0_toldBy 2 = .ok (.iconst 0, 1) := by decide +kernel
theorem dX0_toldBy_3 : decode cX0_toldBy 3 = .ok (.istore_n 3, 1) := by decide +kernel
theorem dX0_toldBy_4 : decode cX0_toldBy 4 = .ok (.iload_n 3, 1) := by decide +kernel
theorem dX0_toldBy_5 : decode cX0_toldBy 5 = .ok (.aload_n 0, 1) := by decide +kernel
theorem dX0_toldBy_6 : decode cX0_toldBy 6 = .ok (.getfield 31, 3) := by decide +kernel
theorem dX0_toldBy_9 : decode cX0_toldBy 9 = .ok (.if_icmp .ge 28, 3) := by decide +kernel
theorem dX0_toldBy_12 : decode cX0_toldBy 12 = .ok (.iload_n 3, 1) := by decide +kernel
theorem dX0_toldBy_13 : decode cX0_toldBy 13 = .ok (.bipush 80, 2) := by decide +kernel
theorem dX0_toldBy_15 : decode cX0_toldBy 15 = .ok (.if_icmp .ge 22, 3) := by decide +kernel
theorem dX0_toldBy_18 : decode cX0_toldBy 18 = .ok (.aload_n 0, 1) := by decide +kernel
theorem dX0_toldBy_19 : decode cX0_toldBy 19 = .ok (.getfield 17, 3) := by decide +kernel
theorem dX0_toldBy_22 : decode cX0_toldBy 22 = .ok (.iload_n 3, 1) := by decide +kernel
theorem dX0_toldBy_23 : decode cX0_toldBy 23 = .ok (.iaload, 1) := by decide +kernel
theorem dX0_toldBy_24 : decode cX0_toldBy 24 = .ok (.iload_n 1, 1) := by decide +kernel
theorem dX0_toldBy_25 : decode cX0_toldBy 25 = .ok (.if_icmp .gt 6, 3) := by decide +kernel
theorem dX0_toldBy_28 : decode cX0_toldBy 28 = .ok (.iinc 2 1, 3) := by decide +kernel
theorem dX0_toldBy_31 : decode cX0_toldBy 31 = .ok (.iinc 3 1, 3) := by decide +kernel
theorem dX0_toldBy_34 : decode cX0_toldBy 34 = .ok (.goto (-30), 3) := by decide +kernel
theorem dX0_toldBy_37 : decode cX0_toldBy 37 = .ok (.iload_n 2, 1) := by decide +kernel
theorem dX0_toldBy_38 : decode cX0_toldBy 38 = .ok (.ireturn, 1) := by decide +kernel
theorem dX0_keepFrom_0 : decode cX0_keepFrom 0 = .ok (.aload_n 0, 1) := by decide +kernel
theorem dX0_keepFrom_1 : decode cX0_keepFrom 1 = .ok (.invokevirtual 35, 3) := by decide +kernel
theorem dX0_keepFrom_4 : decode cX0_keepFrom 4 = .ok (.aload_n 0, 1) := by decide +kernel
theorem dX0_keepFrom_5 : decode cX0_keepFrom 5 = .ok (.iload_n 1, 1) := by decide +kernel
theorem dX0_keepFrom_6 : decode cX0_keepFrom 6 = .ok (.iload_n 2, 1) := by decide +kernel
theorem dX0_keepFrom_7 : decode cX0_keepFrom 7 = .ok (.invokevirtual 38, 3) := by decide +kernel
theorem dX0_keepFrom_10 : decode cX0_keepFrom 10 = .ok (.return_, 1) := by decide +kernel
theorem dX0_judge_0 : decode cX0_judge 0 = .ok (.aload_n 1, 1) := by decide +kernel
theorem dX0_judge_1 : decode cX0_judge 1 = .ok (.invokevirtual 42, 3) := by decide +kernel
theorem dX0_judge_4 : decode cX0_judge 4 = .ok (.istore_n 2, 1) := by decide +kernel
theorem dX0_judge_5 : decode cX0_judge 5 = .ok (.iconst 0, 1) := by decide +kernel
theorem dX0_judge_6 : decode cX0_judge 6 = .ok (.istore_n 3, 1) := by decide +kernel
theorem dX0_judge_7 : decode cX0_judge 7 = .ok (.iconst 0, 1) := by decide +kernel
theorem dX0_judge_8 : decode cX0_judge 8 = .ok (.istore 4, 2) := by decide +kernel
theorem dX0_judge_10 : decode cX0_judge 10 = .ok (.iload 4, 2) := by decide +kernel
theorem dX0_judge_12 : decode cX0_judge 12 = .ok (.aload_n 0, 1) := by decide +kernel
theorem dX0_judge_13 : decode cX0_judge 13 = .ok (.getfield 46, 3) := by decide +kernel
theorem dX0_judge_16 : decode cX0_judge 16 = .ok (.if_icmp .ge 34, 3) := by decide +kernel
theorem dX0_judge_19 : decode cX0_judge 19 = .ok (.iload 4, 2) := by decide +kernel
theorem dX0_judge_21 : decode cX0_judge 21 = .ok (.sipush 128, 3) := by decide +kernel
theorem dX0_judge_24 : decode cX0_judge 24 = .ok (.if_icmp .ge 26, 3) := by decide +kernel
theorem dX0_judge_27 : decode cX0_judge 27 = .ok (.aload_n 0, 1) := by decide +kernel
theorem dX0_judge_28 : decode cX0_judge 28 = .ok (.getfield 28, 3) := by decide +kernel
theorem dX0_judge_31 : decode cX0_judge 31 = .ok (.iload 4, 2) := by decide +kernel
theorem dX0_judge_33 : decode cX0_judge 33 = .ok (.iaload, 1) := by decide +kernel
theorem dX0_judge_34 : decode cX0_judge 34 = .ok (.iload_n 2, 1) := by decide +kernel
theorem dX0_judge_35 : decode cX0_judge 35 = .ok (.invokestatic 49, 3) := by decide +kernel
theorem dX0_judge_38 : decode cX0_judge 38 = .ok (.ifCond .eq 6, 3) := by decide +kernel
theorem dX0_judge_41 : decode cX0_judge 41 = .ok (.iinc 3 1, 3) := by decide +kernel
theorem dX0_judge_44 : decode cX0_judge 44 = .ok (.iinc 4 1, 3) := by decide +kernel
theorem dX0_judge_47 : decode cX0_judge 47 = .ok (.goto (-37), 3) := by decide +kernel
theorem dX0_judge_50 : decode cX0_judge 50 = .ok (.aload_n 0, 1) := by decide +kernel
theorem dX0_judge_51 : decode cX0_judge 51 = .ok (.getfield 46, 3) := by decide +kernel
theorem dX0_judge_54 : decode cX0_judge 54 = .ok (.ifCond .ne 5, 3) := by decide +kernel
theorem dX0_judge_57 : decode cX0_judge 57 = .ok (.iconst (-1), 1) := by decide +kernel
theorem dX0_judge_58 : decode cX0_judge 58 = .ok (.ireturn, 1) := by decide +kernel
theorem dX0_judge_59 : decode cX0_judge 59 = .ok (.iload_n 3, 1) := by decide +kernel
theorem dX0_judge_60 : decode cX0_judge 60 = .ok (.aload_n 0, 1) := by decide +kernel
theorem dX0_judge_61 : decode cX0_judge 61 = .ok (.getfield 46, 3) := by decide +kernel
theorem dX0_judge_64 : decode cX0_judge 64 = .ok (.if_icmp .ne 7, 3) := by decide +kernel
theorem dX0_judge_67 : decode cX0_judge 67 = .ok (.iconst 2, 1) := by decide +kernel
theorem dX0_judge_68 : decode cX0_judge 68 = .ok (.goto 12, 3) := by decide +kernel
theorem dX0_judge_71 : decode cX0_judge 71 = .ok (.iload_n 3, 1) := by decide +kernel
theorem dX0_judge_72 : decode cX0_judge 72 = .ok (.ifCond .le 7, 3) := by decide +kernel
theorem dX0_judge_75 : decode cX0_judge 75 = .ok (.iconst 1, 1) := by decide +kernel
theorem dX0_judge_76 : decode cX0_judge 76 = .ok (.goto 4, 3) := by decide +kernel
theorem dX0_judge_79 : decode cX0_judge 79 = .ok (.iconst 0, 1) := by decide +kernel
theorem dX0_judge_80 : decode cX0_judge 80 = .ok (.ireturn, 1) := by decide +kernel
theorem dX0_firstYearOf_0 : decode cX0_firstYearOf 0 = .ok (.iconst (-1), 1) := by decide +kernel
theorem dX0_firstYearOf_1 : decode cX0_firstYearOf 1 = .ok (.istore_n 3, 1) := by decide +kernel
theorem dX0_firstYearOf_2 : decode cX0_firstYearOf 2 = .ok (.aload_n 0, 1) := by decide +kernel
theorem dX0_firstYearOf_3 : decode cX0_firstYearOf 3 = .ok (.invokevirtual 35, 3) := by decide +kernel
theorem dX0_firstYearOf_6 : decode cX0_firstYearOf 6 = .ok (.iload_n 2, 1) := by decide +kernel
theorem dX0_firstYearOf_7 : decode cX0_firstYearOf 7 = .ok (.istore 4, 2) := by decide +kernel
theorem dX0_firstYearOf_9 : decode cX0_firstYearOf 9 = .ok (.iload 4, 2) := by decide +kernel
theorem dX0_firstYearOf_11 : decode cX0_firstYearOf 11 = .ok (.ifCond .lt 35, 3) := by decide +kernel
theorem dX0_firstYearOf_14 : decode cX0_firstYearOf 14 = .ok (.aload_n 0, 1) := by decide +kernel
theorem dX0_firstYearOf_15 : decode cX0_firstYearOf 15 = .ok (.iload 4, 2) := by decide +kernel
theorem dX0_firstYearOf_17 : decode cX0_firstYearOf 17 = .ok (.iload 4, 2) := by decide +kernel
theorem dX0_firstYearOf_19 : decode cX0_firstYearOf 19 = .ok (.invokevirtual 38, 3) := by decide +kernel
theorem dX0_firstYearOf_22 : decode cX0_firstYearOf 22 = .ok (.aload_n 0, 1) := by decide +kernel
theorem dX0_firstYearOf_23 : decode cX0_firstYearOf 23 = .ok (.getfield 46, 3) := by decide +kernel
theorem dX0_firstYearOf_26 : decode cX0_firstYearOf 26 = .ok (.ifCond .le 14, 3) := by decide +kernel
theorem dX0_firstYearOf_29 : decode cX0_firstYearOf 29 = .ok (.aload_n 0, 1) := by decide +kernel
theorem dX0_firstYearOf_30 : decode cX0_firstYearOf 30 = .ok (.iload_n 1, 1) := by decide +kernel
theorem dX0_firstYearOf_31 : decode cX0_firstYearOf 31 = .ok (.invokevirtual 53, 3) := by decide +kernel
theorem dX0_firstYearOf_34 : decode cX0_firstYearOf 34 = .ok (.ifCond .eq 6, 3) := by decide +kernel
theorem dX0_firstYearOf_37 : decode cX0_firstYearOf 37 = .ok (.iload 4, 2) := by decide +kernel
theorem dX0_firstYearOf_39 : decode cX0_firstYearOf 39 = .ok (.istore_n 3, 1) := by decide +kernel
theorem dX0_firstYearOf_40 : decode cX0_firstYearOf 40 = .ok (.iinc 4 (-1), 3) := by decide +kernel
theorem dX0_firstYearOf_43 : decode cX0_firstYearOf 43 = .ok (.goto (-34), 3) := by decide +kernel
theorem dX0_firstYearOf_46 : decode cX0_firstYearOf 46 = .ok (.iload_n 3, 1) := by decide +kernel
theorem dX0_firstYearOf_47 : decode cX0_firstYearOf 47 = .ok (.ireturn, 1) := by decide +kernel
theorem dX0_keepAll_0 : decode cX0_keepAll 0 = .ok (.aload_n 0, 1) := by decide +kernel
theorem dX0_keepAll_1 : decode cX0_keepAll 1 = .ok (.getfield 25, 3) := by decide +kernel
theorem dX0_keepAll_4 : decode cX0_keepAll 4 = .ok (.iconst 0, 1) := by decide +kernel
theorem dX0_keepAll_5 : decode cX0_keepAll 5 = .ok (.aload_n 0, 1) := by decide +kernel
theorem dX0_keepAll_6 : decode cX0_keepAll 6 = .ok (.getfield 28, 3) := by decide +kernel
theorem dX0_keepAll_9 : decode cX0_keepAll 9 = .ok (.iconst 0, 1) := by decide +kernel
theorem dX0_keepAll_10 : decode cX0_keepAll 10 = .ok (.sipush 128, 3) := by decide +kernel
theorem dX0_keepAll_13 : decode cX0_keepAll 13 = .ok (.invokestatic 57, 3) := by decide +kernel
theorem dX0_keepAll_16 : decode cX0_keepAll 16 = .ok (.aload_n 0, 1) := by decide +kernel
theorem dX0_keepAll_17 : decode cX0_keepAll 17 = .ok (.sipush 128, 3) := by decide +kernel
theorem dX0_keepAll_20 : decode cX0_keepAll 20 = .ok (.putfield 46, 3) := by decide +kernel
theorem dX0_keepAll_23 : decode cX0_keepAll 23 = .ok (.return_, 1) := by decide +kernel
theorem dX0_ruleOut_0 : decode cX0_ruleOut 0 = .ok (.iconst 0, 1) := by decide +kernel
theorem dX0_ruleOut_1 : decode cX0_ruleOut 1 = .ok (.istore_n 3, 1) := by decide +kernel
theorem dX0_ruleOut_2 : decode cX0_ruleOut 2 = .ok (.iload_n 3, 1) := by decide +kernel
theorem dX0_ruleOut_3 : decode cX0_ruleOut 3 = .ok (.aload_n 0, 1) := by decide +kernel
theorem dX0_ruleOut_4 : decode cX0_ruleOut 4 = .ok (.getfield 31, 3) := by decide +kernel
theorem dX0_ruleOut_7 : decode cX0_ruleOut 7 = .ok (.if_icmp .ge 57, 3) := by decide +kernel
theorem dX0_ruleOut_10 : decode cX0_ruleOut 10 = .ok (.iload_n 3, 1) := by decide +kernel
theorem dX0_ruleOut_11 : decode cX0_ruleOut 11 = .ok (.bipush 80, 2) := by decide +kernel
theorem dX0_ruleOut_13 : decode cX0_ruleOut 13 = .ok (.if_icmp .ge 51, 3) := by decide +kernel
theorem dX0_ruleOut_16 : decode cX0_ruleOut 16 = .ok (.aload_n 0, 1) := by decide +kernel
theorem dX0_ruleOut_17 : decode cX0_ruleOut 17 = .ok (.getfield 13, 3) := by decide +kernel
theorem dX0_ruleOut_20 : decode cX0_ruleOut 20 = .ok (.iload_n 3, 1) := by decide +kernel
theorem dX0_ruleOut_21 : decode cX0_ruleOut 21 = .ok (.aaload, 1) := by decide +kernel
theorem dX0_ruleOut_22 : decode cX0_ruleOut 22 = .ok (.astore 4, 2) := by decide +kernel
theorem dX0_ruleOut_24 : decode cX0_ruleOut 24 = .ok (.aload 4, 2) := by decide +kernel
theorem dX0_ruleOut_26 : decode cX0_ruleOut 26 = .ok (.ifnull 32, 3) := by decide +kernel
theorem dX0_ruleOut_29 : decode cX0_ruleOut 29 = .ok (.aload_n 0, 1) := by decide +kernel
theorem dX0_ruleOut_30 : decode cX0_ruleOut 30 = .ok (.getfield 17, 3) := by decide +kernel
theorem dX0_ruleOut_33 : decode cX0_ruleOut 33 = .ok (.iload_n 3, 1) := by decide +kernel
theorem dX0_ruleOut_34 : decode cX0_ruleOut 34 = .ok (.iaload, 1) := by decide +kernel
theorem dX0_ruleOut_35 : decode cX0_ruleOut 35 = .ok (.iload_n 1, 1) := by decide +kernel
theorem dX0_ruleOut_36 : decode cX0_ruleOut 36 = .ok (.iload_n 2, 1) := by decide +kernel
theorem dX0_ruleOut_37 : decode cX0_ruleOut 37 = .ok (.invokestatic 63, 3) := by decide +kernel
theorem dX0_ruleOut_40 : decode cX0_ruleOut 40 = .ok (.ifCond .eq 18, 3) := by decide +kernel
theorem dX0_ruleOut_43 : decode cX0_ruleOut 43 = .ok (.aload_n 0, 1) := by decide +kernel
theorem dX0_ruleOut_44 : decode cX0_ruleOut 44 = .ok (.aload 4, 2) := by decide +kernel
theorem dX0_ruleOut_46 : decode cX0_ruleOut 46 = .ok (.invokevirtual 42, 3) := by decide +kernel
theorem dX0_ruleOut_49 : decode cX0_ruleOut 49 = .ok (.aload_n 0, 1) := by decide +kernel
theorem dX0_ruleOut_50 : decode cX0_ruleOut 50 = .ok (.getfield 21, 3) := by decide +kernel
theorem dX0_ruleOut_53 : decode cX0_ruleOut 53 = .ok (.iload_n 3, 1) := by decide +kernel
theorem dX0_ruleOut_54 : decode cX0_ruleOut 54 = .ok (.baload, 1) := by decide +kernel
theorem dX0_ruleOut_55 : decode cX0_ruleOut 55 = .ok (.invokevirtual 67, 3) := by decide +kernel
theorem dX0_ruleOut_58 : decode cX0_ruleOut 58 = .ok (.iinc 3 1, 3) := by decide +kernel
theorem dX0_ruleOut_61 : decode cX0_ruleOut 61 = .ok (.goto (-59), 3) := by decide +kernel
theorem dX0_ruleOut_64 : decode cX0_ruleOut 64 = .ok (.return_, 1) := by decide +kernel
theorem dX0_keepThoseOf_0 : decode cX0_keepThoseOf 0 = .ok (.iconst 0, 1) := by decide +kernel
theorem dX0_keepThoseOf_1 : decode cX0_keepThoseOf 1 = .ok (.istore_n 3, 1) := by decide +kernel
theorem dX0_keepThoseOf_2 : decode cX0_keepThoseOf 2 = .ok (.iconst 0, 1) := by decide +kernel
theorem dX0_keepThoseOf_3 : decode cX0_keepThoseOf 3 = .ok (.istore 4, 2) := by decide +kernel
theorem dX0_keepThoseOf_5 : decode cX0_keepThoseOf 5 = .ok (.iload 4, 2) := by decide +kernel
theorem dX0_keepThoseOf_7 : decode cX0_keepThoseOf 7 = .ok (.aload_n 0, 1) := by decide +kernel
theorem dX0_keepThoseOf_8 : decode cX0_keepThoseOf 8 = .ok (.getfield 46, 3) := by decide +kernel
theorem dX0_keepThoseOf_11 : decode cX0_keepThoseOf 11 = .ok (.if_icmp .ge 48, 3) := by decide +kernel
theorem dX0_keepThoseOf_14 : decode cX0_keepThoseOf 14 = .ok (.iload 4, 2) := by decide +kernel
theorem dX0_keepThoseOf_16 : decode cX0_keepThoseOf 16 = .ok (.sipush 128, 3) := by decide +kernel
theorem dX0_keepThoseOf_19 : decode cX0_keepThoseOf 19 = .ok (.if_icmp .ge 40, 3) := by decide +kernel
theorem dX0_keepThoseOf_22 : decode cX0_keepThoseOf 22 = .ok (.aload_n 0, 1) := by decide +kernel
theorem dX0_keepThoseOf_23 : decode cX0_keepThoseOf 23 = .ok (.getfield 28, 3) := by decide +kernel
theorem dX0_keepThoseOf_26 : decode cX0_keepThoseOf 26 = .ok (.iload 4, 2) := by decide +kernel
theorem dX0_keepThoseOf_28 : decode cX0_keepThoseOf 28 = .ok (.iaload, 1) := by decide +kernel
theorem dX0_keepThoseOf_29 : decode cX0_keepThoseOf 29 = .ok (.iload_n 1, 1) := by decide +kernel
theorem dX0_keepThoseOf_30 : decode cX0_keepThoseOf 30 = .ok (.invokestatic 49, 3) := by decide +kernel
theorem dX0_keepThoseOf_33 : decode cX0_keepThoseOf 33 = .ok (.iload_n 2, 1) := by decide +kernel
theorem dX0_keepThoseOf_34 : decode cX0_keepThoseOf 34 = .ok (.if_icmp .ne 19, 3) := by decide +kernel
theorem dX0_keepThoseOf_37 : decode cX0_keepThoseOf 37 = .ok (.aload_n 0, 1) := by decide +kernel
theorem dX0_keepThoseOf_38 : decode cX0_keepThoseOf 38 = .ok (.getfield 28, 3) := by decide +kernel
theorem dX0_keepThoseOf_41 : decode cX0_keepThoseOf 41 = .ok (.iload_n 3, 1) := by decide +kernel
theorem dX0_keepThoseOf_42 : decode cX0_keepThoseOf 42 = .ok (.aload_n 0, 1) := by decide +kernel
theorem dX0_keepThoseOf_43 : decode cX0_keepThoseOf 43 = .ok (.getfield 28, 3) := by decide +kernel
theorem dX0_keepThoseOf_46 : decode cX0_keepThoseOf 46 = .ok (.iload 4, 2) := by decide +kernel
theorem dX0_keepThoseOf_48 : decode cX0_keepThoseOf 48 = .ok (.iaload, 1) := by decide +kernel
theorem dX0_keepThoseOf_49 : decode cX0_keepThoseOf 49 = .ok (.iastore, 1) := by decide +kernel
theorem dX0_keepThoseOf_50 : decode cX0_keepThoseOf 50 = .ok (.iinc 3 1, 3) := by decide +kernel
theorem dX0_keepThoseOf_53 : decode cX0_keepThoseOf 53 = .ok (.iinc 4 1, 3) := by decide +kernel
theorem dX0_keepThoseOf_56 : decode cX0_keepThoseOf 56 = .ok (.goto (-51), 3) := by decide +kernel
theorem dX0_keepThoseOf_59 : decode cX0_keepThoseOf 59 = .ok (.aload_n 0, 1) := by decide +kernel
theorem dX0_keepThoseOf_60 : decode cX0_keepThoseOf 60 = .ok (.iload_n 3, 1) := by decide +kernel
theorem dX0_keepThoseOf_61 : decode cX0_keepThoseOf 61 = .ok (.putfield 46, 3) := by decide +kernel
theorem dX0_keepThoseOf_64 : decode cX0_keepThoseOf 64 = .ok (.return_, 1) := by decide +kernel
theorem dX0_allHave_0 : decode cX0_allHave 0 = .ok (.iconst 0, 1) := by decide +kernel
theorem dX0_allHave_1 : decode cX0_allHave 1 = .ok (.istore_n 2, 1) := by decide +kernel
theorem dX0_allHave_2 : decode cX0_allHave 2 = .ok (.iload_n 2, 1) := by decide +kernel
theorem dX0_allHave_3 : decode cX0_allHave 3 = .ok (.aload_n 0, 1) := by decide +kernel
theorem dX0_allHave_4 : decode cX0_allHave 4 = .ok (.getfield 46, 3) := by decide +kernel
theorem dX0_allHave_7 : decode cX0_allHave 7 = .ok (.if_icmp .ge 31, 3) := by decide +kernel
theorem dX0_allHave_10 : decode cX0_allHave 10 = .ok (.iload_n 2, 1) := by decide +kernel
theorem dX0_allHave_11 : decode cX0_allHave 11 = .ok (.sipush 128, 3) := by decide +kernel
theorem dX0_allHave_14 : decode cX0_allHave 14 = .ok (.if_icmp .ge 24, 3) := by decide +kernel
theorem dX0_allHave_17 : decode cX0_allHave 17 = .ok (.aload_n 0, 1) := by decide +kernel
theorem dX0_allHave_18 : decode cX0_allHave 18 = .ok (.getfield 28, 3) := by decide +kernel
theorem dX0_allHave_21 : decode cX0_allHave 21 = .ok (.iload_n 2, 1) := by decide +kernel
theorem dX0_allHave_22 : decode cX0_allHave 22 = .ok (.iaload, 1) := by decide +kernel
theorem dX0_allHave_23 : decode cX0_allHave 23 = .ok (.iload_n 1, 1) := by decide +kernel
theorem dX0_allHave_24 : decode cX0_allHave 24 = .ok (.ishr, 1) := by decide +kernel
theorem dX0_allHave_25 : decode cX0_allHave 25 = .ok (.iconst 1, 1) := by decide +kernel
theorem dX0_allHave_26 : decode cX0_allHave 26 = .ok (.iand, 1) := by decide +kernel
theorem dX0_allHave_27 : decode cX0_allHave 27 = .ok (.ifCond .ne 5, 3) := by decide +kernel
theorem dX0_allHave_30 : decode cX0_allHave 30 = .ok (.iconst 0, 1) := by decide +kernel
theorem dX0_allHave_31 : decode cX0_allHave 31 = .ok (.ireturn, 1) := by decide +kernel
theorem dX0_allHave_32 : decode cX0_allHave 32 = .ok (.iinc 2 1, 3) := by decide +kernel
theorem dX0_allHave_35 : decode cX0_allHave 35 = .ok (.goto (-33), 3) := by decide +kernel
theorem dX0_allHave_38 : decode cX0_allHave 38 = .ok (.iconst 1, 1) := by decide +kernel
theorem dX0_allHave_39 : decode cX0_allHave 39 = .ok (.ireturn, 1) := by decide +kernel
theorem dX0_isSo_0 : decode cX0_isSo 0 = .ok (.iload_n 1, 1) := by decide +kernel
theorem dX0_isSo_1 : decode cX0_isSo 1 = .ok (.iload_n 0, 1) := by decide +kernel
theorem dX0_isSo_2 : decode cX0_isSo 2 = .ok (.iand, 1) := by decide +kernel
theorem dX0_isSo_3 : decode cX0_isSo 3 = .ok (.iload_n 0, 1) := by decide +kernel
theorem dX0_isSo_4 : decode cX0_isSo 4 = .ok (.if_icmp .ne 7, 3) := by decide +kernel
theorem dX0_isSo_7 : decode cX0_isSo 7 = .ok (.iconst 1, 1) := by decide +kernel
theorem dX0_isSo_8 : decode cX0_isSo 8 = .ok (.goto 4, 3) := by decide +kernel
theorem dX0_isSo_11 : decode cX0_isSo 11 = .ok (.iconst 0, 1) := by decide +kernel
theorem dX0_isSo_12 : decode cX0_isSo 12 = .ok (.ireturn, 1) := by decide +kernel
theorem dX1_init_0 : decode cX1_init 0 = .ok (.aload_n 0, 1) := by decide +kernel
theorem dX1_init_1 : decode cX1_init 1 = .ok (.invokespecial 3, 3) := by decide +kernel
theorem dX1_init_4 : decode cX1_init 4 = .ok (.aload_n 0, 1) := by decide +kernel
theorem dX1_init_5 : decode cX1_init 5 = .ok (.bipush 16, 2) := by decide +kernel
theorem dX1_init_7 : decode cX1_init 7 = .ok (.anewarray 11, 3) := by decide +kernel
theorem dX1_init_10 : decode cX1_init 10 = .ok (.putfield 13, 3) := by decide +kernel
theorem dX1_init_13 : decode cX1_init 13 = .ok (.aload_n 0, 1) := by decide +kernel
theorem dX1_init_14 : decode cX1_init 14 = .ok (.bipush 8, 2) := by decide +kernel
theorem dX1_init_16 : decode cX1_init 16 = .ok (.newarray .int, 2) := by decide +kernel
theorem dX1_init_18 : decode cX1_init 18 = .ok (.putfield 19, 3) := by decide +kernel
theorem dX1_init_21 : decode cX1_init 21 = .ok (.aload_n 0, 1) := by decide +kernel
theorem dX1_init_22 : decode cX1_init 22 = .ok (.bipush 32, 2) := by decide +kernel
theorem dX1_init_24 : decode cX1_init 24 = .ok (.newarray .int, 2) := by decide +kernel
theorem dX1_init_26 : decode cX1_init 26 = .ok (.putfield 23, 3) := by decide +kernel
theorem dX1_init_29 : decode cX1_init 29 = .ok (.return_, 1) := by decide +kernel
theorem dX1_isFull_0 : decode cX1_isFull 0 = .ok (.aload_n 0, 1) := by decide +kernel
theorem dX1_isFull_1 : decode cX1_isFull 1 = .ok (.getfield 26, 3) := by decide +kernel
theorem dX1_isFull_4 : decode cX1_isFull 4 = .ok (.bipush 16, 2) := by decide +kernel
theorem dX1_isFull_6 : decode cX1_isFull 6 = .ok (.if_icmp .lt 7, 3) := by decide +kernel
theorem dX1_isFull_9 : decode cX1_isFull 9 = .ok (.iconst 1, 1) := by decide +kernel
theorem dX1_isFull_10 : decode cX1_isFull 10 = .ok (.goto 4, 3) := by decide +kernel
theorem dX1_isFull_13 : decode cX1_isFull 13 = .ok (.iconst 0, 1) := by decide +kernel
theorem dX1_isFull_14 : decode cX1_isFull 14 = .ok (.ireturn, 1) := by decide +kernel
theorem dX1_add_0 : decode cX1_add 0 = .ok (.aload_n 0, 1) := by decide +kernel
theorem dX1_add_1 : decode cX1_add 1 = .ok (.getfield 26, 3) := by decide +kernel
theorem dX1_add_4 : decode cX1_add 4 = .ok (.bipush 16, 2) := by decide +kernel
theorem dX1_add_6 : decode cX1_add 6 = .ok (.if_icmp .ge 23, 3) := by decide +kernel
theorem dX1_add_9 : decode cX1_add 9 = .ok (.aload_n 0, 1) := by decide +kernel
theorem dX1_add_10 : decode cX1_add 10 = .ok (.getfield 13, 3) := by decide +kernel
theorem dX1_add_13 : decode cX1_add 13 = .ok (.aload_n 0, 1) := by decide +kernel
theorem dX1_add_14 : decode cX1_add 14 = .ok (.getfield 26, 3) := by decide +kernel
theorem dX1_add_17 : decode cX1_add 17 = .ok (.aload_n 1, 1) := by decide +kernel
theorem dX1_add_18 : decode cX1_add 18 = .ok (.aastore, 1) := by decide +kernel
theorem dX1_add_19 : decode cX1_add 19 = .ok (.aload_n 0, 1) := by decide +kernel
theorem dX1_add_20 : decode cX1_add 20 = .ok (.dup, 1) := by decide +kernel
theorem dX1_add_21 : decode cX1_add 21 = .ok (.getfield 26, 3) := by decide +kernel
theorem dX1_add_24 : decode cX1_add 24 = .ok (.iconst 1, 1) := by decide +kernel
theorem dX1_add_25 : decode cX1_add 25 = .ok (.iadd, 1) := by decide +kernel
theorem dX1_add_26 : decode cX1_add 26 = .ok (.putfield 26, 3) := by decide +kernel
theorem dX1_add_29 : decode cX1_add 29 = .ok (.return_, 1) := by decide +kernel
theorem dX1_judge_0 : decode cX1_judge 0 = .ok (.aload_n 0, 1) := by decide +kernel
theorem dX1_judge_1 : decode cX1_judge 1 = .ok (.iconst 0, 1) := by decide +kernel
theorem dX1_judge_2 : decode cX1_judge 2 = .ok (.putfield 30, 3) := by decide +kernel
theorem dX1_judge_5 : decode cX1_judge 5 = .ok (.aload_n 0, 1) := by decide +kernel
theorem dX1_judge_6 : decode cX1_judge 6 = .ok (.iconst (-1), 1) := by decide +kernel
theorem dX1_judge_7 : decode cX1_judge 7 = .ok (.putfield 33, 3) := by decide +kernel
theorem dX1_judge_10 : decode cX1_judge 10 = .ok (.aload_n 0, 1) := by decide +kernel
theorem dX1_judge_11 : decode cX1_judge 11 = .ok (.iconst 0, 1) := by decide +kernel
theorem dX1_judge_12 : decode cX1_judge 12 = .ok (.putfield 36, 3) := by decide +kernel
theorem dX1_judge_15 : decode cX1_judge 15 = .ok (.aload_n 0, 1) := by decide +kernel
theorem dX1_judge_16 : decode cX1_judge 16 = .ok (.aload_n 0, 1) := by decide +kernel
theorem dX1_judge_17 : decode cX1_judge 17 = .ok (.iload_n 2, 1) := by decide +kernel
theorem dX1_judge_18 : decode cX1_judge 18 = .ok (.iload_n 3, 1) := by decide +kernel
theorem dX1_judge_19 : decode cX1_judge 19 = .ok (.invokevirtual 39, 3) := by decide +kernel
theorem dX1_judge_22 : decode cX1_judge 22 = .ok (.putfield 43, 3) := by decide +kernel
theorem dX1_judge_25 : decode cX1_judge 25 = .ok (.aload_n 0, 1) := by decide +kernel
theorem dX1_judge_26 : decode cX1_judge 26 = .ok (.getfield 43, 3) := by decide +kernel
theorem dX1_judge_29 : decode cX1_judge 29 = .ok (.ifCond .lt 24, 3) := by decide +kernel
theorem dX1_judge_32 : decode cX1_judge 32 = .ok (.aload_n 0, 1) := by decide +kernel
theorem dX1_judge_33 : decode cX1_judge 33 = .ok (.getfield 43, 3) := by decide +kernel
theorem dX1_judge_36 : decode cX1_judge 36 = .ok (.bipush 16, 2) := by decide +kernel
theorem dX1_judge_38 : decode cX1_judge 38 = .ok (.if_icmp .ge 15, 3) := by decide +kernel
theorem dX1_judge_41 : decode cX1_judge 41 = .ok (.aload_n 0, 1) := by decide +kernel
theorem dX1_judge_42 : decode cX1_judge 42 = .ok (.getfield 13, 3) := by decide +kernel
theorem dX1_judge_45 : decode cX1_judge 45 = .ok (.aload_n 0, 1) := by decide +kernel
theorem dX1_judge_46 : decode cX1_judge 46 = .ok (.getfield 43, 3) := by decide +kernel
theorem dX1_judge_49 : decode cX1_judge 49 = .ok (.aaload, 1) := by decide +kernel
theorem dX1_judge_50 : decode cX1_judge 50 = .ok (.ifnonnull 4, 3) := by decide +kernel
theorem dX1_judge_53 : decode cX1_judge 53 = .ok (.return_, 1) := by decide +kernel
theorem dX1_judge_54 : decode cX1_judge 54 = .ok (.aload_n 0, 1) := by decide +kernel
theorem dX1_judge_55 : decode cX1_judge 55 = .ok (.getfield 13, 3) := by decide +kernel
theorem dX1_judge_58 : decode cX1_judge 58 = .ok (.aload_n 0, 1) := by decide +kernel
theorem dX1_judge_59 : decode cX1_judge 59 = .ok (.getfield 43, 3) := by decide +kernel
theorem dX1_judge_62 : decode cX1_judge 62 = .ok (.aaload, 1) := by decide +kernel
theorem dX1_judge_63 : decode cX1_judge 63 = .ok (.getfield 46, 3) := by decide +kernel
theorem dX1_judge_66 : decode cX1_judge 66 = .ok (.astore 4, 2) := by decide +kernel
theorem dX1_judge_68 : decode cX1_judge 68 = .ok (.aload_n 0, 1) := by decide +kernel
theorem dX1_judge_69 : decode cX1_judge 69 = .ok (.iload_n 2, 1) := by decide +kernel
theorem dX1_judge_70 : decode cX1_judge 70 = .ok (.putfield 49, 3) := by decide +kernel
theorem dX1_judge_73 : decode cX1_judge 73 = .ok (.aload_n 0, 1) := by decide +kernel
theorem dX1_judge_74 : decode cX1_judge 74 = .ok (.iconst 0, 1) := by decide +kernel
theorem dX1_judge_75 : decode cX1_judge 75 = .ok (.putfield 52, 3) := by decide +kernel
theorem dX1_judge_78 : decode cX1_judge 78 = .ok (.aload_n 0, 1) := by decide +kernel
theorem dX1_judge_79 : decode cX1_judge 79 = .ok (.aload 4, 2) := by decide +kernel
theorem dX1_judge_81 : decode cX1_judge 81 = .ok (.aload_n 1, 1) := by decide +kernel
theorem dX1_judge_82 : decode cX1_judge 82 = .ok (.invokevirtual 55, 3) := by decide +kernel
theorem dX1_judge_85 : decode cX1_judge 85 = .ok (.aload_n 0, 1) := by decide +kernel
theorem dX1_judge_86 : decode cX1_judge 86 = .ok (.aload_n 0, 1) := by decide +kernel
theorem dX1_judge_87 : decode cX1_judge 87 = .ok (.getfield 36, 3) := by decide +kernel
theorem dX1_judge_90 : decode cX1_judge 90 = .ok (.putfield 52, 3) := by decide +kernel
theorem dX1_judge_93 : decode cX1_judge 93 = .ok (.aload_n 0, 1) := by decide +kernel
theorem dX1_judge_94 : decode cX1_judge 94 = .ok (.aload 4, 2) := by decide +kernel
theorem dX1_judge_96 : decode cX1_judge 96 = .ok (.aload_n 1, 1) := by decide +kernel
theorem dX1_judge_97 : decode cX1_judge 97 = .ok (.invokevirtual 59, 3) := by decide +kernel
theorem dX1_judge_100 : decode cX1_judge 100 = .ok (.return_, 1) := by decide +kernel
theorem dX1_lawOf_0 : decode cX1_lawOf 0 = .ok (.iconst (-1), 1) := by decide +kernel
theorem dX1_lawOf_1 : decode cX1_lawOf 1 = .ok (.istore_n 3, 1) := by decide +kernel
theorem dX1_lawOf_2 : decode cX1_lawOf 2 = .ok (.iconst (-1), 1) := by decide +kernel
theorem dX1_lawOf_3 : decode cX1_lawOf 3 = .ok (.istore 4, 2) := by decide +kernel
theorem dX1_lawOf_5 : decode cX1_lawOf 5 = .ok (.iconst 0, 1) := by decide +kernel
theorem dX1_lawOf_6 : decode cX1_lawOf 6 = .ok (.istore 5, 2) := by decide +kernel
theorem dX1_lawOf_8 : decode cX1_lawOf 8 = .ok (.iload 5, 2) := by decide +kernel
theorem dX1_lawOf_10 : decode cX1_lawOf 10 = .ok (.aload_n 0, 1) := by decide +kernel
theorem dX1_lawOf_11 : decode cX1_lawOf 11 = .ok (.getfield 26, 3) := by decide +kernel
theorem dX1_lawOf_14 : decode cX1_lawOf 14 = .ok (.if_icmp .ge 68, 3) := by decide +kernel
theorem dX1_lawOf_17 : decode cX1_lawOf 17 = .ok (.iload 5, 2) := by decide +kernel
theorem dX1_lawOf_19 : decode cX1_lawOf 19 = .ok (.bipush 16, 2) := by decide +kernel
theorem dX1_lawOf_21 : decode cX1_lawOf 21 = .ok (.if_icmp .ge 61, 3) := by decide +kernel
theorem dX1_lawOf_24 : decode cX1_lawOf 24 = .ok (.aload_n 0, 1) := by decide +kernel
theorem dX1_lawOf_25 : decode cX1_lawOf 25 = .ok (.getfield 13, 3) := by decide +kernel
theorem dX1_lawOf_28 : decode cX1_lawOf 28 = .ok (.iload 5, 2) := by decide +kernel
theorem dX1_lawOf_30 : decode cX1_lawOf 30 = .ok (.aaload, 1) := by decide +kernel
theorem dX1_lawOf_31 : decode cX1_lawOf 31 = .ok (.astore 6, 2) := by decide +kernel
theorem dX1_lawOf_33 : decode cX1_lawOf 33 = .ok (.aload 6, 2) := by decide +kernel
theorem dX1_lawOf_35 : decode cX1_lawOf 35 = .ok (.ifnull 41, 3) := by decide +kernel
theorem dX1_lawOf_38 : decode cX1_lawOf 38 = .ok (.aload 6, 2) := by decide +kernel
theorem dX1_lawOf_40 : decode cX1_lawOf 40 = .ok (.getfield 62, 3) := by decide +kernel
theorem dX1_lawOf_43 : decode cX1_lawOf 43 = .ok (.iload_n 2, 1) := by decide +kernel
theorem dX1_lawOf_44 : decode cX1_lawOf 44 = .ok (.if_icmp .gt 32, 3) := by decide +kernel
theorem dX1_lawOf_47 : decode cX1_lawOf 47 = .ok (.aload 6, 2) := by decide +kernel
theorem dX1_lawOf_49 : decode cX1_lawOf 49 = .ok (.getfield 64, 3) := by decide +kernel
theorem dX1_lawOf_52 : decode cX1_lawOf 52 = .ok (.iload_n 1, 1) := by decide +kernel
theorem dX1_lawOf_53 : decode cX1_lawOf 53 = .ok (.if_icmp .gt 23, 3) := by decide +kernel
theorem dX1_lawOf_56 : decode cX1_lawOf 56 = .ok (.aload 6, 2) := by decide +kernel
theorem dX1_lawOf_58 : decode cX1_lawOf 58 = .ok (.getfield 64, 3) := by decide +kernel
theorem dX1_lawOf_61 : decode cX1_lawOf 61 = .ok (.iload 4, 2) := by decide +kernel
theorem dX1_lawOf_63 : decode cX1_lawOf 63 = .ok (.if_icmp .lt 13, 3) := by decide +kernel
theorem dX1_lawOf_66 : decode cX1_lawOf 66 = .ok (.iload 5, 2) := by decide +kernel
theorem dX1_lawOf_68 : decode cX1_lawOf 68 = .ok (.istore_n 3, 1) := by decide +kernel
theorem dX1_lawOf_69 : decode cX1_lawOf 69 = .ok (.aload 6, 2) := by decide +kernel
theorem dX1_lawOf_71 : decode cX1_lawOf 71 = .ok (.getfield 64, 3) := by decide +kernel
theorem dX1_lawOf_74 : decode cX1_lawOf 74 = .ok (.istore 4, 2) := by decide +kernel
theorem dX1_lawOf_76 : decode cX1_lawOf 76 = .ok (.iinc 5 1, 3) := by decide +kernel
theorem dX1_lawOf_79 : decode cX1_lawOf 79 = .ok (.goto (-71), 3) := by decide +kernel
theorem dX1_lawOf_82 : decode cX1_lawOf 82 = .ok (.iload_n 3, 1) := by decide +kernel
theorem dX1_lawOf_83 : decode cX1_lawOf 83 = .ok (.ireturn, 1) := by decide +kernel
theorem dX1_workNamesAndLimit_0 : decode cX1_workNamesAndLimit 0 = .ok (.iconst 0, 1) := by decide +kernel
theorem dX1_workNamesAndLimit_1 : decode cX1_workNamesAndLimit 1 = .ok (.istore_n 3, 1) := by decide +kernel
theorem dX1_workNamesAndLimit_2 : decode cX1_workNamesAndLimit 2 = .ok (.iconst 0, 1) := by decide +kernel
theorem dX1_workNamesAndLimit_3 : decode cX1_workNamesAndLimit 3 = .ok (.istore 4, 2) := by decide +kernel
theorem dX1_workNamesAndLimit_5 : decode cX1_workNamesAndLimit 5 = .ok (.iload 4, 2) := by decide +kernel
theorem dX1_workNamesAndLimit_7 : decode cX1_workNamesAndLimit 7 = .ok (.bipush 20, 2) := by decide +kernel
theorem dX1_workNamesAndLimit_9 : decode cX1_workNamesAndLimit 9 = .ok (.if_icmp .ge 116, 3) := by decide +kernel
theorem dX1_workNamesAndLimit_12 : decode cX1_workNamesAndLimit 12 = .ok (.iload_n 3, 1) := by decide +kernel
theorem dX1_workNamesAndLimit_13 : decode cX1_workNamesAndLimit 13 = .ok (.iconst 3, 1) := by decide +kernel
theorem dX1_workNamesAndLimit_14 : decode cX1_workNamesAndLimit 14 = .ok (.iadd, 1) := by decide +kernel
theorem dX1_workNamesAndLimit_15 : decode cX1_workNamesAndLimit 15 = .ok (.aload_n 1, 1) := by decide +kernel
theorem dX1_workNamesAndLimit_16 : decode cX1_workNamesAndLimit 16 = .ok (.arraylength, 1) := by decide +kernel
theorem dX1_workNamesAndLimit_17 : decode cX1_workNamesAndLimit 17 = .ok (.if_icmp .gt 108, 3) := by decide +kernel
theorem dX1_workNamesAndLimit_20 : decode cX1_workNamesAndLimit 20 = .ok (.aload_n 1, 1) := by decide +kernel
theorem dX1_workNamesAndLimit_21 : decode cX1_workNamesAndLimit 21 = .ok (.iload_n 3, 1) := by decide +kernel
theorem dX1_workNamesAndLimit_22 : decode cX1_workNamesAndLimit 22 = .ok (.iconst 1, 1) := by decide +kernel
theorem dX1_workNamesAndLimit_23 : decode cX1_workNamesAndLimit 23 = .ok (.iadd, 1) := by decide +kernel
theorem dX1_workNamesAndLimit_24 : decode cX1_workNamesAndLimit 24 = .ok (.iaload, 1) := by decide +kernel
theorem dX1_workNamesAndLimit_25 : decode cX1_workNamesAndLimit 25 = .ok (.istore 5, 2) := by decide +kernel
theorem dX1_workNamesAndLimit_27 : decode cX1_workNamesAndLimit 27 = .ok (.iload_n 3, 1) := by decide +kernel
theorem dX1_workNamesAndLimit_28 : decode cX1_workNamesAndLimit 28 = .ok (.iconst 3, 1) := by decide +kernel
theorem dX1_workNamesAndLimit_29 : decode cX1_workNamesAndLimit 29 = .ok (.iadd, 1) := by decide +kernel
theorem dX1_workNamesAndLimit_30 : decode cX1_workNamesAndLimit 30 = .ok (.aload_n 1, 1) := by decide +kernel
theorem dX1_workNamesAndLimit_31 : decode cX1_workNamesAndLimit 31 = .ok (.iload_n 3, 1) := by decide +kernel
theorem dX1_workNamesAndLimit_32 : decode cX1_workNamesAndLimit 32 = .ok (.iconst 2, 1) := by decide +kernel
theorem dX1_workNamesAndLimit_33 : decode cX1_workNamesAndLimit 33 = .ok (.iadd, 1) := by decide +kernel
theorem dX1_workNamesAndLimit_34 : decode cX1_workNamesAndLimit 34 = .ok (.iaload, 1) := by decide +kernel
theorem dX1_workNamesAndLimit_35 : decode cX1_workNamesAndLimit 35 = .ok (.iadd, 1) := by decide +kernel
theorem dX1_workNamesAndLimit_36 : decode cX1_workNamesAndLimit 36 = .ok (.istore 6, 2) := by decide +kernel
theorem dX1_workNamesAndLimit_38 : decode cX1_workNamesAndLimit 38 = .ok (.aload_n 1, 1) := by decide +kernel
theorem dX1_workNamesAndLimit_39 : decode cX1_workNamesAndLimit 39 = .ok (.iload_n 3, 1) := by decide +kernel
theorem dX1_workNamesAndLimit_40 : decode cX1_workNamesAndLimit 40 = .ok (.iaload, 1) := by decide +kernel
theorem dX1_workNamesAndLimit_41 : decode cX1_workNamesAndLimit 41 = .ok (.iconst 4, 1) := by decide +kernel
theorem dX1_workNamesAndLimit_42 : decode cX1_workNamesAndLimit 42 = .ok (.if_icmp .ne 39, 3) := by decide +kernel
theorem dX1_workNamesAndLimit_45 : decode cX1_workNamesAndLimit 45 = .ok (.iload 5, 2) := by decide +kernel
theorem dX1_workNamesAndLimit_47 : decode cX1_workNamesAndLimit 47 = .ok (.ifCond .lt 34, 3) := by decide +kernel
theorem dX1_workNamesAndLimit_50 : decode cX1_workNamesAndLimit 50 = .ok (.iload 5, 2) := by decide +kernel
theorem dX1_workNamesAndLimit_52 : decode cX1_workNamesAndLimit 52 = .ok (.aload_n 0, 1) := by decide +kernel
theorem dX1_workNamesAndLimit_53 : decode cX1_workNamesAndLimit 53 = .ok (.getfield 19, 3) := by decide +kernel
theorem dX1_workNamesAndLimit_56 : decode cX1_workNamesAndLimit 56 = .ok (.arraylength, 1) := by decide +kernel
theorem dX1_workNamesAndLimit_57 : decode cX1_workNamesAndLimit 57 = .ok (.if_icmp .ge 24, 3) := by decide +kernel
theorem dX1_workNamesAndLimit_60 : decode cX1_workNamesAndLimit 60 = .ok (.aload_n 0, 1) := by decide +kernel
theorem dX1_workNamesAndLimit_61 : decode cX1_workNamesAndLimit 61 = .ok (.getfield 19, 3) := by decide +kernel
theorem dX1_workNamesAndLimit_64 : decode cX1_workNamesAndLimit 64 = .ok (.iload 5, 2) := by decide +kernel
theorem dX1_workNamesAndLimit_66 : decode cX1_workNamesAndLimit 66 = .ok (.aload_n 0, 1) := by decide +kernel
theorem dX1_workNamesAndLimit_67 : decode cX1_workNamesAndLimit 67 = .ok (.aload_n 1, 1) := by decide +kernel
theorem dX1_workNamesAndLimit_68 : decode cX1_workNamesAndLimit 68 = .ok (.iload_n 3, 1) := by decide +kernel
theorem dX1_workNamesAndLimit_69 : decode cX1_workNamesAndLimit 69 = .ok (.iconst 3, 1) := by decide +kernel
theorem dX1_workNamesAndLimit_70 : decode cX1_workNamesAndLimit 70 = .ok (.iadd, 1) := by decide +kernel
theorem dX1_workNamesAndLimit_71 : decode cX1_workNamesAndLimit 71 = .ok (.iload 6, 2) := by decide +kernel
theorem dX1_workNamesAndLimit_73 : decode cX1_workNamesAndLimit 73 = .ok (.aload_n 2, 1) := by decide +kernel
theorem dX1_workNamesAndLimit_74 : decode cX1_workNamesAndLimit 74 = .ok (.invokevirtual 69, 3) := by decide +kernel
theorem dX1_workNamesAndLimit_77 : decode cX1_workNamesAndLimit 77 = .ok (.iastore, 1) := by decide +kernel
theorem dX1_workNamesAndLimit_78 : decode cX1_workNamesAndLimit 78 = .ok (.goto 38, 3) := by decide +kernel
theorem dX1_workNamesAndLimit_81 : decode cX1_workNamesAndLimit 81 = .ok (.aload_n 1, 1) := by decide +kernel
theorem dX1_workNamesAndLimit_82 : decode cX1_workNamesAndLimit 82 = .ok (.iload_n 3, 1) := by decide +kernel
theorem dX1_workNamesAndLimit_83 : decode cX1_workNamesAndLimit 83 = .ok (.iaload, 1) := by decide +kernel
theorem dX1_workNamesAndLimit_84 : decode cX1_workNamesAndLimit 84 = .ok (.bipush 20, 2) := by decide +kernel
theorem dX1_workNamesAndLimit_86 : decode cX1_workNamesAndLimit 86 = .ok (.if_icmp .ne 30, 3) := by decide +kernel
theorem dX1_workNamesAndLimit_89 : decode cX1_workNamesAndLimit 89 = .ok (.aload_n 0, 1) := by decide +kernel
theorem dX1_workNamesAndLimit_90 : decode cX1_workNamesAndLimit 90 = .ok (.getfield 36, 3) := by decide +kernel
theorem dX1_workNamesAndLimit_93 : decode cX1_workNamesAndLimit 93 = .ok (.ifCond .ne 23, 3) := by decide +kernel
theorem dX1_workNamesAndLimit_96 : decode cX1_workNamesAndLimit 96 = .ok (.aload_n 0, 1) := by decide +kernel
theorem dX1_workNamesAndLimit_97 : decode cX1_workNamesAndLimit 97 = .ok (.aload_n 1, 1) := by decide +kernel
theorem dX1_workNamesAndLimit_98 : decode cX1_workNamesAndLimit 98 = .ok (.iload_n 3, 1) := by decide +kernel
theorem dX1_workNamesAndLimit_99 : decode cX1_workNamesAndLimit 99 = .ok (.iconst 3, 1) := by decide +kernel
theorem dX1_workNamesAndLimit_100 : decode cX1_workNamesAndLimit 100 = .ok (.iadd, 1) := by decide +kernel
theorem dX1_workNamesAndLimit_101 : decode cX1_workNamesAndLimit 101 = .ok (.iload 6, 2) := by decide +kernel
theorem dX1_workNamesAndLimit_103 : decode cX1_workNamesAndLimit 103 = .ok (.aload_n 2, 1) := by decide +kernel
theorem dX1_workNamesAndLimit_104 : decode cX1_workNamesAndLimit 104 = .ok (.invokevirtual 69, 3) := by decide +kernel
theorem dX1_workNamesAndLimit_107 : decode cX1_workNamesAndLimit 107 = .ok (.ifCond .eq 9, 3) := by decide +kernel
theorem dX1_workNamesAndLimit_110 : decode cX1_workNamesAndLimit 110 = .ok (.aload_n 0, 1) := by decide +kernel
theorem dX1_workNamesAndLimit_111 : decode cX1_workNamesAndLimit 111 = .ok (.iload 5, 2) := by decide +kernel
theorem dX1_workNamesAndLimit_113 : decode cX1_workNamesAndLimit 113 = .ok (.putfield 36, 3) := by decide +kernel
theorem dX1_workNamesAndLimit_116 : decode cX1_workNamesAndLimit 116 = .ok (.iload 6, 2) := by decide +kernel
theorem dX1_workNamesAndLimit_118 : decode cX1_workNamesAndLimit 118 = .ok (.istore_n 3, 1) := by decide +kernel
theorem dX1_workNamesAndLimit_119 : decode cX1_workNamesAndLimit 119 = .ok (.iinc 4 1, 3) := by decide +kernel
theorem dX1_workNamesAndLimit_122 : decode cX1_workNamesAndLimit 122 = .ok (.goto (-117), 3) := by decide +kernel
theorem dX1_workNamesAndLimit_125 : decode cX1_workNamesAndLimit 125 = .ok (.return_, 1) := by decide +kernel
theorem dX1_findFault_0 : decode cX1_findFault 0 = .ok (.iconst 0, 1) := by decide +kernel
theorem dX1_findFault_1 : decode cX1_findFault 1 = .ok (.istore_n 3, 1) := by decide +kernel
theorem dX1_findFault_2 : decode cX1_findFault 2 = .ok (.iconst 0, 1) := by decide +kernel
theorem dX1_findFault_3 : decode cX1_findFault 3 = .ok (.istore 4, 2) := by decide +kernel
theorem dX1_findFault_5 : decode cX1_findFault 5 = .ok (.iload 4, 2) := by decide +kernel
theorem dX1_findFault_7 : decode cX1_findFault 7 = .ok (.bipush 20, 2) := by decide +kernel
theorem dX1_findFault_9 : decode cX1_findFault 9 = .ok (.if_icmp .ge 68, 3) := by decide +kernel
theorem dX1_findFault_12 : decode cX1_findFault 12 = .ok (.iload_n 3, 1) := by decide +kernel
theorem dX1_findFault_13 : decode cX1_findFault 13 = .ok (.iconst 3, 1) := by decide +kernel
theorem dX1_findFault_14 : decode cX1_findFault 14 = .ok (.iadd, 1) := by decide +kernel
theorem dX1_findFault_15 : decode cX1_findFault 15 = .ok (.aload_n 1, 1) := by decide +kernel
theorem dX1_findFault_16 : decode cX1_findFault 16 = .ok (.arraylength, 1) := by decide +kernel
theorem dX1_findFault_17 : decode cX1_findFault 17 = .ok (.if_icmp .gt 60, 3) := by decide +kernel
theorem dX1_findFault_20 : decode cX1_findFault 20 = .ok (.iload_n 3, 1) := by decide +kernel
theorem dX1_findFault_21 : decode cX1_findFault 21 = .ok (.iconst 3, 1) := by decide +kernel
theorem dX1_findFault_22 : decode cX1_findFault 22 = .ok (.iadd, 1) := by decide +kernel
theorem dX1_findFault_23 : decode cX1_findFault 23 = .ok (.aload_n 1, 1) := by decide +kernel
theorem dX1_findFault_24 : decode cX1_findFault 24 = .ok (.iload_n 3, 1) := by decide +kernel
theorem dX1_findFault_25 : decode cX1_findFault 25 = .ok (.iconst 2, 1) := by decide +kernel
theorem dX1_findFault_26 : decode cX1_findFault 26 = .ok (.iadd, 1) := by decide +kernel
theorem dX1_findFault_27 : decode cX1_findFault 27 = .ok (.iaload, 1) := by decide +kernel
theorem dX1_findFault_28 : decode cX1_findFault 28 = .ok (.iadd, 1) := by decide +kernel
theorem dX1_findFault_29 : decode cX1_findFault 29 = .ok (.istore 5, 2) := by decide +kernel
theorem dX1_findFault_31 : decode cX1_findFault 31 = .ok (.aload_n 1, 1) := by decide +kernel
theorem dX1_findFault_32 : decode cX1_findFault 32 = .ok (.iload_n 3, 1) := by decide +kernel
theorem dX1_findFault_33 : decode cX1_findFault 33 = .ok (.iaload, 1) := by decide +kernel
theorem dX1_findFault_34 : decode cX1_findFault 34 = .ok (.iconst 5, 1) := by decide +kernel
theorem dX1_findFault_35 : decode cX1_findFault 35 = .ok (.if_icmp .ne 33, 3) := by decide +kernel
theorem dX1_findFault_38 : decode cX1_findFault 38 = .ok (.aload_n 0, 1) := by decide +kernel
theorem dX1_findFault_39 : decode cX1_findFault 39 = .ok (.aload_n 1, 1) := by decide +kernel
theorem dX1_findFault_40 : decode cX1_findFault 40 = .ok (.iload_n 3, 1) := by decide +kernel
theorem dX1_findFault_41 : decode cX1_findFault 41 = .ok (.iconst 3, 1) := by decide +kernel
theorem dX1_findFault_42 : decode cX1_findFault 42 = .ok (.iadd, 1) := by decide +kernel
theorem dX1_findFault_43 : decode cX1_findFault 43 = .ok (.iload 5, 2) := by decide +kernel
theorem dX1_findFault_45 : decode cX1_findFault 45 = .ok (.aload_n 2, 1) := by decide +kernel
theorem dX1_findFault_46 : decode cX1_findFault 46 = .ok (.invokevirtual 69, 3) := by decide +kernel
theorem dX1_findFault_49 : decode cX1_findFault 49 = .ok (.ifCond .eq 19, 3) := by decide +kernel
theorem dX1_findFault_52 : decode cX1_findFault 52 = .ok (.aload_n 0, 1) := by decide +kernel
theorem dX1_findFault_53 : decode cX1_findFault 53 = .ok (.aload_n 1, 1) := by decide +kernel
theorem dX1_findFault_54 : decode cX1_findFault 54 = .ok (.iload_n 3, 1) := by decide +kernel
theorem dX1_findFault_55 : decode cX1_findFault 55 = .ok (.iconst 1, 1) := by decide +kernel
theorem dX1_findFault_56 : decode cX1_findFault 56 = .ok (.iadd, 1) := by decide +kernel
theorem dX1_findFault_57 : decode cX1_findFault 57 = .ok (.iaload, 1) := by decide +kernel
theorem dX1_findFault_58 : decode cX1_findFault 58 = .ok (.putfield 30, 3) := by decide +kernel
theorem dX1_findFault_61 : decode cX1_findFault 61 = .ok (.aload_n 0, 1) := by decide +kernel
theorem dX1_findFault_62 : decode cX1_findFault 62 = .ok (.iload 4, 2) := by decide +kernel
theorem dX1_findFault_64 : decode cX1_findFault 64 = .ok (.putfield 33, 3) := by decide +kernel
theorem dX1_findFault_67 : decode cX1_findFault 67 = .ok (.return_, 1) := by decide +kernel
theorem dX1_findFault_68 : decode cX1_findFault 68 = .ok (.iload 5, 2) := by decide +kernel
theorem dX1_findFault_70 : decode cX1_findFault 70 = .ok (.istore_n 3, 1) := by decide +kernel
theorem dX1_findFault_71 : decode cX1_findFault 71 = .ok (.iinc 4 1, 3) := by decide +kernel
theorem dX1_findFault_74 : decode cX1_findFault 74 = .ok (.goto (-69), 3) := by decide +kernel
theorem dX1_findFault_77 : decode cX1_findFault 77 = .ok (.return_, 1) := by decide +kernel
theorem dX1_work_0 : decode cX1_work 0 = .ok (.aload_n 0, 1) := by decide +kernel
theorem dX1_work_1 : decode cX1_work 1 = .ok (.iconst 0, 1) := by decide +kernel
theorem dX1_work_2 : decode cX1_work 2 = .ok (.putfield 73, 3) := by decide +kernel
theorem dX1_work_5 : decode cX1_work 5 = .ok (.iload_n 2, 1) := by decide +kernel
theorem dX1_work_6 : decode cX1_work 6 = .ok (.istore 5, 2) := by decide +kernel
theorem dX1_work_8 : decode cX1_work 8 = .ok (.iload 5, 2) := by decide +kernel
theorem dX1_work_10 : decode cX1_work 10 = .ok (.iload_n 3, 1) := by decide +kernel
theorem dX1_work_11 : decode cX1_work 11 = .ok (.if_icmp .ge 120, 3) := by decide +kernel
theorem dX1_work_14 : decode cX1_work 14 = .ok (.iload 5, 2) := by decide +kernel
theorem dX1_work_16 : decode cX1_work 16 = .ok (.aload_n 1, 1) := by decide +kernel
theorem dX1_work_17 : decode cX1_work 17 = .ok (.arraylength, 1) := by decide +kernel
theorem dX1_work_18 : decode cX1_work 18 = .ok (.if_icmp .ge 113, 3) := by decide +kernel
theorem dX1_work_21 : decode cX1_work 21 = .ok (.aload_n 1, 1) := by decide +kernel
theorem dX1_work_22 : decode cX1_work 22 = .ok (.iload 5, 2) := by decide +kernel
theorem dX1_work_24 : decode cX1_work 24 = .ok (.iaload, 1) := by decide +kernel
theorem dX1_work_25 : decode cX1_work 25 = .ok (.istore 6, 2) := by decide +kernel
theorem dX1_work_27 : decode cX1_work 27 = .ok (.iload 6, 2) := by decide +kernel
theorem dX1_work_29 : decode cX1_work 29 = .ok (.sipush 30000, 3) := by decide +kernel
theorem dX1_work_32 : decode cX1_work 32 = .ok (.if_icmp .lt 16, 3) := by decide +kernel
theorem dX1_work_35 : decode cX1_work 35 = .ok (.aload_n 0, 1) := by decide +kernel
theorem dX1_work_36 : decode cX1_work 36 = .ok (.iload 6, 2) := by decide +kernel
theorem dX1_work_38 : decode cX1_work 38 = .ok (.sipush 30000, 3) := by decide +kernel
theorem dX1_work_41 : decode cX1_work 41 = .ok (.isub, 1) := by decide +kernel
theorem dX1_work_42 : decode cX1_work 42 = .ok (.invokevirtual 76, 3) := by decide +kernel
theorem dX1_work_45 : decode cX1_work 45 = .ok (.goto 80, 3) := by decide +kernel
theorem dX1_work_48 : decode cX1_work 48 = .ok (.iload 6, 2) := by decide +kernel
theorem dX1_work_50 : decode cX1_work 50 = .ok (.sipush 20000, 3) := by decide +kernel
theorem dX1_work_53 : decode cX1_work 53 = .ok (.if_icmp .lt 39, 3) := by decide +kernel
theorem dX1_work_56 : decode cX1_work 56 = .ok (.iload 6, 2) := by decide +kernel
theorem dX1_work_58 : decode cX1_work 58 = .ok (.sipush 20000, 3) := by decide +kernel
theorem dX1_work_61 : decode cX1_work 61 = .ok (.isub, 1) := by decide +kernel
theorem dX1_work_62 : decode cX1_work 62 = .ok (.istore 7, 2) := by decide +kernel
theorem dX1_work_64 : decode cX1_work 64 = .ok (.aload_n 0, 1) := by decide +kernel
theorem dX1_work_65 : decode cX1_work 65 = .ok (.iload 7, 2) := by decide +kernel
theorem dX1_work_67 : decode cX1_work 67 = .ok (.aload_n 0, 1) := by decide +kernel
theorem dX1_work_68 : decode cX1_work 68 = .ok (.getfield 19, 3) := by decide +kernel
theorem dX1_work_71 : decode cX1_work 71 = .ok (.arraylength, 1) := by decide +kernel
theorem dX1_work_72 : decode cX1_work 72 = .ok (.if_icmp .ge 13, 3) := by decide +kernel
theorem dX1_work_75 : decode cX1_work 75 = .ok (.aload_n 0, 1) := by decide +kernel
theorem dX1_work_76 : decode cX1_work 76 = .ok (.getfield 19, 3) := by decide +kernel
theorem dX1_work_79 : decode cX1_work 79 = .ok (.iload 7, 2) := by decide +kernel
theorem dX1_work_81 : decode cX1_work 81 = .ok (.iaload, 1) := by decide +kernel
theorem dX1_work_82 : decode cX1_work 82 = .ok (.goto 4, 3) := by decide +kernel
theorem dX1_work_85 : decode cX1_work 85 = .ok (.iconst 0, 1) := by decide +kernel
theorem dX1_work_86 : decode cX1_work 86 = .ok (.invokevirtual 80, 3) := by decide +kernel
theorem dX1_work_89 : decode cX1_work 89 = .ok (.goto 36, 3) := by decide +kernel
theorem dX1_work_92 : decode cX1_work 92 = .ok (.iload 6, 2) := by decide +kernel
theorem dX1_work_94 : decode cX1_work 94 = .ok (.sipush 10000, 3) := by decide +kernel
theorem dX1_work_97 : decode cX1_work 97 = .ok (.if_icmp .lt 22, 3) := by decide +kernel
theorem dX1_work_100 : decode cX1_work 100 = .ok (.aload_n 0, 1) := by decide +kernel
theorem dX1_work_101 : decode cX1_work 101 = .ok (.aload_n 0, 1) := by decide +kernel
theorem dX1_work_102 : decode cX1_work 102 = .ok (.iload 6, 2) := by decide +kernel
theorem dX1_work_104 : decode cX1_work 104 = .ok (.sipush 10000, 3) := by decide +kernel
theorem dX1_work_107 : decode cX1_work 107 = .ok (.isub, 1) := by decide +kernel
theorem dX1_work_108 : decode cX1_work 108 = .ok (.aload 4, 2) := by decide +kernel
theorem dX1_work_110 : decode cX1_work 110 = .ok (.invokevirtual 83, 3) := by decide +kernel
theorem dX1_work_113 : decode cX1_work 113 = .ok (.invokevirtual 80, 3) := by decide +kernel
theorem dX1_work_116 : decode cX1_work 116 = .ok (.goto 9, 3) := by decide +kernel
theorem dX1_work_119 : decode cX1_work 119 = .ok (.aload_n 0, 1) := by decide +kernel
theorem dX1_work_120 : decode cX1_work 120 = .ok (.iload 6, 2) := by decide +kernel
theorem dX1_work_122 : decode cX1_work 122 = .ok (.invokevirtual 80, 3) := by decide +kernel
theorem dX1_work_125 : decode cX1_work 125 = .ok (.iinc 5 1, 3) := by decide +kernel
theorem dX1_work_128 : decode cX1_work 128 = .ok (.goto (-120), 3) := by decide +kernel
theorem dX1_work_131 : decode cX1_work 131 = .ok (.aload_n 0, 1) := by decide +kernel
theorem dX1_work_132 : decode cX1_work 132 = .ok (.invokevirtual 87, 3) := by decide +kernel
theorem dX1_work_135 : decode cX1_work 135 = .ok (.ireturn, 1) := by decide +kernel
theorem dX1_fact_0 : decode cX1_fact 0 = .ok (.iload_n 1, 1) := by decide +kernel
theorem dX1_fact_1 : decode cX1_fact 1 = .ok (.bipush 19, 2) := by decide +kernel
theorem dX1_fact_3 : decode cX1_fact 3 = .ok (.if_icmp .ne 8, 3) := by decide +kernel
theorem dX1_fact_6 : decode cX1_fact 6 = .ok (.aload_n 0, 1) := by decide +kernel
theorem dX1_fact_7 : decode cX1_fact 7 = .ok (.getfield 49, 3) := by decide +kernel
theorem dX1_fact_10 : decode cX1_fact 10 = .ok (.ireturn, 1) := by decide +kernel
theorem dX1_fact_11 : decode cX1_fact 11 = .ok (.iload_n 1, 1) := by decide +kernel
theorem dX1_fact_12 : decode cX1_fact 12 = .ok (.bipush 20, 2) := by decide +kernel
theorem dX1_fact_14 : decode cX1_fact 14 = .ok (.if_icmp .ne 10, 3) := by decide +kernel
theorem dX1_fact_17 : decode cX1_fact 17 = .ok (.aload_n 0, 1) := by decide +kernel
theorem dX1_fact_18 : decode cX1_fact 18 = .ok (.getfield 52, 3) := by decide +kernel
theorem dX1_fact_21 : decode cX1_fact 21 = .ok (.goto 8, 3) := by decide +kernel
theorem dX1_fact_24 : decode cX1_fact 24 = .ok (.aload_n 2, 1) := by decide +kernel
theorem dX1_fact_25 : decode cX1_fact 25 = .ok (.iload_n 1, 1) := by decide +kernel
theorem dX1_fact_26 : decode cX1_fact 26 = .ok (.invokevirtual 91, 3) := by decide +kernel
theorem dX1_fact_29 : decode cX1_fact 29 = .ok (.ireturn, 1) := by decide +kernel
theorem dX1_operate_0 : decode cX1_operate 0 = .ok (.aload_n 0, 1) := by decide +kernel
theorem dX1_operate_1 : decode cX1_operate 1 = .ok (.invokevirtual 87, 3) := by decide +kernel
theorem dX1_operate_4 : decode cX1_operate 4 = .ok (.istore_n 2, 1) := by decide +kernel
theorem dX1_operate_5 : decode cX1_operate 5 = .ok (.iload_n 1, 1) := by decide +kernel
theorem dX1_operate_6 : decode cX1_operate 6 = .ok (.bipush 9, 2) := by decide +kernel
theorem dX1_operate_8 : decode cX1_operate 8 = .ok (.if_icmp .ne 17, 3) := by decide +kernel
theorem dX1_operate_11 : decode cX1_operate 11 = .ok (.aload_n 0, 1) := by decide +kernel
theorem dX1_operate_12 : decode cX1_operate 12 = .ok (.iload_n 2, 1) := by decide +kernel
theorem dX1_operate_13 : decode cX1_operate 13 = .ok (.ifCond .ne 7, 3) := by decide +kernel
theorem dX1_operate_16 : decode cX1_operate 16 = .ok (.iconst 1, 1) := by decide +kernel
theorem dX1_operate_17 : decode cX1_operate 17 = .ok (.goto 4, 3) := by decide +kernel
theorem dX1_operate_20 : decode cX1_operate 20 = .ok (.iconst 0, 1) := by decide +kernel
theorem dX1_operate_21 : decode cX1_operate 21 = .ok (.invokevirtual 80, 3) := by decide +kernel
theorem dX1_operate_24 : decode cX1_operate 24 = .ok (.return_, 1) := by decide +kernel
theorem dX1_operate_25 : decode cX1_operate 25 = .ok (.aload_n 0, 1) := by decide +kernel
theorem dX1_operate_26 : decode cX1_operate 26 = .ok (.invokevirtual 87, 3) := by decide +kernel
theorem dX1_operate_29 : decode cX1_operate 29 = .ok (.istore_n 3, 1) := by decide +kernel
theorem dX1_operate_30 : decode cX1_operate 30 = .ok (.iload_n 1, 1) := by decide +kernel
theorem dX1_operate_31 : decode cX1_operate 31 = .ok (.lookupswitch 151 #[(7, 57), (8, 77), (43, 131), (45, 141), (60, 97), (61, 114)], 57) := by decide +kernel
theorem dX1_operate_88 : decode cX1_operate 88 = .ok (.aload_n 0, 1) := by decide +kernel
theorem dX1_operate_89 : decode cX1_operate 89 = .ok (.iload_n 3, 1) := by decide +kernel
theorem dX1_operate_90 : decode cX1_operate 90 = .ok (.ifCond .eq 11, 3) := by decide +kernel
theorem dX1_operate_93 : decode cX1_operate 93 = .ok (.iload_n 2, 1) := by decide +kernel
theorem dX1_operate_94 : decode cX1_operate 94 = .ok (.ifCond .eq 7, 3) := by decide +kernel
theorem dX1_operate_97 : decode cX1_operate 97 = .ok (.iconst 1, 1) := by decide +kernel
theorem dX1_operate_98 : decode cX1_operate 98 = .ok (.goto 4, 3) := by decide +kernel
theorem dX1_operate_101 : decode cX1_operate 101 = .ok (.iconst 0, 1) := by decide +kernel
theorem dX1_operate_102 : decode cX1_operate 102 = .ok (.invokevirtual 80, 3) := by decide +kernel
theorem dX1_operate_105 : decode cX1_operate 105 = .ok (.goto 84, 3) := by decide +kernel
theorem dX1_operate_108 : decode cX1_operate 108 = .ok (.aload_n 0, 1) := by decide +kernel
theorem dX1_operate_109 : decode cX1_operate 109 = .ok (.iload_n 3, 1) := by decide +kernel
theorem dX1_operate_110 : decode cX1_operate 110 = .ok (.ifCond .ne 7, 3) := by decide +kernel
theorem dX1_operate_113 : decode cX1_operate 113 = .ok (.iload_n 2, 1) := by decide +kernel
theorem dX1_operate_114 : decode cX1_operate 114 = .ok (.ifCond .eq 7, 3) := by decide +kernel
theorem dX1_operate_117 : decode cX1_operate 117 = .ok (.iconst 1, 1) := by decide +kernel
theorem dX1_operate_118 : decode cX1_operate 118 = .ok (.goto 4, 3) := by decide +kernel
theorem dX1_operate_121 : decode cX1_operate 121 = .ok (.iconst 0, 1) := by decide +kernel
theorem dX1_operate_122 : decode cX1_operate 122 = .ok (.invokevirtual 80, 3) := by decide +kernel
theorem dX1_operate_125 : decode cX1_operate 125 = .ok (.goto 64, 3) := by decide +kernel
theorem dX1_operate_128 : decode cX1_operate 128 = .ok (.aload_n 0, 1) := by decide +kernel
theorem dX1_operate_129 : decode cX1_operate 129 = .ok (.iload_n 3, 1) := by decide +kernel
theorem dX1_operate_130 : decode cX1_operate 130 = .ok (.iload_n 2, 1) := by decide +kernel
theorem dX1_operate_131 : decode cX1_operate 131 = .ok (.if_icmp .ge 7, 3) := by decide +kernel
theorem dX1_operate_134 : decode cX1_operate 134 = .ok (.iconst 1, 1) := by decide +kernel
theorem dX1_operate_135 : decode cX1_operate 135 = .ok (.goto 4, 3) := by decide +kernel
theorem dX1_operate_138 : decode cX1_operate 138 = .ok (.iconst 0, 1) := by decide +kernel
theorem dX1_operate_139 : decode cX1_operate 139 = .ok (.invokevirtual 80, 3) := by decide +kernel
theorem dX1_operate_142 : decode cX1_operate 142 = .ok (.goto 47, 3) := by decide +kernel
theorem dX1_operate_145 : decode cX1_operate 145 = .ok (.aload_n 0, 1) := by decide +kernel
theorem dX1_operate_146 : decode cX1_operate 146 = .ok (.iload_n 3, 1) := by decide +kernel
theorem dX1_operate_147 : decode cX1_operate 147 = .ok (.iload_n 2, 1) := by decide +kernel
theorem dX1_operate_148 : decode cX1_operate 148 = .ok (.if_icmp .ne 7, 3) := by decide +kernel
theorem dX1_operate_151 : decode cX1_operate 151 = .ok (.iconst 1, 1) := by decide +kernel
theorem dX1_operate_152 : decode cX1_operate 152 = .ok (.goto 4, 3) := by decide +kernel
theorem dX1_operate_155 : decode cX1_operate 155 = .ok (.iconst 0, 1) := by decide +kernel
theorem dX1_operate_156 : decode cX1_operate 156 = .ok (.invokevirtual 80, 3) := by decide +kernel
theorem dX1_operate_159 : decode cX1_operate 159 = .ok (.goto 30, 3) := by decide +kernel
theorem dX1_operate_162 : decode cX1_operate 162 = .ok (.aload_n 0, 1) := by decide +kernel
theorem dX1_operate_163 : decode cX1_operate 163 = .ok (.iload_n 3, 1) := by decide +kernel
theorem dX1_operate_164 : decode cX1_operate 164 = .ok (.iload_n 2, 1) := by decide +kernel
theorem dX1_operate_165 : decode cX1_operate 165 = .ok (.iadd, 1) := by decide +kernel
theorem dX1_operate_166 : decode cX1_operate 166 = .ok (.invokevirtual 80, 3) := by decide +kernel
theorem dX1_operate_169 : decode cX1_operate 169 = .ok (.goto 20, 3) := by decide +kernel
theorem dX1_operate_172 : decode cX1_operate 172 = .ok (.aload_n 0, 1) := by decide +kernel
theorem dX1_operate_173 : decode cX1_operate 173 = .ok (.iload_n 3, 1) := by decide +kernel
theorem dX1_operate_174 : decode cX1_operate 174 = .ok (.iload_n 2, 1) := by decide +kernel
theorem dX1_operate_175 : decode cX1_operate 175 = .ok (.isub, 1) := by decide +kernel
theorem dX1_operate_176 : decode cX1_operate 176 = .ok (.invokevirtual 80, 3) := by decide +kernel
theorem dX1_operate_179 : decode cX1_operate 179 = .ok (.goto 10, 3) := by decide +kernel
theorem dX1_operate_182 : decode cX1_operate 182 = .ok (.aload_n 0, 1) := by decide +kernel
theorem dX1_operate_183 : decode cX1_operate 183 = .ok (.iload_n 3, 1) := by decide +kernel
theorem dX1_operate_184 : decode cX1_operate 184 = .ok (.iload_n 2, 1) := by decide +kernel
theorem dX1_operate_185 : decode cX1_operate 185 = .ok (.imul, 1) := by decide +kernel
theorem dX1_operate_186 : decode cX1_operate 186 = .ok (.invokevirtual 80, 3) := by decide +kernel
theorem dX1_operate_189 : decode cX1_operate 189 = .ok (.return_, 1) := by decide +kernel
theorem dX1_push_0 : decode cX1_push 0 = .ok (.aload_n 0, 1) := by decide +kernel
theorem dX1_push_1 : decode cX1_push 1 = .ok (.getfield 73, 3) := by decide +kernel
theorem dX1_push_4 : decode cX1_push 4 = .ok (.aload_n 0, 1) := by decide +kernel
theorem dX1_push_5 : decode cX1_push 5 = .ok (.getfield 23, 3) := by decide +kernel
theorem dX1_push_8 : decode cX1_push 8 = .ok (.arraylength, 1) := by decide +kernel
theorem dX1_push_9 : decode cX1_push 9 = .ok (.if_icmp .ge 23, 3) := by decide +kernel
theorem dX1_push_12 : decode cX1_push 12 = .ok (.aload_n 0, 1) := by decide +kernel
theorem dX1_push_13 : decode cX1_push 13 = .ok (.getfield 23, 3) := by decide +kernel
theorem dX1_push_16 : decode cX1_push 16 = .ok (.aload_n 0, 1) := by decide +kernel
theorem dX1_push_17 : decode cX1_push 17 = .ok (.getfield 73, 3) := by decide +kernel
theorem dX1_push_20 : decode cX1_push 20 = .ok (.iload_n 1, 1) := by decide +kernel
theorem dX1_push_21 : decode cX1_push 21 = .ok (.iastore, 1) := by decide +kernel
theorem dX1_push_22 : decode cX1_push 22 = .ok (.aload_n 0, 1) := by decide +kernel
theorem dX1_push_23 : decode cX1_push 23 = .ok (.dup, 1) := by decide +kernel
theorem dX1_push_24 : decode cX1_push 24 = .ok (.getfield 73, 3) := by decide +kernel
theorem dX1_push_27 : decode cX1_push 27 = .ok (.iconst 1, 1) := by decide +kernel
theorem dX1_push_28 : decode cX1_push 28 = .ok (.iadd, 1) := by decide +kernel
theorem dX1_push_29 : decode cX1_push 29 = .ok (.putfield 73, 3) := by decide +kernel
theorem dX1_push_32 : decode cX1_push 32 = .ok (.return_, 1) := by decide +kernel
theorem dX1_pop_0 : decode cX1_pop 0 = .ok (.aload_n 0, 1) := by decide +kernel
theorem dX1_pop_1 : decode cX1_pop 1 = .ok (.getfield 73, 3) := by decide +kernel
theorem dX1_pop_4 : decode cX1_pop 4 = .ok (.ifCond .gt 5, 3) := by decide +kernel
theorem dX1_pop_7 : decode cX1_pop 7 = .ok (.iconst 0, 1) := by decide +kernel
theorem dX1_pop_8 : decode cX1_pop 8 = .ok (.ireturn, 1) := by decide +kernel
theorem dX1_pop_9 : decode cX1_pop 9 = .ok (.aload_n 0, 1) := by decide +kernel
theorem dX1_pop_10 : decode cX1_pop 10 = .ok (.dup, 1) := by decide +kernel
theorem dX1_pop_11 : decode cX1_pop 11 = .ok (.getfield 73, 3) := by decide +kernel
theorem dX1_pop_14 : decode cX1_pop 14 = .ok (.iconst 1, 1) := by decide +kernel
theorem dX1_pop_15 : decode cX1_pop 15 = .ok (.isub, 1) := by decide +kernel
theorem dX1_pop_16 : decode cX1_pop 16 = .ok (.putfield 73, 3) := by decide +kernel
theorem dX1_pop_19 : decode cX1_pop 19 = .ok (.aload_n 0, 1) := by decide +kernel
theorem dX1_pop_20 : decode cX1_pop 20 = .ok (.getfield 23, 3) := by decide +kernel
theorem dX1_pop_23 : decode cX1_pop 23 = .ok (.aload_n 0, 1) := by decide +kernel
theorem dX1_pop_24 : decode cX1_pop 24 = .ok (.getfield 73, 3) := by decide +kernel
theorem dX1_pop_27 : decode cX1_pop 27 = .ok (.iaload, 1) := by decide +kernel
theorem dX1_pop_28 : decode cX1_pop 28 = .ok (.ireturn, 1) := by decide +kernel
theorem dX2_init_0 : decode cX2_init 0 = .ok (.aload_n 0, 1) := by decide +kernel
theorem dX2_init_1 : decode cX2_init 1 = .ok (.invokespecial 3, 3) := by decide +kernel
theorem dX2_init_4 : decode cX2_init 4 = .ok (.aload_n 0, 1) := by decide +kernel
theorem dX2_init_5 : decode cX2_init 5 = .ok (.iconst 4, 1) := by decide +kernel
theorem dX2_init_6 : decode cX2_init 6 = .ok (.newarray .int, 2) := by decide +kernel
theorem dX2_init_8 : decode cX2_init 8 = .ok (.putfield 11, 3) := by decide +kernel
theorem dX2_init_11 : decode cX2_init 11 = .ok (.aload_n 0, 1) := by decide +kernel
theorem dX2_init_12 : decode cX2_init 12 = .ok (.iconst 4, 1) := by decide +kernel
theorem dX2_init_13 : decode cX2_init 13 = .ok (.newarray .int, 2) := by decide +kernel
theorem dX2_init_15 : decode cX2_init 15 = .ok (.putfield 15, 3) := by decide +kernel
theorem dX2_init_18 : decode cX2_init 18 = .ok (.aload_n 0, 1) := by decide +kernel
theorem dX2_init_19 : decode cX2_init 19 = .ok (.iconst 4, 1) := by decide +kernel
theorem dX2_init_20 : decode cX2_init 20 = .ok (.newarray .int, 2) := by decide +kernel
theorem dX2_init_22 : decode cX2_init 22 = .ok (.putfield 18, 3) := by decide +kernel
theorem dX2_init_25 : decode cX2_init 25 = .ok (.aload_n 0, 1) := by decide +kernel
theorem dX2_init_26 : decode cX2_init 26 = .ok (.iconst 4, 1) := by decide +kernel
theorem dX2_init_27 : decode cX2_init 27 = .ok (.newarray .int, 2) := by decide +kernel
theorem dX2_init_29 : decode cX2_init 29 = .ok (.putfield 21, 3) := by decide +kernel
theorem dX2_init_32 : decode cX2_init 32 = .ok (.return_, 1) := by decide +kernel
theorem dX2_tell_0 : decode cX2_tell 0 = .ok (.iload_n 1, 1) := by decide +kernel
theorem dX2_tell_1 : decode cX2_tell 1 = .ok (.invokestatic 24, 3) := by decide +kernel
theorem dX2_tell_4 : decode cX2_tell 4 = .ok (.ifCond .eq 17, 3) := by decide +kernel
theorem dX2_tell_7 : decode cX2_tell 7 = .ok (.aload_n 0, 1) := by decide +kernel
theorem dX2_tell_8 : decode cX2_tell 8 = .ok (.getfield 11, 3) := by decide +kernel
theorem dX2_tell_11 : decode cX2_tell 11 = .ok (.iload_n 1, 1) := by decide +kernel
theorem dX2_tell_12 : decode cX2_tell 12 = .ok (.iload_n 2, 1) := by decide +kernel
theorem dX2_tell_13 : decode cX2_tell 13 = .ok (.iastore, 1) := by decide +kernel
theorem dX2_tell_14 : decode cX2_tell 14 = .ok (.aload_n 0, 1) := by decide +kernel
theorem dX2_tell_15 : decode cX2_tell 15 = .ok (.getfield 15, 3) := by decide +kernel
theorem dX2_tell_18 : decode cX2_tell 18 = .ok (.iload_n 1, 1) := by decide +kernel
theorem dX2_tell_19 : decode cX2_tell 19 = .ok (.iload_n 3, 1) := by decide +kernel
theorem dX2_tell_20 : decode cX2_tell 20 = .ok (.iastore, 1) := by decide +kernel
theorem dX2_tell_21 : decode cX2_tell 21 = .ok (.return_, 1) := by decide +kernel
theorem dX2_pair_0 : decode cX2_pair 0 = .ok (.iload_n 1, 1) := by decide +kernel
theorem dX2_pair_1 : decode cX2_pair 1 = .ok (.invokestatic 24, 3) := by decide +kernel
theorem dX2_pair_4 : decode cX2_pair 4 = .ok (.ifCond .eq 38, 3) := by decide +kernel
theorem dX2_pair_7 : decode cX2_pair 7 = .ok (.aload_n 0, 1) := by decide +kernel
theorem dX2_pair_8 : decode cX2_pair 8 = .ok (.getfield 18, 3) := by decide +kernel
theorem dX2_pair_11 : decode cX2_pair 11 = .ok (.iload_n 1, 1) := by decide +kernel
theorem dX2_pair_12 : decode cX2_pair 12 = .ok (.iload_n 3, 1) := by decide +kernel
theorem dX2_pair_13 : decode cX2_pair 13 = .ok (.ifCond .eq 16, 3) := by decide +kernel
theorem dX2_pair_16 : decode cX2_pair 16 = .ok (.aload_n 0, 1) := by decide +kernel
theorem dX2_pair_17 : decode cX2_pair 17 = .ok (.getfield 18, 3) := by decide +kernel
theorem dX2_pair_20 : decode cX2_pair 20 = .ok (.iload_n 1, 1) := by decide +kernel
theorem dX2_pair_21 : decode cX2_pair 21 = .ok (.iaload, 1) := by decide +kernel
theorem dX2_pair_22 : decode cX2_pair 22 = .ok (.iconst 1, 1) := by decide +kernel
theorem dX2_pair_23 : decode cX2_pair 23 = .ok (.iload_n 2, 1) := by decide +kernel
theorem dX2_pair_24 : decode cX2_pair 24 = .ok (.ishl, 1) := by decide +kernel
theorem dX2_pair_25 : decode cX2_pair 25 = .ok (.ior, 1) := by decide +kernel
theorem dX2_pair_26 : decode cX2_pair 26 = .ok (.goto 15, 3) := by decide +kernel
theorem dX2_pair_29 : decode cX2_pair 29 = .ok (.aload_n 0, 1) := by decide +kernel
theorem dX2_pair_30 : decode cX2_pair 30 = .ok (.getfield 18, 3) := by decide +kernel
theorem dX2_pair_33 : decode cX2_pair 33 = .ok (.iload_n 1, 1) := by decide +kernel
theorem dX2_pair_34 : decode cX2_pair 34 = .ok (.iaload, 1) := by decide +kernel
theorem dX2_pair_35 : decode cX2_pair 35 = .ok (.iconst 1, 1) := by decide +kernel
theorem dX2_pair_36 : decode cX2_pair 36 = .ok (.iload_n 2, 1) := by decide +kernel
theorem dX2_pair_37 : decode cX2_pair 37 = .ok (.ishl, 1) := by decide +kernel
theorem dX2_pair_38 : decode cX2_pair 38 = .ok (.iconst (-1), 1) := by decide +kernel
theorem dX2_pair_39 : decode cX2_pair 39 = .ok (.ixor, 1) := by decide +kernel
theorem dX2_pair_40 : decode cX2_pair 40 = .ok (.iand, 1) := by decide +kernel
theorem dX2_pair_41 : decode cX2_pair 41 = .ok (.iastore, 1) := by decide +kernel
theorem dX2_pair_42 : decode cX2_pair 42 = .ok (.return_, 1) := by decide +kernel
theorem dX2_isTold_0 : decode cX2_isTold 0 = .ok (.iload_n 1, 1) := by decide +kernel
theorem dX2_isTold_1 : decode cX2_isTold 1 = .ok (.invokestatic 24, 3) := by decide +kernel
theorem dX2_isTold_4 : decode cX2_isTold 4 = .ok (.ifCond .eq 16, 3) := by decide +kernel
theorem dX2_isTold_7 : decode cX2_isTold 7 = .ok (.aload_n 0, 1) := by decide +kernel
theorem dX2_isTold_8 : decode cX2_isTold 8 = .ok (.getfield 11, 3) := by decide +kernel
theorem dX2_isTold_11 : decode cX2_isTold 11 = .ok (.iload_n 1, 1) := by decide +kernel
theorem dX2_isTold_12 : decode cX2_isTold 12 = .ok (.iaload, 1) := by decide +kernel
theorem dX2_isTold_13 : decode cX2_isTold 13 = .ok (.ifCond .le 7, 3) := by decide +kernel
theorem dX2_isTold_16 : decode cX2_isTold 16 = .ok (.iconst 1, 1) := by decide +kernel
theorem dX2_isTold_17 : decode cX2_isTold 17 = .ok (.goto 4, 3) := by decide +kernel
theorem dX2_isTold_20 : decode cX2_isTold 20 = .ok (.iconst 0, 1) := by decide +kernel
theorem dX2_isTold_21 : decode cX2_isTold 21 = .ok (.ireturn, 1) := by decide +kernel
theorem dX2_streams_0 : decode cX2_streams 0 = .ok (.iconst 0, 1) := by decide +kernel
theorem dX2_streams_1 : decode cX2_streams 1 = .ok (.istore_n 1, 1) := by decide +kernel
theorem dX2_streams_2 : decode cX2_streams 2 = .ok (.iconst 0, 1) := by decide +kernel
theorem dX2_streams_3 : decode cX2_streams 3 = .ok (.istore_n 2, 1) := by decide +kernel
theorem dX2_streams_4 : decode cX2_streams 4 = .ok (.iload_n 2, 1) := by decide +kernel
theorem dX2_streams_5 : decode cX2_streams 5 = .ok (.iconst 4, 1) := by decide +kernel
theorem dX2_streams_6 : decode cX2_streams 6 = .ok (.if_icmp .ge 20, 3) := by decide +kernel
theorem dX2_streams_9 : decode cX2_streams 9 = .ok (.aload_n 0, 1) := by decide +kernel
theorem dX2_streams_10 : decode cX2_streams 10 = .ok (.iload_n 2, 1) := by decide +kernel
theorem dX2_streams_11 : decode cX2_streams 11 = .ok (.invokevirtual 28, 3) := by decide +kernel
theorem dX2_streams_14 : decode cX2_streams 14 = .ok (.ifCond .eq 6, 3) := by decide +kernel
theorem dX2_streams_17 : decode cX2_streams 17 = .ok (.iinc 1 1, 3) := by decide +kernel
theorem dX2_streams_20 : decode cX2_streams 20 = .ok (.iinc 2 1, 3) := by decide +kernel
theorem dX2_streams_23 : decode cX2_streams 23 = .ok (.goto (-19), 3) := by decide +kernel
theorem dX2_streams_26 : decode cX2_streams 26 = .ok (.iload_n 1, 1) := by decide +kernel
theorem dX2_streams_27 : decode cX2_streams 27 = .ok (.ireturn, 1) := by decide +kernel
theorem dX2_findBest_0 : decode cX2_findBest 0 = .ok (.aload_n 0, 1) := by decide +kernel
theorem dX2_findBest_1 : decode cX2_findBest 1 = .ok (.iconst (-1), 1) := by decide +kernel
theorem dX2_findBest_2 : decode cX2_findBest 2 = .ok (.putfield 31, 3) := by decide +kernel
theorem dX2_findBest_5 : decode cX2_findBest 5 = .ok (.aload_n 0, 1) := by decide +kernel
theorem dX2_findBest_6 : decode cX2_findBest 6 = .ok (.invokevirtual 35, 3) := by decide +kernel
theorem dX2_findBest_9 : decode cX2_findBest 9 = .ok (.ifCond .ne 5, 3) := by decide +kernel
theorem dX2_findBest_12 : decode cX2_findBest 12 = .ok (.iconst 0, 1) := by decide +kernel
theorem dX2_findBest_13 : decode cX2_findBest 13 = .ok (.ireturn, 1) := by decide +kernel
theorem dX2_findBest_14 : decode cX2_findBest 14 = .ok (.iconst 0, 1) := by decide +kernel
theorem dX2_findBest_15 : decode cX2_findBest 15 = .ok (.istore_n 2, 1) := by decide +kernel
theorem dX2_findBest_16 : decode cX2_findBest 16 = .ok (.iload_n 2, 1) := by decide +kernel
theorem dX2_findBest_17 : decode cX2_findBest 17 = .ok (.sipush 256, 3) := by decide +kernel
theorem dX2_findBest_20 : decode cX2_findBest 20 = .ok (.if_icmp .ge 23, 3) := by decide +kernel
theorem dX2_findBest_23 : decode cX2_findBest 23 = .ok (.aload_n 0, 1) := by decide +kernel
theorem dX2_findBest_24 : decode cX2_findBest 24 = .ok (.iload_n 2, 1) := by decide +kernel
theorem dX2_findBest_25 : decode cX2_findBest 25 = .ok (.invokevirtual 39, 3) := by decide +kernel
theorem dX2_findBest_28 : decode cX2_findBest 28 = .ok (.ifCond .eq 9, 3) := by decide +kernel
theorem dX2_findBest_31 : decode cX2_findBest 31 = .ok (.aload_n 0, 1) := by decide +kernel
theorem dX2_findBest_32 : decode cX2_findBest 32 = .ok (.iload_n 2, 1) := by decide +kernel
theorem dX2_findBest_33 : decode cX2_findBest 33 = .ok (.iload_n 1, 1) := by decide +kernel
theorem dX2_findBest_34 : decode cX2_findBest 34 = .ok (.invokevirtual 42, 3) := by decide +kernel
theorem dX2_findBest_37 : decode cX2_findBest 37 = .ok (.iinc 2 1, 3) := by decide +kernel
theorem dX2_findBest_40 : decode cX2_findBest 40 = .ok (.goto (-24), 3) := by decide +kernel
theorem dX2_findBest_43 : decode cX2_findBest 43 = .ok (.aload_n 0, 1) := by decide +kernel
theorem dX2_findBest_44 : decode cX2_findBest 44 = .ok (.getfield 31, 3) := by decide +kernel
theorem dX2_findBest_47 : decode cX2_findBest 47 = .ok (.iconst (-1), 1) := by decide +kernel
theorem dX2_findBest_48 : decode cX2_findBest 48 = .ok (.if_icmp .eq 7, 3) := by decide +kernel
theorem dX2_findBest_51 : decode cX2_findBest 51 = .ok (.iconst 1, 1) := by decide +kernel
theorem dX2_findBest_52 : decode cX2_findBest 52 = .ok (.goto 4, 3) := by decide +kernel
theorem dX2_findBest_55 : decode cX2_findBest 55 = .ok (.iconst 0, 1) := by decide +kernel
theorem dX2_findBest_56 : decode cX2_findBest 56 = .ok (.ireturn, 1) := by decide +kernel
theorem dX2_bestPhaseOf_0 : decode cX2_bestPhaseOf 0 = .ok (.aload_n 0, 1) := by decide +kernel
theorem dX2_bestPhaseOf_1 : decode cX2_bestPhaseOf 1 = .ok (.getfield 31, 3) := by decide +kernel
theorem dX2_bestPhaseOf_4 : decode cX2_bestPhaseOf 4 = .ok (.iload_n 1, 1) := by decide +kernel
theorem dX2_bestPhaseOf_5 : decode cX2_bestPhaseOf 5 = .ok (.invokestatic 46, 3) := by decide +kernel
theorem dX2_bestPhaseOf_8 : decode cX2_bestPhaseOf 8 = .ok (.ireturn, 1) := by decide +kernel
theorem dX2_bestWaitingOf_0 : decode cX2_bestWaitingOf 0 = .ok (.aload_n 0, 1) := by decide +kernel
theorem dX2_bestWaitingOf_1 : decode cX2_bestWaitingOf 1 = .ok (.aload_n 0, 1) := by decide +kernel
theorem dX2_bestWaitingOf_2 : decode cX2_bestWaitingOf 2 = .ok (.getfield 31, 3) := by decide +kernel
theorem dX2_bestWaitingOf_5 : decode cX2_bestWaitingOf 5 = .ok (.invokevirtual 39, 3) := by decide +kernel
theorem dX2_bestWaitingOf_8 : decode cX2_bestWaitingOf 8 = .ok (.ifCond .eq 20, 3) := by decide +kernel
theorem dX2_bestWaitingOf_11 : decode cX2_bestWaitingOf 11 = .ok (.aload_n 0, 1) := by decide +kernel
theorem dX2_bestWaitingOf_12 : decode cX2_bestWaitingOf 12 = .ok (.iload_n 1, 1) := by decide +kernel
theorem dX2_bestWaitingOf_13 : decode cX2_bestWaitingOf 13 = .ok (.aload_n 0, 1) := by decide +kernel
theorem dX2_bestWaitingOf_14 : decode cX2_bestWaitingOf 14 = .ok (.getfield 31, 3) := by decide +kernel
theorem dX2_bestWaitingOf_17 : decode cX2_bestWaitingOf 17 = .ok (.aload_n 0, 1) := by decide +kernel
theorem dX2_bestWaitingOf_18 : decode cX2_bestWaitingOf 18 = .ok (.iload_n 2, 1) := by decide +kernel
theorem dX2_bestWaitingOf_19 : decode cX2_bestWaitingOf 19 = .ok (.invokevirtual 50, 3) := by decide +kernel
theorem dX2_bestWaitingOf_22 : decode cX2_bestWaitingOf 22 = .ok (.invokevirtual 54, 3) := by decide +kernel
theorem dX2_bestWaitingOf_25 : decode cX2_bestWaitingOf 25 = .ok (.goto 4, 3) := by decide +kernel
theorem dX2_bestWaitingOf_28 : decode cX2_bestWaitingOf 28 = .ok (.iconst (-1), 1) := by decide +kernel
theorem dX2_bestWaitingOf_29 : decode cX2_bestWaitingOf 29 = .ok (.ireturn, 1) := by decide +kernel
theorem dX2_compare_0 : decode cX2_compare 0 = .ok (.aload_n 0, 1) := by decide +kernel
theorem dX2_compare_1 : decode cX2_compare 1 = .ok (.iload_n 2, 1) := by decide +kernel
theorem dX2_compare_2 : decode cX2_compare 2 = .ok (.invokevirtual 50, 3) := by decide +kernel
theorem dX2_compare_5 : decode cX2_compare 5 = .ok (.istore_n 3, 1) := by decide +kernel
theorem dX2_compare_6 : decode cX2_compare 6 = .ok (.iload_n 3, 1) := by decide +kernel
theorem dX2_compare_7 : decode cX2_compare 7 = .ok (.bipush 120, 2) := by decide +kernel
theorem dX2_compare_9 : decode cX2_compare 9 = .ok (.if_icmp .le 4, 3) := by decide +kernel
theorem dX2_compare_12 : decode cX2_compare 12 = .ok (.return_, 1) := by decide +kernel
theorem dX2_compare_13 : decode cX2_compare 13 = .ok (.iconst 0, 1) := by decide +kernel
theorem dX2_compare_14 : decode cX2_compare 14 = .ok (.istore 4, 2) := by decide +kernel
theorem dX2_compare_16 : decode cX2_compare 16 = .ok (.iconst 0, 1) := by decide +kernel
theorem dX2_compare_17 : decode cX2_compare 17 = .ok (.istore 5, 2) := by decide +kernel
theorem dX2_compare_19 : decode cX2_compare 19 = .ok (.iload 5, 2) := by decide +kernel
theorem dX2_compare_21 : decode cX2_compare 21 = .ok (.iconst 4, 1) := by decide +kernel
theorem dX2_compare_22 : decode cX2_compare 22 = .ok (.if_icmp .ge 22, 3) := by decide +kernel
theorem dX2_compare_25 : decode cX2_compare 25 = .ok (.iload 4, 2) := by decide +kernel
theorem dX2_compare_27 : decode cX2_compare 27 = .ok (.aload_n 0, 1) := by decide +kernel
theorem dX2_compare_28 : decode cX2_compare 28 = .ok (.iload 5, 2) := by decide +kernel
theorem dX2_compare_30 : decode cX2_compare 30 = .ok (.iload_n 1, 1) := by decide +kernel
theorem dX2_compare_31 : decode cX2_compare 31 = .ok (.iload_n 3, 1) := by decide +kernel
theorem dX2_compare_32 : decode cX2_compare 32 = .ok (.invokevirtual 54, 3) := by decide +kernel
theorem dX2_compare_35 : decode cX2_compare 35 = .ok (.iadd, 1) := by decide +kernel
theorem dX2_compare_36 : decode cX2_compare 36 = .ok (.istore 4, 2) := by decide +kernel
theorem dX2_compare_38 : decode cX2_compare 38 = .ok (.iinc 5 1, 3) := by decide +kernel
theorem dX2_compare_41 : decode cX2_compare 41 = .ok (.goto (-22), 3) := by decide +kernel
theorem dX2_compare_44 : decode cX2_compare 44 = .ok (.aload_n 0, 1) := by decide +kernel
theorem dX2_compare_45 : decode cX2_compare 45 = .ok (.getfield 31, 3) := by decide +kernel
theorem dX2_compare_48 : decode cX2_compare 48 = .ok (.iconst (-1), 1) := by decide +kernel
theorem dX2_compare_49 : decode cX2_compare 49 = .ok (.if_icmp .eq 29, 3) := by decide +kernel
theorem dX2_compare_52 : decode cX2_compare 52 = .ok (.iload 4, 2) := by decide +kernel
theorem dX2_compare_54 : decode cX2_compare 54 = .ok (.aload_n 0, 1) := by decide +kernel
theorem dX2_compare_55 : decode cX2_compare 55 = .ok (.getfield 58, 3) := by decide +kernel
theorem dX2_compare_58 : decode cX2_compare 58 = .ok (.if_icmp .lt 20, 3) := by decide +kernel
theorem dX2_compare_61 : decode cX2_compare 61 = .ok (.iload 4, 2) := by decide +kernel
theorem dX2_compare_63 : decode cX2_compare 63 = .ok (.aload_n 0, 1) := by decide +kernel
theorem dX2_compare_64 : decode cX2_compare 64 = .ok (.getfield 58, 3) := by decide +kernel
theorem dX2_compare_67 : decode cX2_compare 67 = .ok (.if_icmp .ne 27, 3) := by decide +kernel
theorem dX2_compare_70 : decode cX2_compare 70 = .ok (.iload_n 3, 1) := by decide +kernel
theorem dX2_compare_71 : decode cX2_compare 71 = .ok (.aload_n 0, 1) := by decide +kernel
theorem dX2_compare_72 : decode cX2_compare 72 = .ok (.getfield 61, 3) := by decide +kernel
theorem dX2_compare_75 : decode cX2_compare 75 = .ok (.if_icmp .ge 19, 3) := by decide +kernel
theorem dX2_compare_78 : decode cX2_compare 78 = .ok (.aload_n 0, 1) := by decide +kernel
theorem dX2_compare_79 : decode cX2_compare 79 = .ok (.iload_n 1, 1) := by decide +kernel
theorem dX2_compare_80 : decode cX2_compare 80 = .ok (.putfield 31, 3) := by decide +kernel
theorem dX2_compare_83 : decode cX2_compare 83 = .ok (.aload_n 0, 1) := by decide +kernel
theorem dX2_compare_84 : decode cX2_compare 84 = .ok (.iload_n 3, 1) := by decide +kernel
theorem dX2_compare_85 : decode cX2_compare 85 = .ok (.putfield 61, 3) := by decide +kernel
theorem dX2_compare_88 : decode cX2_compare 88 = .ok (.aload_n 0, 1) := by decide +kernel
theorem dX2_compare_89 : decode cX2_compare 89 = .ok (.iload 4, 2) := by decide +kernel
theorem dX2_compare_91 : decode cX2_compare 91 = .ok (.putfield 58, 3) := by decide +kernel
theorem dX2_compare_94 : decode cX2_compare 94 = .ok (.return_, 1) := by decide +kernel
theorem dX2_arrange_0 : decode cX2_arrange 0 = .ok (.aload_n 0, 1) := by decide +kernel
theorem dX2_arrange_1 : decode cX2_arrange 1 = .ok (.iconst 0, 1) := by decide +kernel
theorem dX2_arrange_2 : decode cX2_arrange 2 = .ok (.putfield 64, 3) := by decide +kernel
theorem dX2_arrange_5 : decode cX2_arrange 5 = .ok (.iconst 0, 1) := by decide +kernel
theorem dX2_arrange_6 : decode cX2_arrange 6 = .ok (.istore_n 2, 1) := by decide +kernel
theorem dX2_arrange_7 : decode cX2_arrange 7 = .ok (.iload_n 2, 1) := by decide +kernel
theorem dX2_arrange_8 : decode cX2_arrange 8 = .ok (.iconst 4, 1) := by decide +kernel
theorem dX2_arrange_9 : decode cX2_arrange 9 = .ok (.if_icmp .ge 16, 3) := by decide +kernel
theorem dX2_arrange_12 : decode cX2_arrange 12 = .ok (.aload_n 0, 1) := by decide +kernel
theorem dX2_arrange_13 : decode cX2_arrange 13 = .ok (.getfield 21, 3) := by decide +kernel
theorem dX2_arrange_16 : decode cX2_arrange 16 = .ok (.iload_n 2, 1) := by decide +kernel
theorem dX2_arrange_17 : decode cX2_arrange 17 = .ok (.iconst 0, 1) := by decide +kernel
theorem dX2_arrange_18 : decode cX2_arrange 18 = .ok (.iastore, 1) := by decide +kernel
theorem dX2_arrange_19 : decode cX2_arrange 19 = .ok (.iinc 2 1, 3) := by decide +kernel
theorem dX2_arrange_22 : decode cX2_arrange 22 = .ok (.goto (-15), 3) := by decide +kernel
theorem dX2_arrange_25 : decode cX2_arrange 25 = .ok (.iconst 0, 1) := by decide +kernel
theorem dX2_arrange_26 : decode cX2_arrange 26 = .ok (.istore_n 2, 1) := by decide +kernel
theorem dX2_arrange_27 : decode cX2_arrange 27 = .ok (.iload_n 2, 1) := by decide +kernel
theorem dX2_arrange_28 : decode cX2_arrange 28 = .ok (.iconst 4, 1) := by decide +kernel
theorem dX2_arrange_29 : decode cX2_arrange 29 = .ok (.if_icmp .ge 92, 3) := by decide +kernel
theorem dX2_arrange_32 : decode cX2_arrange 32 = .ok (.iload_n 1, 1) := by decide +kernel
theorem dX2_arrange_33 : decode cX2_arrange 33 = .ok (.iload_n 2, 1) := by decide +kernel
theorem dX2_arrange_34 : decode cX2_arrange 34 = .ok (.invokestatic 46, 3) := by decide +kernel
theorem dX2_arrange_37 : decode cX2_arrange 37 = .ok (.istore_n 3, 1) := by decide +kernel
theorem dX2_arrange_38 : decode cX2_arrange 38 = .ok (.aload_n 0, 1) := by decide +kernel
theorem dX2_arrange_39 : decode cX2_arrange 39 = .ok (.iload_n 2, 1) := by decide +kernel
theorem dX2_arrange_40 : decode cX2_arrange 40 = .ok (.invokevirtual 28, 3) := by decide +kernel
theorem dX2_arrange_43 : decode cX2_arrange 43 = .ok (.ifCond .eq 58, 3) := by decide +kernel
theorem dX2_arrange_46 : decode cX2_arrange 46 = .ok (.iload_n 3, 1) := by decide +kernel
theorem dX2_arrange_47 : decode cX2_arrange 47 = .ok (.aload_n 0, 1) := by decide +kernel
theorem dX2_arrange_48 : decode cX2_arrange 48 = .ok (.getfield 64, 3) := by decide +kernel
theorem dX2_arrange_51 : decode cX2_arrange 51 = .ok (.if_icmp .gt 50, 3) := by decide +kernel
theorem dX2_arrange_54 : decode cX2_arrange 54 = .ok (.aload_n 0, 1) := by decide +kernel
theorem dX2_arrange_55 : decode cX2_arrange 55 = .ok (.iload_n 2, 1) := by decide +kernel
theorem dX2_arrange_56 : decode cX2_arrange 56 = .ok (.iload_n 1, 1) := by decide +kernel
theorem dX2_arrange_57 : decode cX2_arrange 57 = .ok (.invokevirtual 67, 3) := by decide +kernel
theorem dX2_arrange_60 : decode cX2_arrange 60 = .ok (.ifCond .eq 41, 3) := by decide +kernel
theorem dX2_arrange_63 : decode cX2_arrange 63 = .ok (.aload_n 0, 1) := by decide +kernel
theorem dX2_arrange_64 : decode cX2_arrange 64 = .ok (.aload_n 0, 1) := by decide +kernel
theorem dX2_arrange_65 : decode cX2_arrange 65 = .ok (.getfield 64, 3) := by decide +kernel
theorem dX2_arrange_68 : decode cX2_arrange 68 = .ok (.iload_n 3, 1) := by decide +kernel
theorem dX2_arrange_69 : decode cX2_arrange 69 = .ok (.iconst 1, 1) := by decide +kernel
theorem dX2_arrange_70 : decode cX2_arrange 70 = .ok (.iadd, 1) := by decide +kernel
theorem dX2_arrange_71 : decode cX2_arrange 71 = .ok (.invokestatic 71, 3) := by decide +kernel
theorem dX2_arrange_74 : decode cX2_arrange 74 = .ok (.putfield 64, 3) := by decide +kernel
theorem dX2_arrange_77 : decode cX2_arrange 77 = .ok (.aload_n 0, 1) := by decide +kernel
theorem dX2_arrange_78 : decode cX2_arrange 78 = .ok (.getfield 21, 3) := by decide +kernel
theorem dX2_arrange_81 : decode cX2_arrange 81 = .ok (.iload_n 3, 1) := by decide +kernel
theorem dX2_arrange_82 : decode cX2_arrange 82 = .ok (.aload_n 0, 1) := by decide +kernel
theorem dX2_arrange_83 : decode cX2_arrange 83 = .ok (.getfield 21, 3) := by decide +kernel
theorem dX2_arrange_86 : decode cX2_arrange 86 = .ok (.iload_n 3, 1) := by decide +kernel
theorem dX2_arrange_87 : decode cX2_arrange 87 = .ok (.iaload, 1) := by decide +kernel
theorem dX2_arrange_88 : decode cX2_arrange 88 = .ok (.aload_n 0, 1) := by decide +kernel
theorem dX2_arrange_89 : decode cX2_arrange 89 = .ok (.getfield 11, 3) := by decide +kernel
theorem dX2_arrange_92 : decode cX2_arrange 92 = .ok (.iload_n 2, 1) := by decide +kernel
theorem dX2_arrange_93 : decode cX2_arrange 93 = .ok (.iaload, 1) := by decide +kernel
theorem dX2_arrange_94 : decode cX2_arrange 94 = .ok (.invokestatic 71, 3) := by decide +kernel
theorem dX2_arrange_97 : decode cX2_arrange 97 = .ok (.iastore, 1) := by decide +kernel
theorem dX2_arrange_98 : decode cX2_arrange 98 = .ok (.goto 17, 3) := by decide +kernel
theorem dX2_arrange_101 : decode cX2_arrange 101 = .ok (.aload_n 0, 1) := by decide +kernel
theorem dX2_arrange_102 : decode cX2_arrange 102 = .ok (.iload_n 2, 1) := by decide +kernel
theorem dX2_arrange_103 : decode cX2_arrange 103 = .ok (.invokevirtual 28, 3) := by decide +kernel
theorem dX2_arrange_106 : decode cX2_arrange 106 = .ok (.ifCond .ne 7, 3) := by decide +kernel
theorem dX2_arrange_109 : decode cX2_arrange 109 = .ok (.iload_n 3, 1) := by decide +kernel
theorem dX2_arrange_110 : decode cX2_arrange 110 = .ok (.ifCond .eq 5, 3) := by decide +kernel
theorem dX2_arrange_113 : decode cX2_arrange 113 = .ok (.iconst 0, 1) := by decide +kernel
theorem dX2_arrange_114 : decode cX2_arrange 114 = .ok (.ireturn, 1) := by decide +kernel
theorem dX2_arrange_115 : decode cX2_arrange 115 = .ok (.iinc 2 1, 3) := by decide +kernel
theorem dX2_arrange_118 : decode cX2_arrange 118 = .ok (.goto (-91), 3) := by decide +kernel
theorem dX2_arrange_121 : decode cX2_arrange 121 = .ok (.iconst 1, 1) := by decide +kernel
theorem dX2_arrange_122 : decode cX2_arrange 122 = .ok (.ireturn, 1) := by decide +kernel
theorem dX2_mayJoin_0 : decode cX2_mayJoin 0 = .ok (.iconst 0, 1) := by decide +kernel
theorem dX2_mayJoin_1 : decode cX2_mayJoin 1 = .ok (.istore_n 3, 1) := by decide +kernel
theorem dX2_mayJoin_2 : decode cX2_mayJoin 2 = .ok (.iload_n 3, 1) := by decide +kernel
theorem dX2_mayJoin_3 : decode cX2_mayJoin 3 = .ok (.iload_n 1, 1) := by decide +kernel
theorem dX2_mayJoin_4 : decode cX2_mayJoin 4 = .ok (.if_icmp .ge 64, 3) := by decide +kernel
theorem dX2_mayJoin_7 : decode cX2_mayJoin 7 = .ok (.iload_n 1, 1) := by decide +kernel
theorem dX2_mayJoin_8 : decode cX2_mayJoin 8 = .ok (.invokestatic 24, 3) := by decide +kernel
theorem dX2_mayJoin_11 : decode cX2_mayJoin 11 = .ok (.ifCond .eq 57, 3) := by decide +kernel
theorem dX2_mayJoin_14 : decode cX2_mayJoin 14 = .ok (.aload_n 0, 1) := by decide +kernel
theorem dX2_mayJoin_15 : decode cX2_mayJoin 15 = .ok (.iload_n 3, 1) := by decide +kernel
theorem dX2_mayJoin_16 : decode cX2_mayJoin 16 = .ok (.invokevirtual 28, 3) := by decide +kernel
theorem dX2_mayJoin_19 : decode cX2_mayJoin 19 = .ok (.ifCond .eq 20, 3) := by decide +kernel
theorem dX2_mayJoin_22 : decode cX2_mayJoin 22 = .ok (.iload_n 2, 1) := by decide +kernel
theorem dX2_mayJoin_23 : decode cX2_mayJoin 23 = .ok (.iload_n 3, 1) := by decide +kernel
theorem dX2_mayJoin_24 : decode cX2_mayJoin 24 = .ok (.invokestatic 46, 3) := by decide +kernel
theorem dX2_mayJoin_27 : decode cX2_mayJoin 27 = .ok (.iload_n 2, 1) := by decide +kernel
theorem dX2_mayJoin_28 : decode cX2_mayJoin 28 = .ok (.iload_n 1, 1) := by decide +kernel
theorem dX2_mayJoin_29 : decode cX2_mayJoin 29 = .ok (.invokestatic 46, 3) := by decide +kernel
theorem dX2_mayJoin_32 : decode cX2_mayJoin 32 = .ok (.if_icmp .ne 7, 3) := by decide +kernel
theorem dX2_mayJoin_35 : decode cX2_mayJoin 35 = .ok (.iconst 1, 1) := by decide +kernel
theorem dX2_mayJoin_36 : decode cX2_mayJoin 36 = .ok (.goto 4, 3) := by decide +kernel
theorem dX2_mayJoin_39 : decode cX2_mayJoin 39 = .ok (.iconst 0, 1) := by decide +kernel
theorem dX2_mayJoin_40 : decode cX2_mayJoin 40 = .ok (.istore 4, 2) := by decide +kernel
theorem dX2_mayJoin_42 : decode cX2_mayJoin 42 = .ok (.iload 4, 2) := by decide +kernel
theorem dX2_mayJoin_44 : decode cX2_mayJoin 44 = .ok (.ifCond .eq 18, 3) := by decide +kernel
theorem dX2_mayJoin_47 : decode cX2_mayJoin 47 = .ok (.aload_n 0, 1) := by decide +kernel
theorem dX2_mayJoin_48 : decode cX2_mayJoin 48 = .ok (.getfield 18, 3) := by decide +kernel
theorem dX2_mayJoin_51 : decode cX2_mayJoin 51 = .ok (.iload_n 1, 1) := by decide +kernel
theorem dX2_mayJoin_52 : decode cX2_mayJoin 52 = .ok (.iaload, 1) := by decide +kernel
theorem dX2_mayJoin_53 : decode cX2_mayJoin 53 = .ok (.iload_n 3, 1) := by decide +kernel
theorem dX2_mayJoin_54 : decode cX2_mayJoin 54 = .ok (.ishr, 1) := by decide +kernel
theorem dX2_mayJoin_55 : decode cX2_mayJoin 55 = .ok (.iconst 1, 1) := by decide +kernel
theorem dX2_mayJoin_56 : decode cX2_mayJoin 56 = .ok (.iand, 1) := by decide +kernel
theorem dX2_mayJoin_57 : decode cX2_mayJoin 57 = .ok (.ifCond .ne 5, 3) := by decide +kernel
theorem dX2_mayJoin_60 : decode cX2_mayJoin 60 = .ok (.iconst 0, 1) := by decide +kernel
theorem dX2_mayJoin_61 : decode cX2_mayJoin 61 = .ok (.ireturn, 1) := by decide +kernel
theorem dX2_mayJoin_62 : decode cX2_mayJoin 62 = .ok (.iinc 3 1, 3) := by decide +kernel
theorem dX2_mayJoin_65 : decode cX2_mayJoin 65 = .ok (.goto (-63), 3) := by decide +kernel
theorem dX2_mayJoin_68 : decode cX2_mayJoin 68 = .ok (.iconst 1, 1) := by decide +kernel
theorem dX2_mayJoin_69 : decode cX2_mayJoin 69 = .ok (.ireturn, 1) := by decide +kernel
theorem dX2_round_0 : decode cX2_round 0 = .ok (.iload_n 1, 1) := by decide +kernel
theorem dX2_round_1 : decode cX2_round 1 = .ok (.aload_n 0, 1) := by decide +kernel
theorem dX2_round_2 : decode cX2_round 2 = .ok (.getfield 64, 3) := by decide +kernel
theorem dX2_round_5 : decode cX2_round 5 = .ok (.imul, 1) := by decide +kernel
theorem dX2_round_6 : decode cX2_round 6 = .ok (.istore_n 2, 1) := by decide +kernel
theorem dX2_round_7 : decode cX2_round 7 = .ok (.iconst 0, 1) := by decide +kernel
theorem dX2_round_8 : decode cX2_round 8 = .ok (.istore_n 3, 1) := by decide +kernel
theorem dX2_round_9 : decode cX2_round 9 = .ok (.iload_n 3, 1) := by decide +kernel
theorem dX2_round_10 : decode cX2_round 10 = .ok (.iconst 4, 1) := by decide +kernel
theorem dX2_round_11 : decode cX2_round 11 = .ok (.if_icmp .ge 18, 3) := by decide +kernel
theorem dX2_round_14 : decode cX2_round 14 = .ok (.iload_n 2, 1) := by decide +kernel
theorem dX2_round_15 : decode cX2_round 15 = .ok (.aload_n 0, 1) := by decide +kernel
theorem dX2_round_16 : decode cX2_round 16 = .ok (.getfield 21, 3) := by decide +kernel
theorem dX2_round_19 : decode cX2_round 19 = .ok (.iload_n 3, 1) := by decide +kernel
theorem dX2_round_20 : decode cX2_round 20 = .ok (.iaload, 1) := by decide +kernel
theorem dX2_round_21 : decode cX2_round 21 = .ok (.iadd, 1) := by decide +kernel
theorem dX2_round_22 : decode cX2_round 22 = .ok (.istore_n 2, 1) := by decide +kernel
theorem dX2_round_23 : decode cX2_round 23 = .ok (.iinc 3 1, 3) := by decide +kernel
theorem dX2_round_26 : decode cX2_round 26 = .ok (.goto (-17), 3) := by decide +kernel
theorem dX2_round_29 : decode cX2_round 29 = .ok (.iload_n 2, 1) := by decide +kernel
theorem dX2_round_30 : decode cX2_round 30 = .ok (.ireturn, 1) := by decide +kernel
theorem dX2_waitingOf_0 : decode cX2_waitingOf 0 = .ok (.aload_n 0, 1) := by decide +kernel
theorem dX2_waitingOf_1 : decode cX2_waitingOf 1 = .ok (.iload_n 1, 1) := by decide +kernel
theorem dX2_waitingOf_2 : decode cX2_waitingOf 2 = .ok (.invokevirtual 28, 3) := by decide +kernel
theorem dX2_waitingOf_5 : decode cX2_waitingOf 5 = .ok (.ifCond .eq 25, 3) := by decide +kernel
theorem dX2_waitingOf_8 : decode cX2_waitingOf 8 = .ok (.aload_n 0, 1) := by decide +kernel
theorem dX2_waitingOf_9 : decode cX2_waitingOf 9 = .ok (.getfield 15, 3) := by decide +kernel
theorem dX2_waitingOf_12 : decode cX2_waitingOf 12 = .ok (.iload_n 1, 1) := by decide +kernel
theorem dX2_waitingOf_13 : decode cX2_waitingOf 13 = .ok (.iaload, 1) := by decide +kernel
theorem dX2_waitingOf_14 : decode cX2_waitingOf 14 = .ok (.iload_n 3, 1) := by decide +kernel
theorem dX2_waitingOf_15 : decode cX2_waitingOf 15 = .ok (.aload_n 0, 1) := by decide +kernel
theorem dX2_waitingOf_16 : decode cX2_waitingOf 16 = .ok (.getfield 21, 3) := by decide +kernel
theorem dX2_waitingOf_19 : decode cX2_waitingOf 19 = .ok (.iload_n 2, 1) := by decide +kernel
theorem dX2_waitingOf_20 : decode cX2_waitingOf 20 = .ok (.iload_n 1, 1) := by decide +kernel
theorem dX2_waitingOf_21 : decode cX2_waitingOf 21 = .ok (.invokestatic 46, 3) := by decide +kernel
theorem dX2_waitingOf_24 : decode cX2_waitingOf 24 = .ok (.iaload, 1) := by decide +kernel
theorem dX2_waitingOf_25 : decode cX2_waitingOf 25 = .ok (.isub, 1) := by decide +kernel
theorem dX2_waitingOf_26 : decode cX2_waitingOf 26 = .ok (.imul, 1) := by decide +kernel
theorem dX2_waitingOf_27 : decode cX2_waitingOf 27 = .ok (.goto 4, 3) := by decide +kernel
theorem dX2_waitingOf_30 : decode cX2_waitingOf 30 = .ok (.iconst 0, 1) := by decide +kernel
theorem dX2_waitingOf_31 : decode cX2_waitingOf 31 = .ok (.ireturn, 1) := by decide +kernel
theorem dX2_phaseOf_0 : decode cX2_phaseOf 0 = .ok (.iload_n 0, 1) := by decide +kernel
theorem dX2_phaseOf_1 : decode cX2_phaseOf 1 = .ok (.iconst 2, 1) := by decide +kernel
theorem dX2_phaseOf_2 : decode cX2_phaseOf 2 = .ok (.iload_n 1, 1) := by decide +kernel
theorem dX2_phaseOf_3 : decode cX2_phaseOf 3 = .ok (.imul, 1) := by decide +kernel
theorem dX2_phaseOf_4 : decode cX2_phaseOf 4 = .ok (.ishr, 1) := by decide +kernel
theorem dX2_phaseOf_5 : decode cX2_phaseOf 5 = .ok (.iconst 3, 1) := by decide +kernel
theorem dX2_phaseOf_6 : decode cX2_phaseOf 6 = .ok (.iand, 1) := by decide +kernel
theorem dX2_phaseOf_7 : decode cX2_phaseOf 7 = .ok (.ireturn, 1) := by decide +kernel
theorem dX2_isStream_0 : decode cX2_isStream 0 = .ok (.iload_n 0, 1) := by decide +kernel
theorem dX2_isStream_1 : decode cX2_isStream 1 = .ok (.ifCond .lt 12, 3) := by decide +kernel
theorem dX2_isStream_4 : decode cX2_isStream 4 = .ok (.iload_n 0, 1) := by decide +kernel
theorem dX2_isStream_5 : decode cX2_isStream 5 = .ok (.iconst 4, 1) := by decide +kernel
theorem dX2_isStream_6 : decode cX2_isStream 6 = .ok (.if_icmp .ge 7, 3) := by decide +kernel
theorem dX2_isStream_9 : decode cX2_isStream 9 = .ok (.iconst 1, 1) := by decide +kernel
theorem dX2_isStream_10 : decode cX2_isStream 10 = .ok (.goto 4, 3) := by decide +kernel
theorem dX2_isStream_13 : decode cX2_isStream 13 = .ok (.iconst 0, 1) := by decide +kernel
theorem dX2_isStream_14 : decode cX2_isStream 14 = .ok (.ireturn, 1) := by decide +kernel
theorem dX3_init_0 : decode cX3_init 0 = .ok (.aload_n 0, 1) := by decide +kernel
theorem dX3_init_1 : decode cX3_init 1 = .ok (.invokespecial 3, 3) := by decide +kernel
theorem dX3_init_4 : decode cX3_init 4 = .ok (.aload_n 0, 1) := by decide +kernel
theorem dX3_init_5 : decode cX3_init 5 = .ok (.bipush 8, 2) := by decide +kernel
theorem dX3_init_7 : decode cX3_init 7 = .ok (.newarray .int, 2) := by decide +kernel
theorem dX3_init_9 : decode cX3_init 9 = .ok (.putfield 11, 3) := by decide +kernel
theorem dX3_init_12 : decode cX3_init 12 = .ok (.aload_n 0, 1) := by decide +kernel
theorem dX3_init_13 : decode cX3_init 13 = .ok (.bipush 72, 2) := by decide +kernel
theorem dX3_init_15 : decode cX3_init 15 = .ok (.newarray .int, 2) := by decide +kernel
theorem dX3_init_17 : decode cX3_init 17 = .ok (.putfield 15, 3) := by decide +kernel
theorem dX3_init_20 : decode cX3_init 20 = .ok (.aload_n 0, 1) := by decide +kernel
theorem dX3_init_21 : decode cX3_init 21 = .ok (.sipush 512, 3) := by decide +kernel
theorem dX3_init_24 : decode cX3_init 24 = .ok (.newarray .int, 2) := by decide +kernel
theorem dX3_init_26 : decode cX3_init 26 = .ok (.putfield 18, 3) := by decide +kernel
theorem dX3_init_29 : decode cX3_init 29 = .ok (.aload_n 0, 1) := by decide +kernel
theorem dX3_init_30 : decode cX3_init 30 = .ok (.sipush 512, 3) := by decide +kernel
theorem dX3_init_33 : decode cX3_init 33 = .ok (.newarray .int, 2) := by decide +kernel
theorem dX3_init_35 : decode cX3_init 35 = .ok (.putfield 21, 3) := by decide +kernel
theorem dX3_init_38 : decode cX3_init 38 = .ok (.return_, 1) := by decide +kernel
theorem dX3_add_0 : decode cX3_add 0 = .ok (.aload_n 0, 1) := by decide +kernel
theorem dX3_add_1 : decode cX3_add 1 = .ok (.getfield 24, 3) := by decide +kernel
theorem dX3_add_4 : decode cX3_add 4 = .ok (.bipush 8, 2) := by decide +kernel
theorem dX3_add_6 : decode cX3_add 6 = .ok (.if_icmp .lt 5, 3) := by decide +kernel
theorem dX3_add_9 : decode cX3_add 9 = .ok (.iconst (-1), 1) := by decide +kernel
theorem dX3_add_10 : decode cX3_add 10 = .ok (.ireturn, 1) := by decide +kernel
theorem dX3_add_11 : decode cX3_add 11 = .ok (.aload_n 0, 1) := by decide +kernel
theorem dX3_add_12 : decode cX3_add 12 = .ok (.getfield 11, 3) := by decide +kernel
theorem dX3_add_15 : decode cX3_add 15 = .ok (.aload_n 0, 1) := by decide +kernel
theorem dX3_add_16 : decode cX3_add 16 = .ok (.getfield 24, 3) := by decide +kernel
theorem dX3_add_19 : decode cX3_add 19 = .ok (.iload_n 1, 1) := by decide +kernel
theorem dX3_add_20 : decode cX3_add 20 = .ok (.iastore, 1) := by decide +kernel
theorem dX3_add_21 : decode cX3_add 21 = .ok (.aload_n 0, 1) := by decide +kernel
theorem dX3_add_22 : decode cX3_add 22 = .ok (.dup, 1) := by decide +kernel
theorem dX3_add_23 : decode cX3_add 23 = .ok (.getfield 28, 3) := by decide +kernel
theorem dX3_add_26 : decode cX3_add 26 = .ok (.iload_n 1, 1) := by decide +kernel
theorem dX3_add_27 : decode cX3_add 27 = .ok (.iadd, 1) := by decide +kernel
theorem dX3_add_28 : decode cX3_add 28 = .ok (.putfield 28, 3) := by decide +kernel
theorem dX3_add_31 : decode cX3_add 31 = .ok (.aload_n 0, 1) := by decide +kernel
theorem dX3_add_32 : decode cX3_add 32 = .ok (.dup, 1) := by decide +kernel
theorem dX3_add_33 : decode cX3_add 33 = .ok (.getfield 24, 3) := by decide +kernel
theorem dX3_add_36 : decode cX3_add 36 = .ok (.iconst 1, 1) := by decide +kernel
theorem dX3_add_37 : decode cX3_add 37 = .ok (.iadd, 1) := by decide +kernel
theorem dX3_add_38 : decode cX3_add 38 = .ok (.putfield 24, 3) := by decide +kernel
theorem dX3_add_41 : decode cX3_add 41 = .ok (.aload_n 0, 1) := by decide +kernel
theorem dX3_add_42 : decode cX3_add 42 = .ok (.iconst 1, 1) := by decide +kernel
theorem dX3_add_43 : decode cX3_add 43 = .ok (.putfield 31, 3) := by decide +kernel
theorem dX3_add_46 : decode cX3_add 46 = .ok (.aload_n 0, 1) := by decide +kernel
theorem dX3_add_47 : decode cX3_add 47 = .ok (.getfield 24, 3) := by decide +kernel
theorem dX3_add_50 : decode cX3_add 50 = .ok (.iconst 1, 1) := by decide +kernel
theorem dX3_add_51 : decode cX3_add 51 = .ok (.isub, 1) := by decide +kernel
theorem dX3_add_52 : decode cX3_add 52 = .ok (.ireturn, 1) := by decide +kernel
theorem dX3_lean_0 : decode cX3_lean 0 = .ok (.iload_n 1, 1) := by decide +kernel
theorem dX3_lean_1 : decode cX3_lean 1 = .ok (.iconst 0, 1) := by decide +kernel
theorem dX3_lean_2 : decode cX3_lean 2 = .ok (.bipush 7, 2) := by decide +kernel
theorem dX3_lean_4 : decode cX3_lean 4 = .ok (.invokestatic 35, 3) := by decide +kernel
theorem dX3_lean_7 : decode cX3_lean 7 = .ok (.ifCond .eq 30, 3) := by decide +kernel
theorem dX3_lean_10 : decode cX3_lean 10 = .ok (.iload_n 2, 1) := by decide +kernel
theorem dX3_lean_11 : decode cX3_lean 11 = .ok (.iconst 0, 1) := by decide +kernel
theorem dX3_lean_12 : decode cX3_lean 12 = .ok (.bipush 8, 2) := by decide +kernel
theorem dX3_lean_14 : decode cX3_lean 14 = .ok (.invokestatic 35, 3) := by decide +kernel
theorem dX3_lean_17 : decode cX3_lean 17 = .ok (.ifCond .eq 20, 3) := by decide +kernel
theorem dX3_lean_20 : decode cX3_lean 20 = .ok (.aload_n 0, 1) := by decide +kernel
theorem dX3_lean_21 : decode cX3_lean 21 = .ok (.getfield 15, 3) := by decide +kernel
theorem dX3_lean_24 : decode cX3_lean 24 = .ok (.iload_n 1, 1) := by decide +kernel
theorem dX3_lean_25 : decode cX3_lean 25 = .ok (.bipush 9, 2) := by decide +kernel
theorem dX3_lean_27 : decode cX3_lean 27 = .ok (.imul, 1) := by decide +kernel
theorem dX3_lean_28 : decode cX3_lean 28 = .ok (.iload_n 2, 1) := by decide +kernel
theorem dX3_lean_29 : decode cX3_lean 29 = .ok (.iadd, 1) := by decide +kernel
theorem dX3_lean_30 : decode cX3_lean 30 = .ok (.iload_n 3, 1) := by decide +kernel
theorem dX3_lean_31 : decode cX3_lean 31 = .ok (.iastore, 1) := by decide +kernel
theorem dX3_lean_32 : decode cX3_lean 32 = .ok (.aload_n 0, 1) := by decide +kernel
theorem dX3_lean_33 : decode cX3_lean 33 = .ok (.iconst 1, 1) := by decide +kernel
theorem dX3_lean_34 : decode cX3_lean 34 = .ok (.putfield 31, 3) := by decide +kernel
theorem dX3_lean_37 : decode cX3_lean 37 = .ok (.return_, 1) := by decide +kernel
theorem dX3_isCarried_0 : decode cX3_isCarried 0 = .ok (.aload_n 0, 1) := by decide +kernel
theorem dX3_isCarried_1 : decode cX3_isCarried 1 = .ok (.aload_n 0, 1) := by decide +kernel
theorem dX3_isCarried_2 : decode cX3_isCarried 2 = .ok (.iload_n 1, 1) := by decide +kernel
theorem dX3_isCarried_3 : decode cX3_isCarried 3 = .ok (.invokevirtual 39, 3) := by decide +kernel
theorem dX3_isCarried_6 : decode cX3_isCarried 6 = .ok (.invokevirtual 43, 3) := by decide +kernel
theorem dX3_isCarried_9 : decode cX3_isCarried 9 = .ok (.ireturn, 1) := by decide +kernel
theorem dX3_mostLeft_0 : decode cX3_mostLeft 0 = .ok (.iconst (-1), 1) := by decide +kernel
theorem dX3_mostLeft_1 : decode cX3_mostLeft 1 = .ok (.istore_n 2, 1) := by decide +kernel
theorem dX3_mostLeft_2 : decode cX3_mostLeft 2 = .ok (.iconst (-1), 1) := by decide +kernel
theorem dX3_mostLeft_3 : decode cX3_mostLeft 3 = .ok (.istore_n 3, 1) := by decide +kernel
theorem dX3_mostLeft_4 : decode cX3_mostLeft 4 = .ok (.iconst 0, 1) := by decide +kernel
theorem dX3_mostLeft_5 : decode cX3_mostLeft 5 = .ok (.istore 4, 2) := by decide +kernel
theorem dX3_mostLeft_7 : decode cX3_mostLeft 7 = .ok (.sipush 511, 3) := by decide +kernel
theorem dX3_mostLeft_10 : decode cX3_mostLeft 10 = .ok (.istore 5, 2) := by decide +kernel
theorem dX3_mostLeft_12 : decode cX3_mostLeft 12 = .ok (.iload 5, 2) := by decide +kernel
theorem dX3_mostLeft_14 : decode cX3_mostLeft 14 = .ok (.ifCond .lt 71, 3) := by decide +kernel
theorem dX3_mostLeft_17 : decode cX3_mostLeft 17 = .ok (.iload 5, 2) := by decide +kernel
theorem dX3_mostLeft_19 : decode cX3_mostLeft 19 = .ok (.invokestatic 47, 3) := by decide +kernel
theorem dX3_mostLeft_22 : decode cX3_mostLeft 22 = .ok (.istore 6, 2) := by decide +kernel
theorem dX3_mostLeft_24 : decode cX3_mostLeft 24 = .ok (.iload 5, 2) := by decide +kernel
theorem dX3_mostLeft_26 : decode cX3_mostLeft 26 = .ok (.iload_n 1, 1) := by decide +kernel
theorem dX3_mostLeft_27 : decode cX3_mostLeft 27 = .ok (.iconst (-1), 1) := by decide +kernel
theorem dX3_mostLeft_28 : decode cX3_mostLeft 28 = .ok (.ixor, 1) := by decide +kernel
theorem dX3_mostLeft_29 : decode cX3_mostLeft 29 = .ok (.iand, 1) := by decide +kernel
theorem dX3_mostLeft_30 : decode cX3_mostLeft 30 = .ok (.ifCond .ne 49, 3) := by decide +kernel
theorem dX3_mostLeft_33 : decode cX3_mostLeft 33 = .ok (.iload 6, 2) := by decide +kernel
theorem dX3_mostLeft_35 : decode cX3_mostLeft 35 = .ok (.iload_n 3, 1) := by decide +kernel
theorem dX3_mostLeft_36 : decode cX3_mostLeft 36 = .ok (.if_icmp .lt 43, 3) := by decide +kernel
theorem dX3_mostLeft_39 : decode cX3_mostLeft 39 = .ok (.aload_n 0, 1) := by decide +kernel
theorem dX3_mostLeft_40 : decode cX3_mostLeft 40 = .ok (.iload 5, 2) := by decide +kernel
theorem dX3_mostLeft_42 : decode cX3_mostLeft 42 = .ok (.invokevirtual 39, 3) := by decide +kernel
theorem dX3_mostLeft_45 : decode cX3_mostLeft 45 = .ok (.istore 7, 2) := by decide +kernel
theorem dX3_mostLeft_47 : decode cX3_mostLeft 47 = .ok (.aload_n 0, 1) := by decide +kernel
theorem dX3_mostLeft_48 : decode cX3_mostLeft 48 = .ok (.iload 7, 2) := by decide +kernel
theorem dX3_mostLeft_50 : decode cX3_mostLeft 50 = .ok (.invokevirtual 43, 3) := by decide +kernel
theorem dX3_mostLeft_53 : decode cX3_mostLeft 53 = .ok (.ifCond .eq 26, 3) := by decide +kernel
theorem dX3_mostLeft_56 : decode cX3_mostLeft 56 = .ok (.iload 6, 2) := by decide +kernel
theorem dX3_mostLeft_58 : decode cX3_mostLeft 58 = .ok (.iload_n 3, 1) := by decide +kernel
theorem dX3_mostLeft_59 : decode cX3_mostLeft 59 = .ok (.if_icmp .gt 10, 3) := by decide +kernel
theorem dX3_mostLeft_62 : decode cX3_mostLeft 62 = .ok (.iload 7, 2) := by decide +kernel
theorem dX3_mostLeft_64 : decode cX3_mostLeft 64 = .ok (.iload 4, 2) := by decide +kernel
theorem dX3_mostLeft_66 : decode cX3_mostLeft 66 = .ok (.if_icmp .le 13, 3) := by decide +kernel
theorem dX3_mostLeft_69 : decode cX3_mostLeft 69 = .ok (.iload 5, 2) := by decide +kernel
theorem dX3_mostLeft_71 : decode cX3_mostLeft 71 = .ok (.istore_n 2, 1) := by decide +kernel
theorem dX3_mostLeft_72 : decode cX3_mostLeft 72 = .ok (.iload 6, 2) := by decide +kernel
theorem dX3_mostLeft_74 : decode cX3_mostLeft 74 = .ok (.istore_n 3, 1) := by decide +kernel
theorem dX3_mostLeft_75 : decode cX3_mostLeft 75 = .ok (.iload 7, 2) := by decide +kernel
theorem dX3_mostLeft_77 : decode cX3_mostLeft 77 = .ok (.istore 4, 2) := by decide +kernel
theorem dX3_mostLeft_79 : decode cX3_mostLeft 79 = .ok (.iinc 5 (-1), 3) := by decide +kernel
theorem dX3_mostLeft_82 : decode cX3_mostLeft 82 = .ok (.goto (-70), 3) := by decide +kernel
theorem dX3_mostLeft_85 : decode cX3_mostLeft 85 = .ok (.iload_n 2, 1) := by decide +kernel
theorem dX3_mostLeft_86 : decode cX3_mostLeft 86 = .ok (.ireturn, 1) := by decide +kernel
theorem dX3_isMore_0 : decode cX3_isMore 0 = .ok (.iload_n 1, 1) := by decide +kernel
theorem dX3_isMore_1 : decode cX3_isMore 1 = .ok (.aload_n 0, 1) := by decide +kernel
theorem dX3_isMore_2 : decode cX3_isMore 2 = .ok (.getfield 28, 3) := by decide +kernel
theorem dX3_isMore_5 : decode cX3_isMore 5 = .ok (.iload_n 1, 1) := by decide +kernel
theorem dX3_isMore_6 : decode cX3_isMore 6 = .ok (.isub, 1) := by decide +kernel
theorem dX3_isMore_7 : decode cX3_isMore 7 = .ok (.if_icmp .le 7, 3) := by decide +kernel
theorem dX3_isMore_10 : decode cX3_isMore 10 = .ok (.iconst 1, 1) := by decide +kernel
theorem dX3_isMore_11 : decode cX3_isMore 11 = .ok (.goto 4, 3) := by decide +kernel
theorem dX3_isMore_14 : decode cX3_isMore 14 = .ok (.iconst 0, 1) := by decide +kernel
theorem dX3_isMore_15 : decode cX3_isMore 15 = .ok (.ireturn, 1) := by decide +kernel
theorem dX3_yesFor_0 : decode cX3_yesFor 0 = .ok (.aload_n 0, 1) := by decide +kernel
theorem dX3_yesFor_1 : decode cX3_yesFor 1 = .ok (.getfield 31, 3) := by decide +kernel
theorem dX3_yesFor_4 : decode cX3_yesFor 4 = .ok (.ifCond .eq 12, 3) := by decide +kernel
theorem dX3_yesFor_7 : decode cX3_yesFor 7 = .ok (.aload_n 0, 1) := by decide +kernel
theorem dX3_yesFor_8 : decode cX3_yesFor 8 = .ok (.invokevirtual 52, 3) := by decide +kernel
theorem dX3_yesFor_11 : decode cX3_yesFor 11 = .ok (.aload_n 0, 1) := by decide +kernel
theorem dX3_yesFor_12 : decode cX3_yesFor 12 = .ok (.iconst 0, 1) := by decide +kernel
theorem dX3_yesFor_13 : decode cX3_yesFor 13 = .ok (.putfield 31, 3) := by decide +kernel
theorem dX3_yesFor_16 : decode cX3_yesFor 16 = .ok (.iload_n 1, 1) := by decide +kernel
theorem dX3_yesFor_17 : decode cX3_yesFor 17 = .ok (.ifCond .lt 19, 3) := by decide +kernel
theorem dX3_yesFor_20 : decode cX3_yesFor 20 = .ok (.iload_n 1, 1) := by decide +kernel
theorem dX3_yesFor_21 : decode cX3_yesFor 21 = .ok (.sipush 512, 3) := by decide +kernel
theorem dX3_yesFor_24 : decode cX3_yesFor 24 = .ok (.if_icmp .ge 12, 3) := by decide +kernel
theorem dX3_yesFor_27 : decode cX3_yesFor 27 = .ok (.aload_n 0, 1) := by decide +kernel
theorem dX3_yesFor_28 : decode cX3_yesFor 28 = .ok (.getfield 18, 3) := by decide +kernel
theorem dX3_yesFor_31 : decode cX3_yesFor 31 = .ok (.iload_n 1, 1) := by decide +kernel
theorem dX3_yesFor_32 : decode cX3_yesFor 32 = .ok (.iaload, 1) := by decide +kernel
theorem dX3_yesFor_33 : decode cX3_yesFor 33 = .ok (.goto 4, 3) := by decide +kernel
theorem dX3_yesFor_36 : decode cX3_yesFor 36 = .ok (.iconst 0, 1) := by decide +kernel
theorem dX3_yesFor_37 : decode cX3_yesFor 37 = .ok (.ireturn, 1) := by decide +kernel
theorem dX3_poll_0 : decode cX3_poll 0 = .ok (.aload_n 0, 1) := by decide +kernel
theorem dX3_poll_1 : decode cX3_poll 1 = .ok (.getfield 18, 3) := by decide +kernel
theorem dX3_poll_4 : decode cX3_poll 4 = .ok (.iconst 0, 1) := by decide +kernel
theorem dX3_poll_5 : decode cX3_poll 5 = .ok (.invokestatic 55, 3) := by decide +kernel
theorem dX3_poll_8 : decode cX3_poll 8 = .ok (.iconst 0, 1) := by decide +kernel
theorem dX3_poll_9 : decode cX3_poll 9 = .ok (.istore_n 1, 1) := by decide +kernel
theorem dX3_poll_10 : decode cX3_poll 10 = .ok (.iload_n 1, 1) := by decide +kernel
theorem dX3_poll_11 : decode cX3_poll 11 = .ok (.aload_n 0, 1) := by decide +kernel
theorem dX3_poll_12 : decode cX3_poll 12 = .ok (.getfield 24, 3) := by decide +kernel
theorem dX3_poll_15 : decode cX3_poll 15 = .ok (.if_icmp .ge 59, 3) := by decide +kernel
theorem dX3_poll_18 : decode cX3_poll 18 = .ok (.iload_n 1, 1) := by decide +kernel
theorem dX3_poll_19 : decode cX3_poll 19 = .ok (.bipush 8, 2) := by decide +kernel
theorem dX3_poll_21 : decode cX3_poll 21 = .ok (.if_icmp .ge 53, 3) := by decide +kernel
theorem dX3_poll_24 : decode cX3_poll 24 = .ok (.aload_n 0, 1) := by decide +kernel
theorem dX3_poll_25 : decode cX3_poll 25 = .ok (.iload_n 1, 1) := by decide +kernel
theorem dX3_poll_26 : decode cX3_poll 26 = .ok (.invokevirtual 61, 3) := by decide +kernel
theorem dX3_poll_29 : decode cX3_poll 29 = .ok (.iconst 0, 1) := by decide +kernel
theorem dX3_poll_30 : decode cX3_poll 30 = .ok (.istore_n 2, 1) := by decide +kernel
theorem dX3_poll_31 : decode cX3_poll 31 = .ok (.iload_n 2, 1) := by decide +kernel
theorem dX3_poll_32 : decode cX3_poll 32 = .ok (.sipush 512, 3) := by decide +kernel
theorem dX3_poll_35 : decode cX3_poll 35 = .ok (.if_icmp .ge 33, 3) := by decide +kernel
theorem dX3_poll_38 : decode cX3_poll 38 = .ok (.aload_n 0, 1) := by decide +kernel
theorem dX3_poll_39 : decode cX3_poll 39 = .ok (.getfield 21, 3) := by decide +kernel
theorem dX3_poll_42 : decode cX3_poll 42 = .ok (.iload_n 2, 1) := by decide +kernel
theorem dX3_poll_43 : decode cX3_poll 43 = .ok (.iaload, 1) := by decide +kernel
theorem dX3_poll_44 : decode cX3_poll 44 = .ok (.ifCond .lt 18, 3) := by decide +kernel
theorem dX3_poll_47 : decode cX3_poll 47 = .ok (.aload_n 0, 1) := by decide +kernel
theorem dX3_poll_48 : decode cX3_poll 48 = .ok (.getfield 18, 3) := by decide +kernel
theorem dX3_poll_51 : decode cX3_poll 51 = .ok (.iload_n 2, 1) := by decide +kernel
theorem dX3_poll_52 : decode cX3_poll 52 = .ok (.dup2, 1) := by decide +kernel
theorem dX3_poll_53 : decode cX3_poll 53 = .ok (.iaload, 1) := by decide +kernel
theorem dX3_poll_54 : decode cX3_poll 54 = .ok (.aload_n 0, 1) := by decide +kernel
theorem dX3_poll_55 : decode cX3_poll 55 = .ok (.getfield 11, 3) := by decide +kernel
theorem dX3_poll_58 : decode cX3_poll 58 = .ok (.iload_n 1, 1) := by decide +kernel
theorem dX3_poll_59 : decode cX3_poll 59 = .ok (.iaload, 1) := by decide +kernel
theorem dX3_poll_60 : decode cX3_poll 60 = .ok (.iadd, 1) := by decide +kernel
theorem dX3_poll_61 : decode cX3_poll 61 = .ok (.iastore, 1) := by decide +kernel
theorem dX3_poll_62 : decode cX3_poll 62 = .ok (.iinc 2 1, 3) := by decide +kernel
theorem dX3_poll_65 : decode cX3_poll 65 = .ok (.goto (-34), 3) := by decide +kernel
theorem dX3_poll_68 : decode cX3_poll 68 = .ok (.iinc 1 1, 3) := by decide +kernel
theorem dX3_poll_71 : decode cX3_poll 71 = .ok (.goto (-61), 3) := by decide +kernel
theorem dX3_poll_74 : decode cX3_poll 74 = .ok (.return_, 1) := by decide +kernel
theorem dX3_addUp_0 : decode cX3_addUp 0 = .ok (.aload_n 0, 1) := by decide +kernel
theorem dX3_addUp_1 : decode cX3_addUp 1 = .ok (.getfield 21, 3) := by decide +kernel
theorem dX3_addUp_4 : decode cX3_addUp 4 = .ok (.iconst 0, 1) := by decide +kernel
theorem dX3_addUp_5 : decode cX3_addUp 5 = .ok (.iconst 0, 1) := by decide +kernel
theorem dX3_addUp_6 : decode cX3_addUp 6 = .ok (.iastore, 1) := by decide +kernel
theorem dX3_addUp_7 : decode cX3_addUp 7 = .ok (.iconst 0, 1) := by decide +kernel
theorem dX3_addUp_8 : decode cX3_addUp 8 = .ok (.istore_n 2, 1) := by decide +kernel
theorem dX3_addUp_9 : decode cX3_addUp 9 = .ok (.iload_n 2, 1) := by decide +kernel
theorem dX3_addUp_10 : decode cX3_addUp 10 = .ok (.bipush 9, 2) := by decide +kernel
theorem dX3_addUp_12 : decode cX3_addUp 12 = .ok (.if_icmp .ge 67, 3) := by decide +kernel
theorem dX3_addUp_15 : decode cX3_addUp 15 = .ok (.iload_n 1, 1) := by decide +kernel
theorem dX3_addUp_16 : decode cX3_addUp 16 = .ok (.bipush 8, 2) := by decide +kernel
theorem dX3_addUp_18 : decode cX3_addUp 18 = .ok (.if_icmp .ge 61, 3) := by decide +kernel
theorem dX3_addUp_21 : decode cX3_addUp 21 = .ok (.aload_n 0, 1) := by decide +kernel
theorem dX3_addUp_22 : decode cX3_addUp 22 = .ok (.getfield 15, 3) := by decide +kernel
theorem dX3_addUp_25 : decode cX3_addUp 25 = .ok (.iload_n 1, 1) := by decide +kernel
theorem dX3_addUp_26 : decode cX3_addUp 26 = .ok (.bipush 9, 2) := by decide +kernel
theorem dX3_addUp_28 : decode cX3_addUp 28 = .ok (.imul, 1) := by decide +kernel
theorem dX3_addUp_29 : decode cX3_addUp 29 = .ok (.iload_n 2, 1) := by decide +kernel
theorem dX3_addUp_30 : decode cX3_addUp 30 = .ok (.iadd, 1) := by decide +kernel
theorem dX3_addUp_31 : decode cX3_addUp 31 = .ok (.iaload, 1) := by decide +kernel
theorem dX3_addUp_32 : decode cX3_addUp 32 = .ok (.istore_n 3, 1) := by decide +kernel
theorem dX3_addUp_33 : decode cX3_addUp 33 = .ok (.iconst 1, 1) := by decide +kernel
theorem dX3_addUp_34 : decode cX3_addUp 34 = .ok (.iload_n 2, 1) := by decide +kernel
theorem dX3_addUp_35 : decode cX3_addUp 35 = .ok (.ishl, 1) := by decide +kernel
theorem dX3_addUp_36 : decode cX3_addUp 36 = .ok (.istore 4, 2) := by decide +kernel
theorem dX3_addUp_38 : decode cX3_addUp 38 = .ok (.iconst 0, 1) := by decide +kernel
theorem dX3_addUp_39 : decode cX3_addUp 39 = .ok (.istore 5, 2) := by decide +kernel
theorem dX3_addUp_41 : decode cX3_addUp 41 = .ok (.iload 5, 2) := by decide +kernel
theorem dX3_addUp_43 : decode cX3_addUp 43 = .ok (.iload 4, 2) := by decide +kernel
theorem dX3_addUp_45 : decode cX3_addUp 45 = .ok (.if_icmp .ge 28, 3) := by decide +kernel
theorem dX3_addUp_48 : decode cX3_addUp 48 = .ok (.aload_n 0, 1) := by decide +kernel
theorem dX3_addUp_49 : decode cX3_addUp 49 = .ok (.getfield 21, 3) := by decide +kernel
theorem dX3_addUp_52 : decode cX3_addUp 52 = .ok (.iload 4, 2) := by decide +kernel
theorem dX3_addUp_54 : decode cX3_addUp 54 = .ok (.iload 5, 2) := by decide +kernel
theorem dX3_addUp_56 : decode cX3_addUp 56 = .ok (.iadd, 1) := by decide +kernel
theorem dX3_addUp_57 : decode cX3_addUp 57 = .ok (.aload_n 0, 1) := by decide +kernel
theorem dX3_addUp_58 : decode cX3_addUp 58 = .ok (.getfield 21, 3) := by decide +kernel
theorem dX3_addUp_61 : decode cX3_addUp 61 = .ok (.iload 5, 2) := by decide +kernel
theorem dX3_addUp_63 : decode cX3_addUp 63 = .ok (.iaload, 1) := by decide +kernel
theorem dX3_addUp_64 : decode cX3_addUp 64 = .ok (.iload_n 3, 1) := by decide +kernel
theorem dX3_addUp_65 : decode cX3_addUp 65 = .ok (.iadd, 1) := by decide +kernel
theorem dX3_addUp_66 : decode cX3_addUp 66 = .ok (.iastore, 1) := by decide +kernel
theorem dX3_addUp_67 : decode cX3_addUp 67 = .ok (.iinc 5 1, 3) := by decide +kernel
theorem dX3_addUp_70 : decode cX3_addUp 70 = .ok (.goto (-29), 3) := by decide +kernel
theorem dX3_addUp_73 : decode cX3_addUp 73 = .ok (.iinc 2 1, 3) := by decide +kernel
theorem dX3_addUp_76 : decode cX3_addUp 76 = .ok (.goto (-67), 3) := by decide +kernel
theorem dX3_addUp_79 : decode cX3_addUp 79 = .ok (.return_, 1) := by decide +kernel
theorem dX4_init_0 : decode cX4_init 0 = .ok (.aload_n 0, 1) := by decide +kernel
theorem dX4_init_1 : decode cX4_init 1 = .ok (.invokespecial 1, 3) := by decide +kernel
theorem dX4_init_4 : decode cX4_init 4 = .ok (.aload_n 0, 1) := by decide +kernel
theorem dX4_init_5 : decode cX4_init 5 = .ok (.iload_n 1, 1) := by decide +kernel
theorem dX4_init_6 : decode cX4_init 6 = .ok (.putfield 7, 3) := by decide +kernel
theorem dX4_init_9 : decode cX4_init 9 = .ok (.aload_n 0, 1) := by decide +kernel
theorem dX4_init_10 : decode cX4_init 10 = .ok (.iload_n 2, 1) := by decide +kernel
theorem dX4_init_11 : decode cX4_init 11 = .ok (.putfield 13, 3) := by decide +kernel
theorem dX4_init_14 : decode cX4_init 14 = .ok (.aload_n 0, 1) := by decide +kernel
theorem dX4_init_15 : decode cX4_init 15 = .ok (.aload_n 3, 1) := by decide +kernel
theorem dX4_init_16 : decode cX4_init 16 = .ok (.putfield 16, 3) := by decide +kernel
theorem dX4_init_19 : decode cX4_init 19 = .ok (.return_, 1) := by decide +kernel
theorem dX5_init_0 : decode cX5_init 0 = .ok (.aload_n 0, 1) := by decide +kernel
theorem dX5_init_1 : decode cX5_init 1 = .ok (.invokespecial 3, 3) := by decide +kernel
theorem dX5_init_4 : decode cX5_init 4 = .ok (.aload_n 0, 1) := by decide +kernel
theorem dX5_init_5 : decode cX5_init 5 = .ok (.sipush 248, 3) := by decide +kernel
theorem dX5_init_8 : decode cX5_init 8 = .ok (.newarray .int, 2) := by decide +kernel
theorem dX5_init_10 : decode cX5_init 10 = .ok (.putfield 11, 3) := by decide +kernel
theorem dX5_init_13 : decode cX5_init 13 = .ok (.aload_n 0, 1) := by decide +kernel
theorem dX5_init_14 : decode cX5_init 14 = .ok (.sipush 248, 3) := by decide +kernel
theorem dX5_init_17 : decode cX5_init 17 = .ok (.newarray .int, 2) := by decide +kernel
theorem dX5_init_19 : decode cX5_init 19 = .ok (.putfield 15, 3) := by decide +kernel
theorem dX5_init_22 : decode cX5_init 22 = .ok (.aload_n 0, 1) := by decide +kernel
theorem dX5_init_23 : decode cX5_init 23 = .ok (.getfield 11, 3) := by decide +kernel
theorem dX5_init_26 : decode cX5_init 26 = .ok (.iconst (-1), 1) := by decide +kernel
theorem dX5_init_27 : decode cX5_init 27 = .ok (.invokestatic 18, 3) := by decide +kernel
theorem dX5_init_30 : decode cX5_init 30 = .ok (.return_, 1) := by decide +kernel
theorem dX5_write_0 : decode cX5_write 0 = .ok (.iload_n 1, 1) := by decide +kernel
theorem dX5_write_1 : decode cX5_write 1 = .ok (.bipush 31, 2) := by decide +kernel
theorem dX5_write_3 : decode cX5_write 3 = .ok (.imul, 1) := by decide +kernel
theorem dX5_write_4 : decode cX5_write 4 = .ok (.iload_n 2, 1) := by decide +kernel
theorem dX5_write_5 : decode cX5_write 5 = .ok (.iadd, 1) := by decide +kernel
theorem dX5_write_6 : decode cX5_write 6 = .ok (.istore 5, 2) := by decide +kernel
theorem dX5_write_8 : decode cX5_write 8 = .ok (.iload 5, 2) := by decide +kernel
theorem dX5_write_10 : decode cX5_write 10 = .ok (.ifCond .lt 40, 3) := by decide +kernel
theorem dX5_write_13 : decode cX5_write 13 = .ok (.iload 5, 2) := by decide +kernel
theorem dX5_write_15 : decode cX5_write 15 = .ok (.aload_n 0, 1) := by decide +kernel
theorem dX5_write_16 : decode cX5_write 16 = .ok (.getfield 11, 3) := by decide +kernel
theorem dX5_write_19 : decode cX5_write 19 = .ok (.arraylength, 1) := by decide +kernel
theorem dX5_write_20 : decode cX5_write 20 = .ok (.if_icmp .ge 30, 3) := by decide +kernel
theorem dX5_write_23 : decode cX5_write 23 = .ok (.iload 5, 2) := by decide +kernel
theorem dX5_write_25 : decode cX5_write 25 = .ok (.aload_n 0, 1) := by decide +kernel
theorem dX5_write_26 : decode cX5_write 26 = .ok (.getfield 15, 3) := by decide +kernel
theorem dX5_write_29 : decode cX5_write 29 = .ok (.arraylength, 1) := by decide +kernel
theorem dX5_write_30 : decode cX5_write 30 = .ok (.if_icmp .ge 20, 3) := by decide +kernel
theorem dX5_write_33 : decode cX5_write 33 = .ok (.aload_n 0, 1) := by decide +kernel
theorem dX5_write_34 : decode cX5_write 34 = .ok (.getfield 11, 3) := by decide +kernel
theorem dX5_write_37 : decode cX5_write 37 = .ok (.iload 5, 2) := by decide +kernel
theorem dX5_write_39 : decode cX5_write 39 = .ok (.iload_n 3, 1) := by decide +kernel
theorem dX5_write_40 : decode cX5_write 40 = .ok (.iastore, 1) := by decide +kernel
theorem dX5_write_41 : decode cX5_write 41 = .ok (.aload_n 0, 1) := by decide +kernel
theorem dX5_write_42 : decode cX5_write 42 = .ok (.getfield 15, 3) := by decide +kernel
theorem dX5_write_45 : decode cX5_write 45 = .ok (.iload 5, 2) := by decide +kernel
theorem dX5_write_47 : decode cX5_write 47 = .ok (.iload 4, 2) := by decide +kernel
theorem dX5_write_49 : decode cX5_write 49 = .ok (.iastore, 1) := by decide +kernel
theorem dX5_write_50 : decode cX5_write 50 = .ok (.return_, 1) := by decide +kernel
theorem dX5_compare_0 : decode cX5_compare 0 = .ok (.iload_n 1, 1) := by decide +kernel
theorem dX5_compare_1 : decode cX5_compare 1 = .ok (.bipush 31, 2) := by decide +kernel
theorem dX5_compare_3 : decode cX5_compare 3 = .ok (.imul, 1) := by decide +kernel
theorem dX5_compare_4 : decode cX5_compare 4 = .ok (.iload_n 2, 1) := by decide +kernel
theorem dX5_compare_5 : decode cX5_compare 5 = .ok (.iadd, 1) := by decide +kernel
theorem dX5_compare_6 : decode cX5_compare 6 = .ok (.istore 4, 2) := by decide +kernel
theorem dX5_compare_8 : decode cX5_compare 8 = .ok (.iload_n 1, 1) := by decide +kernel
theorem dX5_compare_9 : decode cX5_compare 9 = .ok (.bipush 31, 2) := by decide +kernel
theorem dX5_compare_11 : decode cX5_compare 11 = .ok (.imul, 1) := by decide +kernel
theorem dX5_compare_12 : decode cX5_compare 12 = .ok (.iload_n 3, 1) := by decide +kernel
theorem dX5_compare_13 : decode cX5_compare 13 = .ok (.iadd, 1) := by decide +kernel
theorem dX5_compare_14 : decode cX5_compare 14 = .ok (.istore 5, 2) := by decide +kernel
theorem dX5_compare_16 : decode cX5_compare 16 = .ok (.iload 4, 2) := by decide +kernel
theorem dX5_compare_18 : decode cX5_compare 18 = .ok (.iconst 0, 1) := by decide +kernel
theorem dX5_compare_19 : decode cX5_compare 19 = .ok (.aload_n 0, 1) := by decide +kernel
theorem dX5_compare_20 : decode cX5_compare 20 = .ok (.getfield 11, 3) := by decide +kernel
theorem dX5_compare_23 : decode cX5_compare 23 = .ok (.arraylength, 1) := by decide +kernel
theorem dX5_compare_24 : decode cX5_compare 24 = .ok (.iconst 1, 1) := by decide +kernel
theorem dX5_compare_25 : decode cX5_compare 25 = .ok (.isub, 1) := by decide +kernel
theorem dX5_compare_26 : decode cX5_compare 26 = .ok (.invokestatic 24, 3) := by decide +kernel
theorem dX5_compare_29 : decode cX5_compare 29 = .ok (.ifCond .eq 19, 3) := by decide +kernel
theorem dX5_compare_32 : decode cX5_compare 32 = .ok (.iload 5, 2) := by decide +kernel
theorem dX5_compare_34 : decode cX5_compare 34 = .ok (.iconst 0, 1) := by decide +kernel
theorem dX5_compare_35 : decode cX5_compare 35 = .ok (.aload_n 0, 1) := by decide +kernel
theorem dX5_compare_36 : decode cX5_compare 36 = .ok (.getfield 11, 3) := by decide +kernel
theorem dX5_compare_39 : decode cX5_compare 39 = .ok (.arraylength, 1) := by decide +kernel
theorem dX5_compare_40 : decode cX5_compare 40 = .ok (.iconst 1, 1) := by decide +kernel
theorem dX5_compare_41 : decode cX5_compare 41 = .ok (.isub, 1) := by decide +kernel
theorem dX5_compare_42 : decode cX5_compare 42 = .ok (.invokestatic 24, 3) := by decide +kernel
theorem dX5_compare_45 : decode cX5_compare 45 = .ok (.ifCond .ne 5, 3) := by decide +kernel
theorem dX5_compare_48 : decode cX5_compare 48 = .ok (.iconst (-1), 1) := by decide +kernel
theorem dX5_compare_49 : decode cX5_compare 49 = .ok (.ireturn, 1) := by decide +kernel
theorem dX5_compare_50 : decode cX5_compare 50 = .ok (.aload_n 0, 1) := by decide +kernel
theorem dX5_compare_51 : decode cX5_compare 51 = .ok (.getfield 11, 3) := by decide +kernel
theorem dX5_compare_54 : decode cX5_compare 54 = .ok (.iload 4, 2) := by decide +kernel
theorem dX5_compare_56 : decode cX5_compare 56 = .ok (.iaload, 1) := by decide +kernel
theorem dX5_compare_57 : decode cX5_compare 57 = .ok (.iconst (-1), 1) := by decide +kernel
theorem dX5_compare_58 : decode cX5_compare 58 = .ok (.if_icmp .eq 14, 3) := by decide +kernel
theorem dX5_compare_61 : decode cX5_compare 61 = .ok (.aload_n 0, 1) := by decide +kernel
theorem dX5_compare_62 : decode cX5_compare 62 = .ok (.getfield 11, 3) := by decide +kernel
theorem dX5_compare_65 : decode cX5_compare 65 = .ok (.iload 5, 2) := by decide +kernel
theorem dX5_compare_67 : decode cX5_compare 67 = .ok (.iaload, 1) := by decide +kernel
theorem dX5_compare_68 : decode cX5_compare 68 = .ok (.iconst (-1), 1) := by decide +kernel
theorem dX5_compare_69 : decode cX5_compare 69 = .ok (.if_icmp .ne 5, 3) := by decide +kernel
theorem dX5_compare_72 : decode cX5_compare 72 = .ok (.iconst (-1), 1) := by decide +kernel
theorem dX5_compare_73 : decode cX5_compare 73 = .ok (.ireturn, 1) := by decide +kernel
theorem dX5_compare_74 : decode cX5_compare 74 = .ok (.aload_n 0, 1) := by decide +kernel
theorem dX5_compare_75 : decode cX5_compare 75 = .ok (.getfield 11, 3) := by decide +kernel
theorem dX5_compare_78 : decode cX5_compare 78 = .ok (.iload 5, 2) := by decide +kernel
theorem dX5_compare_80 : decode cX5_compare 80 = .ok (.iaload, 1) := by decide +kernel
theorem dX5_compare_81 : decode cX5_compare 81 = .ok (.aload_n 0, 1) := by decide +kernel
theorem dX5_compare_82 : decode cX5_compare 82 = .ok (.getfield 11, 3) := by decide +kernel
theorem dX5_compare_85 : decode cX5_compare 85 = .ok (.iload 4, 2) := by decide +kernel
theorem dX5_compare_87 : decode cX5_compare 87 = .ok (.iaload, 1) := by decide +kernel
theorem dX5_compare_88 : decode cX5_compare 88 = .ok (.if_icmp .lt 5, 3) := by decide +kernel
theorem dX5_compare_91 : decode cX5_compare 91 = .ok (.iconst 0, 1) := by decide +kernel
theorem dX5_compare_92 : decode cX5_compare 92 = .ok (.ireturn, 1) := by decide +kernel
theorem dX5_compare_93 : decode cX5_compare 93 = .ok (.aload_n 0, 1) := by decide +kernel
theorem dX5_compare_94 : decode cX5_compare 94 = .ok (.getfield 11, 3) := by decide +kernel
theorem dX5_compare_97 : decode cX5_compare 97 = .ok (.iload 5, 2) := by decide +kernel
theorem dX5_compare_99 : decode cX5_compare 99 = .ok (.iaload, 1) := by decide +kernel
theorem dX5_compare_100 : decode cX5_compare 100 = .ok (.i2l, 1) := by decide +kernel
theorem dX5_compare_101 : decode cX5_compare 101 = .ok (.aload_n 0, 1) := by decide +kernel
theorem dX5_compare_102 : decode cX5_compare 102 = .ok (.getfield 15, 3) := by decide +kernel
theorem dX5_compare_105 : decode cX5_compare 105 = .ok (.iload 4, 2) := by decide +kernel
theorem dX5_compare_107 : decode cX5_compare 107 = .ok (.iaload, 1) := by decide +kernel
theorem dX5_compare_108 : decode cX5_compare 108 = .ok (.i2l, 1) := by decide +kernel
theorem dX5_compare_109 : decode cX5_compare 109 = .ok (.lmul, 1) := by decide +kernel
theorem dX5_compare_110 : decode cX5_compare 110 = .ok (.aload_n 0, 1) := by decide +kernel
theorem dX5_compare_111 : decode cX5_compare 111 = .ok (.getfield 11, 3) := by decide +kernel
theorem dX5_compare_114 : decode cX5_compare 114 = .ok (.iload 4, 2) := by decide +kernel
theorem dX5_compare_116 : decode cX5_compare 116 = .ok (.iaload, 1) := by decide +kernel
theorem dX5_compare_117 : decode cX5_compare 117 = .ok (.i2l, 1) := by decide +kernel
theorem dX5_compare_118 : decode cX5_compare 118 = .ok (.aload_n 0, 1) := by decide +kernel
theorem dX5_compare_119 : decode cX5_compare 119 = .ok (.getfield 15, 3) := by decide +kernel
theorem dX5_compare_122 : decode cX5_compare 122 = .ok (.iload 5, 2) := by decide +kernel
theorem dX5_compare_124 : decode cX5_compare 124 = .ok (.iaload, 1) := by decide +kernel
theorem dX5_compare_125 : decode cX5_compare 125 = .ok (.i2l, 1) := by decide +kernel
theorem dX5_compare_126 : decode cX5_compare 126 = .ok (.lmul, 1) := by decide +kernel
theorem dX5_compare_127 : decode cX5_compare 127 = .ok (.lcmp, 1) := by decide +kernel
theorem dX5_compare_128 : decode cX5_compare 128 = .ok (.ifCond .lt 7, 3) := by decide +kernel
theorem dX5_compare_131 : decode cX5_compare 131 = .ok (.iconst 1, 1) := by decide +kernel
theorem dX5_compare_132 : decode cX5_compare 132 = .ok (.goto 4, 3) := by decide +kernel
theorem dX5_compare_135 : decode cX5_compare 135 = .ok (.iconst 2, 1) := by decide +kernel
theorem dX5_compare_136 : decode cX5_compare 136 = .ok (.ireturn, 1) := by decide +kernel
theorem dX6_init_0 : decode cX6_init 0 = .ok (.aload_n 0, 1) := by decide +kernel
theorem dX6_init_1 : decode cX6_init 1 = .ok (.invokespecial 3, 3) := by decide +kernel
theorem dX6_init_4 : decode cX6_init 4 = .ok (.aload_n 0, 1) := by decide +kernel
theorem dX6_init_5 : decode cX6_init 5 = .ok (.bipush 50, 2) := by decide +kernel
theorem dX6_init_7 : decode cX6_init 7 = .ok (.putfield 9, 3) := by decide +kernel
theorem dX6_init_10 : decode cX6_init 10 = .ok (.aload_n 0, 1) := by decide +kernel
theorem dX6_init_11 : decode cX6_init 11 = .ok (.iload_n 1, 1) := by decide +kernel
theorem dX6_init_12 : decode cX6_init 12 = .ok (.putfield 15, 3) := by decide +kernel
theorem dX6_init_15 : decode cX6_init 15 = .ok (.aload_n 0, 1) := by decide +kernel
theorem dX6_init_16 : decode cX6_init 16 = .ok (.iload_n 2, 1) := by decide +kernel
theorem dX6_init_17 : decode cX6_init 17 = .ok (.putfield 18, 3) := by decide +kernel
theorem dX6_init_20 : decode cX6_init 20 = .ok (.aload_n 0, 1) := by decide +kernel
theorem dX6_init_21 : decode cX6_init 21 = .ok (.iload_n 3, 1) := by decide +kernel
theorem dX6_init_22 : decode cX6_init 22 = .ok (.putfield 21, 3) := by decide +kernel
theorem dX6_init_25 : decode cX6_init 25 = .ok (.aload_n 0, 1) := by decide +kernel
theorem dX6_init_26 : decode cX6_init 26 = .ok (.iload 4, 2) := by decide +kernel
theorem dX6_init_28 : decode cX6_init 28 = .ok (.putfield 24, 3) := by decide +kernel
theorem dX6_init_31 : decode cX6_init 31 = .ok (.aload_n 0, 1) := by decide +kernel
theorem dX6_init_32 : decode cX6_init 32 = .ok (.iload 5, 2) := by decide +kernel
theorem dX6_init_34 : decode cX6_init 34 = .ok (.putfield 27, 3) := by decide +kernel
theorem dX6_init_37 : decode cX6_init 37 = .ok (.aload_n 0, 1) := by decide +kernel
theorem dX6_init_38 : decode cX6_init 38 = .ok (.iload 6, 2) := by decide +kernel
theorem dX6_init_40 : decode cX6_init 40 = .ok (.iconst 1, 1) := by decide +kernel
theorem dX6_init_41 : decode cX6_init 41 = .ok (.iand, 1) := by decide +kernel
theorem dX6_init_42 : decode cX6_init 42 = .ok (.ifCond .eq 7, 3) := by decide +kernel
theorem dX6_init_45 : decode cX6_init 45 = .ok (.iconst 1, 1) := by decide +kernel
theorem dX6_init_46 : decode cX6_init 46 = .ok (.goto 4, 3) := by decide +kernel
theorem dX6_init_49 : decode cX6_init 49 = .ok (.iconst 0, 1) := by decide +kernel
theorem dX6_init_50 : decode cX6_init 50 = .ok (.putfield 30, 3) := by decide +kernel
theorem dX6_init_53 : decode cX6_init 53 = .ok (.aload_n 0, 1) := by decide +kernel
theorem dX6_init_54 : decode cX6_init 54 = .ok (.iload 6, 2) := by decide +kernel
theorem dX6_init_56 : decode cX6_init 56 = .ok (.iconst 1, 1) := by decide +kernel
theorem dX6_init_57 : decode cX6_init 57 = .ok (.ishr, 1) := by decide +kernel
theorem dX6_init_58 : decode cX6_init 58 = .ok (.putfield 34, 3) := by decide +kernel
theorem dX6_init_61 : decode cX6_init 61 = .ok (.return_, 1) := by decide +kernel
theorem dX6_end_0 : decode cX6_end 0 = .ok (.aload_n 0, 1) := by decide +kernel
theorem dX6_end_1 : decode cX6_end 1 = .ok (.getfield 37, 3) := by decide +kernel
theorem dX6_end_4 : decode cX6_end 4 = .ok (.iconst (-1), 1) := by decide +kernel
theorem dX6_end_5 : decode cX6_end 5 = .ok (.if_icmp .ne 8, 3) := by decide +kernel
theorem dX6_end_8 : decode cX6_end 8 = .ok (.bipush 60, 2) := by decide +kernel
theorem dX6_end_10 : decode cX6_end 10 = .ok (.goto 7, 3) := by decide +kernel
theorem dX6_end_13 : decode cX6_end 13 = .ok (.aload_n 0, 1) := by decide +kernel
theorem dX6_end_14 : decode cX6_end 14 = .ok (.getfield 37, 3) := by decide +kernel
theorem dX6_end_17 : decode cX6_end 17 = .ok (.ireturn, 1) := by decide +kernel
theorem dX6_seen_0 : decode cX6_seen 0 = .ok (.aload_n 0, 1) := by decide +kernel
theorem dX6_seen_1 : decode cX6_seen 1 = .ok (.getfield 42, 3) := by decide +kernel
theorem dX6_seen_4 : decode cX6_seen 4 = .ok (.iconst (-1), 1) := by decide +kernel
theorem dX6_seen_5 : decode cX6_seen 5 = .ok (.if_icmp .ne 7, 3) := by decide +kernel
theorem dX6_seen_8 : decode cX6_seen 8 = .ok (.iconst 0, 1) := by decide +kernel
theorem dX6_seen_9 : decode cX6_seen 9 = .ok (.goto 12, 3) := by decide +kernel
theorem dX6_seen_12 : decode cX6_seen 12 = .ok (.aload_n 0, 1) := by decide +kernel
theorem dX6_seen_13 : decode cX6_seen 13 = .ok (.invokevirtual 45, 3) := by decide +kernel
theorem dX6_seen_16 : decode cX6_seen 16 = .ok (.aload_n 0, 1) := by decide +kernel
theorem dX6_seen_17 : decode cX6_seen 17 = .ok (.getfield 42, 3) := by decide +kernel
theorem dX6_seen_20 : decode cX6_seen 20 = .ok (.isub, 1) := by decide +kernel
theorem dX6_seen_21 : decode cX6_seen 21 = .ok (.ireturn, 1) := by decide +kernel
theorem dX6_signs_0 : decode cX6_signs 0 = .ok (.iconst 0, 1) := by decide +kernel
theorem dX6_signs_1 : decode cX6_signs 1 = .ok (.aload_n 0, 1) := by decide +kernel
theorem dX6_signs_2 : decode cX6_signs 2 = .ok (.getfield 18, 3) := by decide +kernel
theorem dX6_signs_5 : decode cX6_signs 5 = .ok (.bipush 100, 2) := by decide +kernel
theorem dX6_signs_7 : decode cX6_signs 7 = .ok (.if_icmp .le 7, 3) := by decide +kernel
theorem dX6_signs_10 : decode cX6_signs 10 = .ok (.iconst 1, 1) := by decide +kernel
theorem dX6_signs_11 : decode cX6_signs 11 = .ok (.goto 4, 3) := by decide +kernel
theorem dX6_signs_14 : decode cX6_signs 14 = .ok (.iconst 0, 1) := by decide +kernel
theorem dX6_signs_15 : decode cX6_signs 15 = .ok (.invokestatic 49, 3) := by decide +kernel
theorem dX6_signs_18 : decode cX6_signs 18 = .ok (.iconst 1, 1) := by decide +kernel
theorem dX6_signs_19 : decode cX6_signs 19 = .ok (.aload_n 0, 1) := by decide +kernel
theorem dX6_signs_20 : decode cX6_signs 20 = .ok (.getfield 34, 3) := by decide +kernel
theorem dX6_signs_23 : decode cX6_signs 23 = .ok (.iconst 1, 1) := by decide +kernel
theorem dX6_signs_24 : decode cX6_signs 24 = .ok (.if_icmp .ne 7, 3) := by decide +kernel
theorem dX6_signs_27 : decode cX6_signs 27 = .ok (.iconst 1, 1) := by decide +kernel
theorem dX6_signs_28 : decode cX6_signs 28 = .ok (.goto 4, 3) := by decide +kernel
theorem dX6_signs_31 : decode cX6_signs 31 = .ok (.iconst 0, 1) := by decide +kernel
theorem dX6_signs_32 : decode cX6_signs 32 = .ok (.invokestatic 49, 3) := by decide +kernel
theorem dX6_signs_35 : decode cX6_signs 35 = .ok (.ior, 1) := by decide +kernel
theorem dX6_signs_36 : decode cX6_signs 36 = .ok (.iconst 2, 1) := by decide +kernel
theorem dX6_signs_37 : decode cX6_signs 37 = .ok (.aload_n 0, 1) := by decide +kernel
theorem dX6_signs_38 : decode cX6_signs 38 = .ok (.getfield 34, 3) := by decide +kernel
theorem dX6_signs_41 : decode cX6_signs 41 = .ok (.iconst 2, 1) := by decide +kernel
theorem dX6_signs_42 : decode cX6_signs 42 = .ok (.if_icmp .ne 7, 3) := by decide +kernel
theorem dX6_signs_45 : decode cX6_signs 45 = .ok (.iconst 1, 1) := by decide +kernel
theorem dX6_signs_46 : decode cX6_signs 46 = .ok (.goto 4, 3) := by decide +kernel
theorem dX6_signs_49 : decode cX6_signs 49 = .ok (.iconst 0, 1) := by decide +kernel
theorem dX6_signs_50 : decode cX6_signs 50 = .ok (.invokestatic 49, 3) := by decide +kernel
theorem dX6_signs_53 : decode cX6_signs 53 = .ok (.ior, 1) := by decide +kernel
theorem dX6_signs_54 : decode cX6_signs 54 = .ok (.iconst 3, 1) := by decide +kernel
theorem dX6_signs_55 : decode cX6_signs 55 = .ok (.aload_n 0, 1) := by decide +kernel
theorem dX6_signs_56 : decode cX6_signs 56 = .ok (.invokevirtual 53, 3) := by decide +kernel
theorem dX6_signs_59 : decode cX6_signs 59 = .ok (.iconst 2, 1) := by decide +kernel
theorem dX6_signs_60 : decode cX6_signs 60 = .ok (.if_icmp .lt 7, 3) := by decide +kernel
theorem dX6_signs_63 : decode cX6_signs 63 = .ok (.iconst 1, 1) := by decide +kernel
theorem dX6_signs_64 : decode cX6_signs 64 = .ok (.goto 4, 3) := by decide +kernel
theorem dX6_signs_67 : decode cX6_signs 67 = .ok (.iconst 0, 1) := by decide +kernel
theorem dX6_signs_68 : decode cX6_signs 68 = .ok (.invokestatic 49, 3) := by decide +kernel
theorem dX6_signs_71 : decode cX6_signs 71 = .ok (.ior, 1) := by decide +kernel
theorem dX6_signs_72 : decode cX6_signs 72 = .ok (.iconst 4, 1) := by decide +kernel
theorem dX6_signs_73 : decode cX6_signs 73 = .ok (.aload_n 0, 1) := by decide +kernel
theorem dX6_signs_74 : decode cX6_signs 74 = .ok (.getfield 30, 3) := by decide +kernel
theorem dX6_signs_77 : decode cX6_signs 77 = .ok (.invokestatic 49, 3) := by decide +kernel
theorem dX6_signs_80 : decode cX6_signs 80 = .ok (.ior, 1) := by decide +kernel
theorem dX6_signs_81 : decode cX6_signs 81 = .ok (.iconst 5, 1) := by decide +kernel
theorem dX6_signs_82 : decode cX6_signs 82 = .ok (.aload_n 0, 1) := by decide +kernel
theorem dX6_signs_83 : decode cX6_signs 83 = .ok (.getfield 56, 3) := by decide +kernel
theorem dX6_signs_86 : decode cX6_signs 86 = .ok (.ifCond .eq 7, 3) := by decide +kernel
theorem dX6_signs_89 : decode cX6_signs 89 = .ok (.iconst 1, 1) := by decide +kernel
theorem dX6_signs_90 : decode cX6_signs 90 = .ok (.goto 4, 3) := by decide +kernel
theorem dX6_signs_93 : decode cX6_signs 93 = .ok (.iconst 0, 1) := by decide +kernel
theorem dX6_signs_94 : decode cX6_signs 94 = .ok (.invokestatic 49, 3) := by decide +kernel
theorem dX6_signs_97 : decode cX6_signs 97 = .ok (.ior, 1) := by decide +kernel
theorem dX6_signs_98 : decode cX6_signs 98 = .ok (.bipush 6, 2) := by decide +kernel
theorem dX6_signs_100 : decode cX6_signs 100 = .ok (.aload_n 0, 1) := by decide +kernel
theorem dX6_signs_101 : decode cX6_signs 101 = .ok (.getfield 59, 3) := by decide +kernel
theorem dX6_signs_104 : decode cX6_signs 104 = .ok (.ifCond .eq 7, 3) := by decide +kernel
theorem dX6_signs_107 : decode cX6_signs 107 = .ok (.iconst 1, 1) := by decide +kernel
theorem dX6_signs_108 : decode cX6_signs 108 = .ok (.goto 4, 3) := by decide +kernel
theorem dX6_signs_111 : decode cX6_signs 111 = .ok (.iconst 0, 1) := by decide +kernel
theorem dX6_signs_112 : decode cX6_signs 112 = .ok (.invokestatic 49, 3) := by decide +kernel
theorem dX6_signs_115 : decode cX6_signs 115 = .ok (.ior, 1) := by decide +kernel
theorem dX6_signs_116 : decode cX6_signs 116 = .ok (.bipush 7, 2) := by decide +kernel
theorem dX6_signs_118 : decode cX6_signs 118 = .ok (.aload_n 0, 1) := by decide +kernel
theorem dX6_signs_119 : decode cX6_signs 119 = .ok (.getfield 9, 3) := by decide +kernel
theorem dX6_signs_122 : decode cX6_signs 122 = .ok (.bipush 10, 2) := by decide +kernel
theorem dX6_signs_124 : decode cX6_signs 124 = .ok (.if_icmp .ge 7, 3) := by decide +kernel
theorem dX6_signs_127 : decode cX6_signs 127 = .ok (.iconst 1, 1) := by decide +kernel
theorem dX6_signs_128 : decode cX6_signs 128 = .ok (.goto 4, 3) := by decide +kernel
theorem dX6_signs_131 : decode cX6_signs 131 = .ok (.iconst 0, 1) := by decide +kernel
theorem dX6_signs_132 : decode cX6_signs 132 = .ok (.invokestatic 49, 3) := by decide +kernel
theorem dX6_signs_135 : decode cX6_signs 135 = .ok (.ior, 1) := by decide +kernel
theorem dX6_signs_136 : decode cX6_signs 136 = .ok (.ireturn, 1) := by decide +kernel
theorem dX6_words_0 : decode cX6_words 0 = .ok (.aload_n 0, 1) := by decide +kernel
theorem dX6_words_1 : decode cX6_words 1 = .ok (.invokevirtual 62, 3) := by decide +kernel
theorem dX6_words_4 : decode cX6_words 4 = .ok (.istore_n 1, 1) := by decide +kernel
theorem dX6_words_5 : decode cX6_words 5 = .ok (.iload_n 1, 1) := by decide +kernel
theorem dX6_words_6 : decode cX6_words 6 = .ok (.iload_n 1, 1) := by decide +kernel
theorem dX6_words_7 : decode cX6_words 7 = .ok (.iconst (-1), 1) := by decide +kernel
theorem dX6_words_8 : decode cX6_words 8 = .ok (.ixor, 1) := by decide +kernel
theorem dX6_words_9 : decode cX6_words 9 = .ok (.sipush 255, 3) := by decide +kernel
theorem dX6_words_12 : decode cX6_words 12 = .ok (.iand, 1) := by decide +kernel
theorem dX6_words_13 : decode cX6_words 13 = .ok (.bipush 8, 2) := by decide +kernel
theorem dX6_words_15 : decode cX6_words 15 = .ok (.ishl, 1) := by decide +kernel
theorem dX6_words_16 : decode cX6_words 16 = .ok (.ior, 1) := by decide +kernel
theorem dX6_words_17 : decode cX6_words 17 = .ok (.ireturn, 1) := by decide +kernel
theorem dX6_fact_0 : decode cX6_fact 0 = .ok (.iload_n 1, 1) := by decide +kernel
theorem dX6_fact_1 : decode cX6_fact 1 = .ok (.tableswitch 121 10 18 #[51, 56, 61, 66, 80, 93, 98, 103, 108], 51) := by decide +kernel
theorem dX6_fact_52 : decode cX6_fact 52 = .ok (.aload_n 0, 1) := by decide +kernel
theorem dX6_fact_53 : decode cX6_fact 53 = .ok (.getfield 18, 3) := by decide +kernel
theorem dX6_fact_56 : decode cX6_fact 56 = .ok (.ireturn, 1) := by decide +kernel
theorem dX6_fact_57 : decode cX6_fact 57 = .ok (.aload_n 0, 1) := by decide +kernel
theorem dX6_fact_58 : decode cX6_fact 58 = .ok (.getfield 27, 3) := by decide +kernel
theorem dX6_fact_61 : decode cX6_fact 61 = .ok (.ireturn, 1) := by decide +kernel
theorem dX6_fact_62 : decode cX6_fact 62 = .ok (.aload_n 0, 1) := by decide +kernel
theorem dX6_fact_63 : decode cX6_fact 63 = .ok (.invokevirtual 53, 3) := by decide +kernel
theorem dX6_fact_66 : decode cX6_fact 66 = .ok (.ireturn, 1) := by decide +kernel
theorem dX6_fact_67 : decode cX6_fact 67 = .ok (.aload_n 0, 1) := by decide +kernel
theorem dX6_fact_68 : decode cX6_fact 68 = .ok (.getfield 37, 3) := by decide +kernel
theorem dX6_fact_71 : decode cX6_fact 71 = .ok (.iconst (-1), 1) := by decide +kernel
theorem dX6_fact_72 : decode cX6_fact 72 = .ok (.if_icmp .ne 7, 3) := by decide +kernel
theorem dX6_fact_75 : decode cX6_fact 75 = .ok (.iconst 0, 1) := by decide +kernel
theorem dX6_fact_76 : decode cX6_fact 76 = .ok (.goto 4, 3) := by decide +kernel
theorem dX6_fact_79 : decode cX6_fact 79 = .ok (.iconst 1, 1) := by decide +kernel
theorem dX6_fact_80 : decode cX6_fact 80 = .ok (.ireturn, 1) := by decide +kernel
theorem dX6_fact_81 : decode cX6_fact 81 = .ok (.aload_n 0, 1) := by decide +kernel
theorem dX6_fact_82 : decode cX6_fact 82 = .ok (.getfield 30, 3) := by decide +kernel
theorem dX6_fact_85 : decode cX6_fact 85 = .ok (.ifCond .eq 7, 3) := by decide +kernel
theorem dX6_fact_88 : decode cX6_fact 88 = .ok (.iconst 1, 1) := by decide +kernel
theorem dX6_fact_89 : decode cX6_fact 89 = .ok (.goto 4, 3) := by decide +kernel
theorem dX6_fact_92 : decode cX6_fact 92 = .ok (.iconst 0, 1) := by decide +kernel
theorem dX6_fact_93 : decode cX6_fact 93 = .ok (.ireturn, 1) := by decide +kernel
theorem dX6_fact_94 : decode cX6_fact 94 = .ok (.aload_n 0, 1) := by decide +kernel
theorem dX6_fact_95 : decode cX6_fact 95 = .ok (.getfield 34, 3) := by decide +kernel
theorem dX6_fact_98 : decode cX6_fact 98 = .ok (.ireturn, 1) := by decide +kernel
theorem dX6_fact_99 : decode cX6_fact 99 = .ok (.aload_n 0, 1) := by decide +kernel
theorem dX6_fact_100 : decode cX6_fact 100 = .ok (.getfield 59, 3) := by decide +kernel
theorem dX6_fact_103 : decode cX6_fact 103 = .ok (.ireturn, 1) := by decide +kernel
theorem dX6_fact_104 : decode cX6_fact 104 = .ok (.aload_n 0, 1) := by decide +kernel
theorem dX6_fact_105 : decode cX6_fact 105 = .ok (.getfield 9, 3) := by decide +kernel
theorem dX6_fact_108 : decode cX6_fact 108 = .ok (.ireturn, 1) := by decide +kernel
theorem dX6_fact_109 : decode cX6_fact 109 = .ok (.aload_n 0, 1) := by decide +kernel
theorem dX6_fact_110 : decode cX6_fact 110 = .ok (.getfield 56, 3) := by decide +kernel
theorem dX6_fact_113 : decode cX6_fact 113 = .ok (.ifCond .ne 7, 3) := by decide +kernel
theorem dX6_fact_116 : decode cX6_fact 116 = .ok (.iconst 0, 1) := by decide +kernel
theorem dX6_fact_117 : decode cX6_fact 117 = .ok (.goto 4, 3) := by decide +kernel
theorem dX6_fact_120 : decode cX6_fact 120 = .ok (.iconst 1, 1) := by decide +kernel
theorem dX6_fact_121 : decode cX6_fact 121 = .ok (.ireturn, 1) := by decide +kernel
theorem dX6_fact_122 : decode cX6_fact 122 = .ok (.iconst 0, 1) := by decide +kernel
theorem dX6_fact_123 : decode cX6_fact 123 = .ok (.ireturn, 1) := by decide +kernel
theorem dX6_bit_0 : decode cX6_bit 0 = .ok (.iload_n 1, 1) := by decide +kernel
theorem dX6_bit_1 : decode cX6_bit 1 = .ok (.ifCond .eq 9, 3) := by decide +kernel
theorem dX6_bit_4 : decode cX6_bit 4 = .ok (.iconst 1, 1) := by decide +kernel
theorem dX6_bit_5 : decode cX6_bit 5 = .ok (.iload_n 0, 1) := by decide +kernel
theorem dX6_bit_6 : decode cX6_bit 6 = .ok (.ishl, 1) := by decide +kernel
theorem dX6_bit_7 : decode cX6_bit 7 = .ok (.goto 4, 3) := by decide +kernel
theorem dX6_bit_10 : decode cX6_bit 10 = .ok (.iconst 0, 1) := by decide +kernel
theorem dX6_bit_11 : decode cX6_bit 11 = .ok (.ireturn, 1) := by decide +kernel
theorem dX7_init_0 : decode cX7_init 0 = .ok (.aload_n 0, 1) := by decide +kernel
theorem dX7_init_1 : decode cX7_init 1 = .ok (.invokespecial 3, 3) := by decide +kernel
theorem dX7_init_4 : decode cX7_init 4 = .ok (.aload_n 0, 1) := by decide +kernel
theorem dX7_init_5 : decode cX7_init 5 = .ok (.bipush 8, 2) := by decide +kernel
theorem dX7_init_7 : decode cX7_init 7 = .ok (.newarray .long, 2) := by decide +kernel
theorem dX7_init_9 : decode cX7_init 9 = .ok (.putfield 11, 3) := by decide +kernel
theorem dX7_init_12 : decode cX7_init 12 = .ok (.aload_n 0, 1) := by decide +kernel
theorem dX7_init_13 : decode cX7_init 13 = .ok (.sipush 1000, 3) := by decide +kernel
theorem dX7_init_16 : decode cX7_init 16 = .ok (.newarray .int, 2) := by decide +kernel
theorem dX7_init_18 : decode cX7_init 18 = .ok (.putfield 17, 3) := by decide +kernel
theorem dX7_init_21 : decode cX7_init 21 = .ok (.aload_n 0, 1) := by decide +kernel
theorem dX7_init_22 : decode cX7_init 22 = .ok (.bipush 32, 2) := by decide +kernel
theorem dX7_init_24 : decode cX7_init 24 = .ok (.newarray .int, 2) := by decide +kernel
theorem dX7_init_26 : decode cX7_init 26 = .ok (.putfield 21, 3) := by decide +kernel
theorem dX7_init_29 : decode cX7_init 29 = .ok (.return_, 1) := by decide +kernel
theorem dX7_read_0 : decode cX7_read 0 = .ok (.aload_n 0, 1) := by decide +kernel
theorem dX7_read_1 : decode cX7_read 1 = .ok (.aload_n 1, 1) := by decide +kernel
theorem dX7_read_2 : decode cX7_read 2 = .ok (.putfield 24, 3) := by decide +kernel
theorem dX7_read_5 : decode cX7_read 5 = .ok (.aload_n 0, 1) := by decide +kernel
theorem dX7_read_6 : decode cX7_read 6 = .ok (.iconst 0, 1) := by decide +kernel
theorem dX7_read_7 : decode cX7_read 7 = .ok (.putfield 28, 3) := by decide +kernel
theorem dX7_read_10 : decode cX7_read 10 = .ok (.aload_n 0, 1) := by decide +kernel
theorem dX7_read_11 : decode cX7_read 11 = .ok (.iconst 0, 1) := by decide +kernel
theorem dX7_read_12 : decode cX7_read 12 = .ok (.putfield 32, 3) := by decide +kernel
theorem dX7_read_15 : decode cX7_read 15 = .ok (.aload_n 0, 1) := by decide +kernel
theorem dX7_read_16 : decode cX7_read 16 = .ok (.iconst 0, 1) := by decide +kernel
theorem dX7_read_17 : decode cX7_read 17 = .ok (.putfield 35, 3) := by decide +kernel
theorem dX7_read_20 : decode cX7_read 20 = .ok (.aload_n 0, 1) := by decide +kernel
theorem dX7_read_21 : decode cX7_read 21 = .ok (.getfield 24, 3) := by decide +kernel
theorem dX7_read_24 : decode cX7_read 24 = .ok (.invokevirtual 38, 3) := by decide +kernel
theorem dX7_read_27 : decode cX7_read 27 = .ok (.iconst 0, 1) := by decide +kernel
theorem dX7_read_28 : decode cX7_read 28 = .ok (.istore_n 2, 1) := by decide +kernel
theorem dX7_read_29 : decode cX7_read 29 = .ok (.iload_n 2, 1) := by decide +kernel
theorem dX7_read_30 : decode cX7_read 30 = .ok (.bipush 20, 2) := by decide +kernel
theorem dX7_read_32 : decode cX7_read 32 = .ok (.if_icmp .gt 34, 3) := by decide +kernel
theorem dX7_read_35 : decode cX7_read 35 = .ok (.aload_n 0, 1) := by decide +kernel
theorem dX7_read_36 : decode cX7_read 36 = .ok (.getfield 35, 3) := by decide +kernel
theorem dX7_read_39 : decode cX7_read 39 = .ok (.ifCond .ne 27, 3) := by decide +kernel
theorem dX7_read_42 : decode cX7_read 42 = .ok (.aload_n 0, 1) := by decide +kernel
theorem dX7_read_43 : decode cX7_read 43 = .ok (.getfield 24, 3) := by decide +kernel
theorem dX7_read_46 : decode cX7_read 46 = .ok (.getfield 41, 3) := by decide +kernel
theorem dX7_read_49 : decode cX7_read 49 = .ok (.sipush 202, 3) := by decide +kernel
theorem dX7_read_52 : decode cX7_read 52 = .ok (.if_icmp .eq 14, 3) := by decide +kernel
theorem dX7_read_55 : decode cX7_read 55 = .ok (.aload_n 0, 1) := by decide +kernel
theorem dX7_read_56 : decode cX7_read 56 = .ok (.iload_n 2, 1) := by decide +kernel
theorem dX7_read_57 : decode cX7_read 57 = .ok (.invokevirtual 44, 3) := by decide +kernel
theorem dX7_read_60 : decode cX7_read 60 = .ok (.iinc 2 1, 3) := by decide +kernel
theorem dX7_read_63 : decode cX7_read 63 = .ok (.goto (-34), 3) := by decide +kernel
theorem dX7_read_66 : decode cX7_read 66 = .ok (.aload_n 0, 1) := by decide +kernel
theorem dX7_read_67 : decode cX7_read 67 = .ok (.getfield 35, 3) := by decide +kernel
theorem dX7_read_70 : decode cX7_read 70 = .ok (.ireturn, 1) := by decide +kernel
theorem dX7_written_0 : decode cX7_written 0 = .ok (.aload_n 0, 1) := by decide +kernel
theorem dX7_written_1 : decode cX7_written 1 = .ok (.getfield 17, 3) := by decide +kernel
theorem dX7_written_4 : decode cX7_written 4 = .ok (.aload_n 0, 1) := by decide +kernel
theorem dX7_written_5 : decode cX7_written 5 = .ok (.getfield 32, 3) := by decide +kernel
theorem dX7_written_8 : decode cX7_written 8 = .ok (.invokestatic 48, 3) := by decide +kernel
theorem dX7_written_11 : decode cX7_written 11 = .ok (.areturn, 1) := by decide +kernel
theorem dX7_readLine_0 : decode cX7_readLine 0 = .ok (.aload_n 0, 1) := by decide +kernel
theorem dX7_readLine_1 : decode cX7_readLine 1 = .ok (.getfield 24, 3) := by decide +kernel
theorem dX7_readLine_4 : decode cX7_readLine 4 = .ok (.getfield 41, 3) := by decide +kernel
theorem dX7_readLine_7 : decode cX7_readLine 7 = .ok (.istore_n 2, 1) := by decide +kernel
theorem dX7_readLine_8 : decode cX7_readLine 8 = .ok (.iload_n 2, 1) := by decide +kernel
theorem dX7_readLine_9 : decode cX7_readLine 9 = .ok (.iconst 4, 1) := by decide +kernel
theorem dX7_readLine_10 : decode cX7_readLine 10 = .ok (.if_icmp .eq 20, 3) := by decide +kernel
theorem dX7_readLine_13 : decode cX7_readLine 13 = .ok (.iload_n 2, 1) := by decide +kernel
theorem dX7_readLine_14 : decode cX7_readLine 14 = .ok (.bipush 20, 2) := by decide +kernel
theorem dX7_readLine_16 : decode cX7_readLine 16 = .ok (.if_icmp .eq 14, 3) := by decide +kernel
theorem dX7_readLine_19 : decode cX7_readLine 19 = .ok (.iload_n 2, 1) := by decide +kernel
theorem dX7_readLine_20 : decode cX7_readLine 20 = .ok (.iconst 5, 1) := by decide +kernel
theorem dX7_readLine_21 : decode cX7_readLine 21 = .ok (.if_icmp .eq 9, 3) := by decide +kernel
theorem dX7_readLine_24 : decode cX7_readLine 24 = .ok (.aload_n 0, 1) := by decide +kernel
theorem dX7_readLine_25 : decode cX7_readLine 25 = .ok (.iconst 1, 1) := by decide +kernel
theorem dX7_readLine_26 : decode cX7_readLine 26 = .ok (.invokevirtual 54, 3) := by decide +kernel
theorem dX7_readLine_29 : decode cX7_readLine 29 = .ok (.return_, 1) := by decide +kernel
theorem dX7_readLine_30 : decode cX7_readLine 30 = .ok (.iload_n 1, 1) := by decide +kernel
theorem dX7_readLine_31 : decode cX7_readLine 31 = .ok (.bipush 20, 2) := by decide +kernel
theorem dX7_readLine_33 : decode cX7_readLine 33 = .ok (.if_icmp .lt 9, 3) := by decide +kernel
theorem dX7_readLine_36 : decode cX7_readLine 36 = .ok (.aload_n 0, 1) := by decide +kernel
theorem dX7_readLine_37 : decode cX7_readLine 37 = .ok (.iconst 5, 1) := by decide +kernel
theorem dX7_readLine_38 : decode cX7_readLine 38 = .ok (.invokevirtual 54, 3) := by decide +kernel
theorem dX7_readLine_41 : decode cX7_readLine 41 = .ok (.return_, 1) := by decide +kernel
theorem dX7_readLine_42 : decode cX7_readLine 42 = .ok (.aload_n 0, 1) := by decide +kernel
theorem dX7_readLine_43 : decode cX7_readLine 43 = .ok (.getfield 32, 3) := by decide +kernel
theorem dX7_readLine_46 : decode cX7_readLine 46 = .ok (.istore_n 3, 1) := by decide +kernel
theorem dX7_readLine_47 : decode cX7_readLine 47 = .ok (.aload_n 0, 1) := by decide +kernel
theorem dX7_readLine_48 : decode cX7_readLine 48 = .ok (.iload_n 2, 1) := by decide +kernel
theorem dX7_readLine_49 : decode cX7_readLine 49 = .ok (.invokevirtual 57, 3) := by decide +kernel
theorem dX7_readLine_52 : decode cX7_readLine 52 = .ok (.aload_n 0, 1) := by decide +kernel
theorem dX7_readLine_53 : decode cX7_readLine 53 = .ok (.getfield 24, 3) := by decide +kernel
theorem dX7_readLine_56 : decode cX7_readLine 56 = .ok (.invokevirtual 60, 3) := by decide +kernel
theorem dX7_readLine_59 : decode cX7_readLine 59 = .ok (.aload_n 0, 1) := by decide +kernel
theorem dX7_readLine_60 : decode cX7_readLine 60 = .ok (.iload_n 2, 1) := by decide +kernel
theorem dX7_readLine_61 : decode cX7_readLine 61 = .ok (.invokevirtual 63, 3) := by decide +kernel
theorem dX7_readLine_64 : decode cX7_readLine 64 = .ok (.aload_n 0, 1) := by decide +kernel
theorem dX7_readLine_65 : decode cX7_readLine 65 = .ok (.iconst 0, 1) := by decide +kernel
theorem dX7_readLine_66 : decode cX7_readLine 66 = .ok (.invokevirtual 57, 3) := by decide +kernel
theorem dX7_readLine_69 : decode cX7_readLine 69 = .ok (.aload_n 0, 1) := by decide +kernel
theorem dX7_readLine_70 : decode cX7_readLine 70 = .ok (.iload_n 2, 1) := by decide +kernel
theorem dX7_readLine_71 : decode cX7_readLine 71 = .ok (.iconst 4, 1) := by decide +kernel
theorem dX7_readLine_72 : decode cX7_readLine 72 = .ok (.if_icmp .ne 8, 3) := by decide +kernel
theorem dX7_readLine_75 : decode cX7_readLine 75 = .ok (.bipush 61, 2) := by decide +kernel
theorem dX7_readLine_77 : decode cX7_readLine 77 = .ok (.goto 5, 3) := by decide +kernel
theorem dX7_readLine_80 : decode cX7_readLine 80 = .ok (.bipush 6, 2) := by decide +kernel
theorem dX7_readLine_82 : decode cX7_readLine 82 = .ok (.invokevirtual 66, 3) := by decide +kernel
theorem dX7_readLine_85 : decode cX7_readLine 85 = .ok (.aload_n 0, 1) := by decide +kernel
theorem dX7_readLine_86 : decode cX7_readLine 86 = .ok (.invokevirtual 69, 3) := by decide +kernel
theorem dX7_readLine_89 : decode cX7_readLine 89 = .ok (.aload_n 0, 1) := by decide +kernel
theorem dX7_readLine_90 : decode cX7_readLine 90 = .ok (.bipush 59, 2) := by decide +kernel
theorem dX7_readLine_92 : decode cX7_readLine 92 = .ok (.invokevirtual 66, 3) := by decide +kernel
theorem dX7_readLine_95 : decode cX7_readLine 95 = .ok (.aload_n 0, 1) := by decide +kernel
theorem dX7_readLine_96 : decode cX7_readLine 96 = .ok (.getfield 35, 3) := by decide +kernel
theorem dX7_readLine_99 : decode cX7_readLine 99 = .ok (.ifCond .ne 31, 3) := by decide +kernel
theorem dX7_readLine_102 : decode cX7_readLine 102 = .ok (.iload_n 3, 1) := by decide +kernel
theorem dX7_readLine_103 : decode cX7_readLine 103 = .ok (.iconst 3, 1) := by decide +kernel
theorem dX7_readLine_104 : decode cX7_readLine 104 = .ok (.iadd, 1) := by decide +kernel
theorem dX7_readLine_105 : decode cX7_readLine 105 = .ok (.aload_n 0, 1) := by decide +kernel
theorem dX7_readLine_106 : decode cX7_readLine 106 = .ok (.getfield 32, 3) := by decide +kernel
theorem dX7_readLine_109 : decode cX7_readLine 109 = .ok (.if_icmp .gt 21, 3) := by decide +kernel
theorem dX7_readLine_112 : decode cX7_readLine 112 = .ok (.aload_n 0, 1) := by decide +kernel
theorem dX7_readLine_113 : decode cX7_readLine 113 = .ok (.getfield 17, 3) := by decide +kernel
theorem dX7_readLine_116 : decode cX7_readLine 116 = .ok (.iload_n 3, 1) := by decide +kernel
theorem dX7_readLine_117 : decode cX7_readLine 117 = .ok (.iconst 3, 1) := by decide +kernel
theorem dX7_readLine_118 : decode cX7_readLine 118 = .ok (.iadd, 1) := by decide +kernel
theorem dX7_readLine_119 : decode cX7_readLine 119 = .ok (.iconst 1, 1) := by decide +kernel
theorem dX7_readLine_120 : decode cX7_readLine 120 = .ok (.isub, 1) := by decide +kernel
theorem dX7_readLine_121 : decode cX7_readLine 121 = .ok (.aload_n 0, 1) := by decide +kernel
theorem dX7_readLine_122 : decode cX7_readLine 122 = .ok (.getfield 32, 3) := by decide +kernel
theorem dX7_readLine_125 : decode cX7_readLine 125 = .ok (.iload_n 3, 1) := by decide +kernel
theorem dX7_readLine_126 : decode cX7_readLine 126 = .ok (.isub, 1) := by decide +kernel
theorem dX7_readLine_127 : decode cX7_readLine 127 = .ok (.iconst 3, 1) := by decide +kernel
theorem dX7_readLine_128 : decode cX7_readLine 128 = .ok (.isub, 1) := by decide +kernel
theorem dX7_readLine_129 : decode cX7_readLine 129 = .ok (.iastore, 1) := by decide +kernel
theorem dX7_readLine_130 : decode cX7_readLine 130 = .ok (.aload_n 0, 1) := by decide +kernel
theorem dX7_readLine_131 : decode cX7_readLine 131 = .ok (.getfield 35, 3) := by decide +kernel
theorem dX7_readLine_134 : decode cX7_readLine 134 = .ok (.ifCond .ne 18, 3) := by decide +kernel
theorem dX7_readLine_137 : decode cX7_readLine 137 = .ok (.iload_n 2, 1) := by decide +kernel
theorem dX7_readLine_138 : decode cX7_readLine 138 = .ok (.iconst 4, 1) := by decide +kernel
theorem dX7_readLine_139 : decode cX7_readLine 139 = .ok (.if_icmp .ne 13, 3) := by decide +kernel
theorem dX7_readLine_142 : decode cX7_readLine 142 = .ok (.aload_n 0, 1) := by decide +kernel
theorem dX7_readLine_143 : decode cX7_readLine 143 = .ok (.dup, 1) := by decide +kernel
theorem dX7_readLine_144 : decode cX7_readLine 144 = .ok (.getfield 28, 3) := by decide +kernel
theorem dX7_readLine_147 : decode cX7_readLine 147 = .ok (.iconst 1, 1) := by decide +kernel
theorem dX7_readLine_148 : decode cX7_readLine 148 = .ok (.iadd, 1) := by decide +kernel
theorem dX7_readLine_149 : decode cX7_readLine 149 = .ok (.putfield 28, 3) := by decide +kernel
theorem dX7_readLine_152 : decode cX7_readLine 152 = .ok (.return_, 1) := by decide +kernel
theorem dX7_readWhatFor_0 : decode cX7_readWhatFor 0 = .ok (.iload_n 1, 1) := by decide +kernel
theorem dX7_readWhatFor_1 : decode cX7_readWhatFor 1 = .ok (.iconst 4, 1) := by decide +kernel
theorem dX7_readWhatFor_2 : decode cX7_readWhatFor 2 = .ok (.if_icmp .ne 10, 3) := by decide +kernel
theorem dX7_readWhatFor_5 : decode cX7_readWhatFor 5 = .ok (.aload_n 0, 1) := by decide +kernel
theorem dX7_readWhatFor_6 : decode cX7_readWhatFor 6 = .ok (.invokevirtual 72, 3) := by decide +kernel
theorem dX7_readWhatFor_9 : decode cX7_readWhatFor 9 = .ok (.goto 20, 3) := by decide +kernel
theorem dX7_readWhatFor_12 : decode cX7_readWhatFor 12 = .ok (.iload_n 1, 1) := by decide +kernel
theorem dX7_readWhatFor_13 : decode cX7_readWhatFor 13 = .ok (.bipush 20, 2) := by decide +kernel
theorem dX7_readWhatFor_15 : decode cX7_readWhatFor 15 = .ok (.if_icmp .ne 10, 3) := by decide +kernel
theorem dX7_readWhatFor_18 : decode cX7_readWhatFor 18 = .ok (.aload_n 0, 1) := by decide +kernel
theorem dX7_readWhatFor_19 : decode cX7_readWhatFor 19 = .ok (.invokevirtual 75, 3) := by decide +kernel
theorem dX7_readWhatFor_22 : decode cX7_readWhatFor 22 = .ok (.goto 7, 3) := by decide +kernel
theorem dX7_readWhatFor_25 : decode cX7_readWhatFor 25 = .ok (.aload_n 0, 1) := by decide +kernel
theorem dX7_readWhatFor_26 : decode cX7_readWhatFor 26 = .ok (.invokevirtual 78, 3) := by decide +kernel
theorem dX7_readWhatFor_29 : decode cX7_readWhatFor 29 = .ok (.return_, 1) := by decide +kernel
theorem dX7_readNewName_0 : decode cX7_readNewName 0 = .ok (.aload_n 0, 1) := by decide +kernel
theorem dX7_readNewName_1 : decode cX7_readNewName 1 = .ok (.getfield 24, 3) := by decide +kernel
theorem dX7_readNewName_4 : decode cX7_readNewName 4 = .ok (.getfield 41, 3) := by decide +kernel
theorem dX7_readNewName_7 : decode cX7_readNewName 7 = .ok (.sipush 200, 3) := by decide +kernel
theorem dX7_readNewName_10 : decode cX7_readNewName 10 = .ok (.if_icmp .eq 11, 3) := by decide +kernel
theorem dX7_readNewName_13 : decode cX7_readNewName 13 = .ok (.aload_n 0, 1) := by decide +kernel
theorem dX7_readNewName_14 : decode cX7_readNewName 14 = .ok (.iconst 1, 1) := by decide +kernel
theorem dX7_readNewName_15 : decode cX7_readNewName 15 = .ok (.invokevirtual 54, 3) := by decide +kernel
theorem dX7_readNewName_18 : decode cX7_readNewName 18 = .ok (.goto 74, 3) := by decide +kernel
theorem dX7_readNewName_21 : decode cX7_readNewName 21 = .ok (.aload_n 0, 1) := by decide +kernel
theorem dX7_readNewName_22 : decode cX7_readNewName 22 = .ok (.aload_n 0, 1) := by decide +kernel
theorem dX7_readNewName_23 : decode cX7_readNewName 23 = .ok (.getfield 24, 3) := by decide +kernel
theorem dX7_readNewName_26 : decode cX7_readNewName 26 = .ok (.getfield 81, 3) := by decide +kernel
theorem dX7_readNewName_29 : decode cX7_readNewName 29 = .ok (.invokevirtual 85, 3) := by decide +kernel
theorem dX7_readNewName_32 : decode cX7_readNewName 32 = .ok (.iconst (-1), 1) := by decide +kernel
theorem dX7_readNewName_33 : decode cX7_readNewName 33 = .ok (.if_icmp .eq 11, 3) := by decide +kernel
theorem dX7_readNewName_36 : decode cX7_readNewName 36 = .ok (.aload_n 0, 1) := by decide +kernel
theorem dX7_readNewName_37 : decode cX7_readNewName 37 = .ok (.iconst 3, 1) := by decide +kernel
theorem dX7_readNewName_38 : decode cX7_readNewName 38 = .ok (.invokevirtual 54, 3) := by decide +kernel
theorem dX7_readNewName_41 : decode cX7_readNewName 41 = .ok (.goto 51, 3) := by decide +kernel
theorem dX7_readNewName_44 : decode cX7_readNewName 44 = .ok (.aload_n 0, 1) := by decide +kernel
theorem dX7_readNewName_45 : decode cX7_readNewName 45 = .ok (.getfield 28, 3) := by decide +kernel
theorem dX7_readNewName_48 : decode cX7_readNewName 48 = .ok (.bipush 8, 2) := by decide +kernel
theorem dX7_readNewName_50 : decode cX7_readNewName 50 = .ok (.if_icmp .lt 11, 3) := by decide +kernel
theorem dX7_readNewName_53 : decode cX7_readNewName 53 = .ok (.aload_n 0, 1) := by decide +kernel
theorem dX7_readNewName_54 : decode cX7_readNewName 54 = .ok (.iconst 5, 1) := by decide +kernel
theorem dX7_readNewName_55 : decode cX7_readNewName 55 = .ok (.invokevirtual 54, 3) := by decide +kernel
theorem dX7_readNewName_58 : decode cX7_readNewName 58 = .ok (.goto 34, 3) := by decide +kernel
theorem dX7_readNewName_61 : decode cX7_readNewName 61 = .ok (.aload_n 0, 1) := by decide +kernel
theorem dX7_readNewName_62 : decode cX7_readNewName 62 = .ok (.getfield 11, 3) := by decide +kernel
theorem dX7_readNewName_65 : decode cX7_readNewName 65 = .ok (.aload_n 0, 1) := by decide +kernel
theorem dX7_readNewName_66 : decode cX7_readNewName 66 = .ok (.getfield 28, 3) := by decide +kernel
theorem dX7_readNewName_69 : decode cX7_readNewName 69 = .ok (.aload_n 0, 1) := by decide +kernel
theorem dX7_readNewName_70 : decode cX7_readNewName 70 = .ok (.getfield 24, 3) := by decide +kernel
theorem dX7_readNewName_73 : decode cX7_readNewName 73 = .ok (.getfield 81, 3) := by decide +kernel
theorem dX7_readNewName_76 : decode cX7_readNewName 76 = .ok (.lastore, 1) := by decide +kernel
theorem dX7_readNewName_77 : decode cX7_readNewName 77 = .ok (.aload_n 0, 1) := by decide +kernel
theorem dX7_readNewName_78 : decode cX7_readNewName 78 = .ok (.aload_n 0, 1) := by decide +kernel
theorem dX7_readNewName_79 : decode cX7_readNewName 79 = .ok (.getfield 28, 3) := by decide +kernel
theorem dX7_readNewName_82 : decode cX7_readNewName 82 = .ok (.invokevirtual 57, 3) := by decide +kernel
theorem dX7_readNewName_85 : decode cX7_readNewName 85 = .ok (.aload_n 0, 1) := by decide +kernel
theorem dX7_readNewName_86 : decode cX7_readNewName 86 = .ok (.getfield 24, 3) := by decide +kernel
theorem dX7_readNewName_89 : decode cX7_readNewName 89 = .ok (.invokevirtual 60, 3) := by decide +kernel
theorem dX7_readNewName_92 : decode cX7_readNewName 92 = .ok (.return_, 1) := by decide +kernel
theorem dX7_readLimit_0 : decode cX7_readLimit 0 = .ok (.aload_n 0, 1) := by decide +kernel
theorem dX7_readLimit_1 : decode cX7_readLimit 1 = .ok (.getfield 24, 3) := by decide +kernel
theorem dX7_readLimit_4 : decode cX7_readLimit 4 = .ok (.getfield 41, 3) := by decide +kernel
theorem dX7_readLimit_7 : decode cX7_readLimit 7 = .ok (.sipush 201, 3) := by decide +kernel
theorem dX7_readLimit_10 : decode cX7_readLimit 10 = .ok (.if_icmp .eq 11, 3) := by decide +kernel
theorem dX7_readLimit_13 : decode cX7_readLimit 13 = .ok (.aload_n 0, 1) := by decide +kernel
theorem dX7_readLimit_14 : decode cX7_readLimit 14 = .ok (.iconst 1, 1) := by decide +kernel
theorem dX7_readLimit_15 : decode cX7_readLimit 15 = .ok (.invokevirtual 54, 3) := by decide +kernel
theorem dX7_readLimit_18 : decode cX7_readLimit 18 = .ok (.goto 46, 3) := by decide +kernel
theorem dX7_readLimit_21 : decode cX7_readLimit 21 = .ok (.aload_n 0, 1) := by decide +kernel
theorem dX7_readLimit_22 : decode cX7_readLimit 22 = .ok (.getfield 24, 3) := by decide +kernel
theorem dX7_readLimit_25 : decode cX7_readLimit 25 = .ok (.getfield 89, 3) := by decide +kernel
theorem dX7_readLimit_28 : decode cX7_readLimit 28 = .ok (.iconst 1, 1) := by decide +kernel
theorem dX7_readLimit_29 : decode cX7_readLimit 29 = .ok (.sipush 999, 3) := by decide +kernel
theorem dX7_readLimit_32 : decode cX7_readLimit 32 = .ok (.invokestatic 92, 3) := by decide +kernel
theorem dX7_readLimit_35 : decode cX7_readLimit 35 = .ok (.ifCond .ne 11, 3) := by decide +kernel
theorem dX7_readLimit_38 : decode cX7_readLimit 38 = .ok (.aload_n 0, 1) := by decide +kernel
theorem dX7_readLimit_39 : decode cX7_readLimit 39 = .ok (.iconst 4, 1) := by decide +kernel
theorem dX7_readLimit_40 : decode cX7_readLimit 40 = .ok (.invokevirtual 54, 3) := by decide +kernel
theorem dX7_readLimit_43 : decode cX7_readLimit 43 = .ok (.goto 21, 3) := by decide +kernel
theorem dX7_readLimit_46 : decode cX7_readLimit 46 = .ok (.aload_n 0, 1) := by decide +kernel
theorem dX7_readLimit_47 : decode cX7_readLimit 47 = .ok (.aload_n 0, 1) := by decide +kernel
theorem dX7_readLimit_48 : decode cX7_readLimit 48 = .ok (.getfield 24, 3) := by decide +kernel
theorem dX7_readLimit_51 : decode cX7_readLimit 51 = .ok (.getfield 89, 3) := by decide +kernel
theorem dX7_readLimit_54 : decode cX7_readLimit 54 = .ok (.invokevirtual 57, 3) := by decide +kernel
theorem dX7_readLimit_57 : decode cX7_readLimit 57 = .ok (.aload_n 0, 1) := by decide +kernel
theorem dX7_readLimit_58 : decode cX7_readLimit 58 = .ok (.getfield 24, 3) := by decide +kernel
theorem dX7_readLimit_61 : decode cX7_readLimit 61 = .ok (.invokevirtual 60, 3) := by decide +kernel
theorem dX7_readLimit_64 : decode cX7_readLimit 64 = .ok (.return_, 1) := by decide +kernel
theorem dX7_readWho_0 : decode cX7_readWho 0 = .ok (.aload_n 0, 1) := by decide +kernel
theorem dX7_readWho_1 : decode cX7_readWho 1 = .ok (.getfield 24, 3) := by decide +kernel
theorem dX7_readWho_4 : decode cX7_readWho 4 = .ok (.getfield 41, 3) := by decide +kernel
theorem dX7_readWho_7 : decode cX7_readWho 7 = .ok (.iconst 0, 1) := by decide +kernel
theorem dX7_readWho_8 : decode cX7_readWho 8 = .ok (.iconst 3, 1) := by decide +kernel
theorem dX7_readWho_9 : decode cX7_readWho 9 = .ok (.invokestatic 92, 3) := by decide +kernel
theorem dX7_readWho_12 : decode cX7_readWho 12 = .ok (.ifCond .ne 11, 3) := by decide +kernel
theorem dX7_readWho_15 : decode cX7_readWho 15 = .ok (.aload_n 0, 1) := by decide +kernel
theorem dX7_readWho_16 : decode cX7_readWho 16 = .ok (.iconst 1, 1) := by decide +kernel
theorem dX7_readWho_17 : decode cX7_readWho 17 = .ok (.invokevirtual 54, 3) := by decide +kernel
theorem dX7_readWho_20 : decode cX7_readWho 20 = .ok (.goto 21, 3) := by decide +kernel
theorem dX7_readWho_23 : decode cX7_readWho 23 = .ok (.aload_n 0, 1) := by decide +kernel
theorem dX7_readWho_24 : decode cX7_readWho 24 = .ok (.aload_n 0, 1) := by decide +kernel
theorem dX7_readWho_25 : decode cX7_readWho 25 = .ok (.getfield 24, 3) := by decide +kernel
theorem dX7_readWho_28 : decode cX7_readWho 28 = .ok (.getfield 41, 3) := by decide +kernel
theorem dX7_readWho_31 : decode cX7_readWho 31 = .ok (.invokevirtual 57, 3) := by decide +kernel
theorem dX7_readWho_34 : decode cX7_readWho 34 = .ok (.aload_n 0, 1) := by decide +kernel
theorem dX7_readWho_35 : decode cX7_readWho 35 = .ok (.getfield 24, 3) := by decide +kernel
theorem dX7_readWho_38 : decode cX7_readWho 38 = .ok (.invokevirtual 60, 3) := by decide +kernel
theorem dX7_readWho_41 : decode cX7_readWho 41 = .ok (.return_, 1) := by decide +kernel
theorem dX7_expect_0 : decode cX7_expect 0 = .ok (.aload_n 0, 1) := by decide +kernel
theorem dX7_expect_1 : decode cX7_expect 1 = .ok (.getfield 24, 3) := by decide +kernel
theorem dX7_expect_4 : decode cX7_expect 4 = .ok (.getfield 41, 3) := by decide +kernel
theorem dX7_expect_7 : decode cX7_expect 7 = .ok (.iload_n 1, 1) := by decide +kernel
theorem dX7_expect_8 : decode cX7_expect 8 = .ok (.if_icmp .eq 11, 3) := by decide +kernel
theorem dX7_expect_11 : decode cX7_expect 11 = .ok (.aload_n 0, 1) := by decide +kernel
theorem dX7_expect_12 : decode cX7_expect 12 = .ok (.iconst 1, 1) := by decide +kernel
theorem dX7_expect_13 : decode cX7_expect 13 = .ok (.invokevirtual 54, 3) := by decide +kernel
theorem dX7_expect_16 : decode cX7_expect 16 = .ok (.goto 17, 3) := by decide +kernel
theorem dX7_expect_19 : decode cX7_expect 19 = .ok (.aload_n 0, 1) := by decide +kernel
theorem dX7_expect_20 : decode cX7_expect 20 = .ok (.getfield 35, 3) := by decide +kernel
theorem dX7_expect_23 : decode cX7_expect 23 = .ok (.ifCond .ne 10, 3) := by decide +kernel
theorem dX7_expect_26 : decode cX7_expect 26 = .ok (.aload_n 0, 1) := by decide +kernel
theorem dX7_expect_27 : decode cX7_expect 27 = .ok (.getfield 24, 3) := by decide +kernel
theorem dX7_expect_30 : decode cX7_expect 30 = .ok (.invokevirtual 60, 3) := by decide +kernel
theorem dX7_expect_33 : decode cX7_expect 33 = .ok (.return_, 1) := by decide +kernel
theorem dX7_readExpression_0 : decode cX7_readExpression 0 = .ok (.aload_n 0, 1) := by decide +kernel
theorem dX7_readExpression_1 : decode cX7_readExpression 1 = .ok (.iconst 0, 1) := by decide +kernel
theorem dX7_readExpression_2 : decode cX7_readExpression 2 = .ok (.putfield 96, 3) := by decide +kernel
theorem dX7_readExpression_5 : decode cX7_readExpression 5 = .ok (.aload_n 0, 1) := by decide +kernel
theorem dX7_readExpression_6 : decode cX7_readExpression 6 = .ok (.iconst 0, 1) := by decide +kernel
theorem dX7_readExpression_7 : decode cX7_readExpression 7 = .ok (.putfield 99, 3) := by decide +kernel
theorem dX7_readExpression_10 : decode cX7_readExpression 10 = .ok (.iconst 1, 1) := by decide +kernel
theorem dX7_readExpression_11 : decode cX7_readExpression 11 = .ok (.istore_n 1, 1) := by decide +kernel
theorem dX7_readExpression_12 : decode cX7_readExpression 12 = .ok (.iconst 0, 1) := by decide +kernel
theorem dX7_readExpression_13 : decode cX7_readExpression 13 = .ok (.istore_n 2, 1) := by decide +kernel
theorem dX7_readExpression_14 : decode cX7_readExpression 14 = .ok (.iload_n 2, 1) := by decide +kernel
theorem dX7_readExpression_15 : decode cX7_readExpression 15 = .ok (.sipush 1000, 3) := by decide +kernel
theorem dX7_readExpression_18 : decode cX7_readExpression 18 = .ok (.if_icmp .gt 73, 3) := by decide +kernel
theorem dX7_readExpression_21 : decode cX7_readExpression 21 = .ok (.aload_n 0, 1) := by decide +kernel
theorem dX7_readExpression_22 : decode cX7_readExpression 22 = .ok (.getfield 35, 3) := by decide +kernel
theorem dX7_readExpression_25 : decode cX7_readExpression 25 = .ok (.ifCond .ne 66, 3) := by decide +kernel
theorem dX7_readExpression_28 : decode cX7_readExpression 28 = .ok (.iload_n 1, 1) := by decide +kernel
theorem dX7_readExpression_29 : decode cX7_readExpression 29 = .ok (.ifCond .eq 11, 3) := by decide +kernel
theorem dX7_readExpression_32 : decode cX7_readExpression 32 = .ok (.aload_n 0, 1) := by decide +kernel
theorem dX7_readExpression_33 : decode cX7_readExpression 33 = .ok (.invokevirtual 102, 3) := by decide +kernel
theorem dX7_readExpression_36 : decode cX7_readExpression 36 = .ok (.istore_n 1, 1) := by decide +kernel
theorem dX7_readExpression_37 : decode cX7_readExpression 37 = .ok (.goto 48, 3) := by decide +kernel
theorem dX7_readExpression_40 : decode cX7_readExpression 40 = .ok (.aload_n 0, 1) := by decide +kernel
theorem dX7_readExpression_41 : decode cX7_readExpression 41 = .ok (.getfield 24, 3) := by decide +kernel
theorem dX7_readExpression_44 : decode cX7_readExpression 44 = .ok (.getfield 41, 3) := by decide +kernel
theorem dX7_readExpression_47 : decode cX7_readExpression 47 = .ok (.bipush 41, 2) := by decide +kernel
theorem dX7_readExpression_49 : decode cX7_readExpression 49 = .ok (.if_icmp .ne 17, 3) := by decide +kernel
theorem dX7_readExpression_52 : decode cX7_readExpression 52 = .ok (.aload_n 0, 1) := by decide +kernel
theorem dX7_readExpression_53 : decode cX7_readExpression 53 = .ok (.getfield 99, 3) := by decide +kernel
theorem dX7_readExpression_56 : decode cX7_readExpression 56 = .ok (.ifCond .le 10, 3) := by decide +kernel
theorem dX7_readExpression_59 : decode cX7_readExpression 59 = .ok (.aload_n 0, 1) := by decide +kernel
theorem dX7_readExpression_60 : decode cX7_readExpression 60 = .ok (.invokevirtual 106, 3) := by decide +kernel
theorem dX7_readExpression_63 : decode cX7_readExpression 63 = .ok (.goto 22, 3) := by decide +kernel
theorem dX7_readExpression_66 : decode cX7_readExpression 66 = .ok (.aload_n 0, 1) := by decide +kernel
theorem dX7_readExpression_67 : decode cX7_readExpression 67 = .ok (.getfield 24, 3) := by decide +kernel
theorem dX7_readExpression_70 : decode cX7_readExpression 70 = .ok (.getfield 41, 3) := by decide +kernel
theorem dX7_readExpression_73 : decode cX7_readExpression 73 = .ok (.invokestatic 109, 3) := by decide +kernel
theorem dX7_readExpression_76 : decode cX7_readExpression 76 = .ok (.ifCond .le 15, 3) := by decide +kernel
theorem dX7_readExpression_79 : decode cX7_readExpression 79 = .ok (.aload_n 0, 1) := by decide +kernel
theorem dX7_readExpression_80 : decode cX7_readExpression 80 = .ok (.invokevirtual 113, 3) := by decide +kernel
theorem dX7_readExpression_83 : decode cX7_readExpression 83 = .ok (.iconst 1, 1) := by decide +kernel
theorem dX7_readExpression_84 : decode cX7_readExpression 84 = .ok (.istore_n 1, 1) := by decide +kernel
theorem dX7_readExpression_85 : decode cX7_readExpression 85 = .ok (.iinc 2 1, 3) := by decide +kernel
theorem dX7_readExpression_88 : decode cX7_readExpression 88 = .ok (.goto (-74), 3) := by decide +kernel
theorem dX7_readExpression_91 : decode cX7_readExpression 91 = .ok (.aload_n 0, 1) := by decide +kernel
theorem dX7_readExpression_92 : decode cX7_readExpression 92 = .ok (.getfield 99, 3) := by decide +kernel
theorem dX7_readExpression_95 : decode cX7_readExpression 95 = .ok (.ifCond .le 8, 3) := by decide +kernel
theorem dX7_readExpression_98 : decode cX7_readExpression 98 = .ok (.aload_n 0, 1) := by decide +kernel
theorem dX7_readExpression_99 : decode cX7_readExpression 99 = .ok (.iconst 1, 1) := by decide +kernel
theorem dX7_readExpression_100 : decode cX7_readExpression 100 = .ok (.invokevirtual 54, 3) := by decide +kernel
theorem dX7_readExpression_103 : decode cX7_readExpression 103 = .ok (.aload_n 0, 1) := by decide +kernel
theorem dX7_readExpression_104 : decode cX7_readExpression 104 = .ok (.iconst 1, 1) := by decide +kernel
theorem dX7_readExpression_105 : decode cX7_readExpression 105 = .ok (.invokevirtual 116, 3) := by decide +kernel
theorem dX7_readExpression_108 : decode cX7_readExpression 108 = .ok (.return_, 1) := by decide +kernel
theorem dX7_readPart_0 : decode cX7_readPart 0 = .ok (.aload_n 0, 1) := by decide +kernel
theorem dX7_readPart_1 : decode cX7_readPart 1 = .ok (.getfield 24, 3) := by decide +kernel
theorem dX7_readPart_4 : decode cX7_readPart 4 = .ok (.getfield 41, 3) := by decide +kernel
theorem dX7_readPart_7 : decode cX7_readPart 7 = .ok (.istore_n 1, 1) := by decide +kernel
theorem dX7_readPart_8 : decode cX7_readPart 8 = .ok (.iload_n 1, 1) := by decide +kernel
theorem dX7_readPart_9 : decode cX7_readPart 9 = .ok (.bipush 9, 2) := by decide +kernel
theorem dX7_readPart_11 : decode cX7_readPart 11 = .ok (.if_icmp .eq 9, 3) := by decide +kernel
theorem dX7_readPart_14 : decode cX7_readPart 14 = .ok (.iload_n 1, 1) := by decide +kernel
theorem dX7_readPart_15 : decode cX7_readPart 15 = .ok (.bipush 40, 2) := by decide +kernel
theorem dX7_readPart_17 : decode cX7_readPart 17 = .ok (.if_icmp .ne 7, 3) := by decide +kernel
theorem dX7_readPart_20 : decode cX7_readPart 20 = .ok (.iconst 1, 1) := by decide +kernel
theorem dX7_readPart_21 : decode cX7_readPart 21 = .ok (.goto 4, 3) := by decide +kernel
theorem dX7_readPart_24 : decode cX7_readPart 24 = .ok (.iconst 0, 1) := by decide +kernel
theorem dX7_readPart_25 : decode cX7_readPart 25 = .ok (.istore_n 2, 1) := by decide +kernel
theorem dX7_readPart_26 : decode cX7_readPart 26 = .ok (.iload_n 1, 1) := by decide +kernel
theorem dX7_readPart_27 : decode cX7_readPart 27 = .ok (.sipush 200, 3) := by decide +kernel
theorem dX7_readPart_30 : decode cX7_readPart 30 = .ok (.if_icmp .ne 17, 3) := by decide +kernel
theorem dX7_readPart_33 : decode cX7_readPart 33 = .ok (.aload_n 0, 1) := by decide +kernel
theorem dX7_readPart_34 : decode cX7_readPart 34 = .ok (.aload_n 0, 1) := by decide +kernel
theorem dX7_readPart_35 : decode cX7_readPart 35 = .ok (.getfield 24, 3) := by decide +kernel
theorem dX7_readPart_38 : decode cX7_readPart 38 = .ok (.getfield 81, 3) := by decide +kernel
theorem dX7_readPart_41 : decode cX7_readPart 41 = .ok (.invokevirtual 85, 3) := by decide +kernel
theorem dX7_readPart_44 : decode cX7_readPart 44 = .ok (.goto 4, 3) := by decide +kernel
theorem dX7_readPart_47 : decode cX7_readPart 47 = .ok (.iconst (-1), 1) := by decide +kernel
theorem dX7_readPart_48 : decode cX7_readPart 48 = .ok (.istore_n 3, 1) := by decide +kernel
theorem dX7_readPart_49 : decode cX7_readPart 49 = .ok (.iload_n 1, 1) := by decide +kernel
theorem dX7_readPart_50 : decode cX7_readPart 50 = .ok (.bipush 10, 2) := by decide +kernel
theorem dX7_readPart_52 : decode cX7_readPart 52 = .ok (.bipush 20, 2) := by decide +kernel
theorem dX7_readPart_54 : decode cX7_readPart 54 = .ok (.invokestatic 92, 3) := by decide +kernel
theorem dX7_readPart_57 : decode cX7_readPart 57 = .ok (.ifCond .ne 17, 3) := by decide +kernel
theorem dX7_readPart_60 : decode cX7_readPart 60 = .ok (.iload_n 1, 1) := by decide +kernel
theorem dX7_readPart_61 : decode cX7_readPart 61 = .ok (.sipush 200, 3) := by decide +kernel
theorem dX7_readPart_64 : decode cX7_readPart 64 = .ok (.if_icmp .eq 10, 3) := by decide +kernel
theorem dX7_readPart_67 : decode cX7_readPart 67 = .ok (.iload_n 1, 1) := by decide +kernel
theorem dX7_readPart_68 : decode cX7_readPart 68 = .ok (.sipush 201, 3) := by decide +kernel
theorem dX7_readPart_71 : decode cX7_readPart 71 = .ok (.if_icmp .ne 7, 3) := by decide +kernel
theorem dX7_readPart_74 : decode cX7_readPart 74 = .ok (.iconst 1, 1) := by decide +kernel
theorem dX7_readPart_75 : decode cX7_readPart 75 = .ok (.goto 4, 3) := by decide +kernel
theorem dX7_readPart_78 : decode cX7_readPart 78 = .ok (.iconst 0, 1) := by decide +kernel
theorem dX7_readPart_79 : decode cX7_readPart 79 = .ok (.istore 4, 2) := by decide +kernel
theorem dX7_readPart_81 : decode cX7_readPart 81 = .ok (.iload_n 2, 1) := by decide +kernel
theorem dX7_readPart_82 : decode cX7_readPart 82 = .ok (.ifCond .ne 16, 3) := by decide +kernel
theorem dX7_readPart_85 : decode cX7_readPart 85 = .ok (.iload 4, 2) := by decide +kernel
theorem dX7_readPart_87 : decode cX7_readPart 87 = .ok (.ifCond .ne 11, 3) := by decide +kernel
theorem dX7_readPart_90 : decode cX7_readPart 90 = .ok (.aload_n 0, 1) := by decide +kernel
theorem dX7_readPart_91 : decode cX7_readPart 91 = .ok (.iconst 1, 1) := by decide +kernel
theorem dX7_readPart_92 : decode cX7_readPart 92 = .ok (.invokevirtual 54, 3) := by decide +kernel
theorem dX7_readPart_95 : decode cX7_readPart 95 = .ok (.goto 120, 3) := by decide +kernel
theorem dX7_readPart_98 : decode cX7_readPart 98 = .ok (.iload_n 1, 1) := by decide +kernel
theorem dX7_readPart_99 : decode cX7_readPart 99 = .ok (.sipush 200, 3) := by decide +kernel
theorem dX7_readPart_102 : decode cX7_readPart 102 = .ok (.if_icmp .ne 16, 3) := by decide +kernel
theorem dX7_readPart_105 : decode cX7_readPart 105 = .ok (.iload_n 3, 1) := by decide +kernel
theorem dX7_readPart_106 : decode cX7_readPart 106 = .ok (.iconst (-1), 1) := by decide +kernel
theorem dX7_readPart_107 : decode cX7_readPart 107 = .ok (.if_icmp .ne 11, 3) := by decide +kernel
theorem dX7_readPart_110 : decode cX7_readPart 110 = .ok (.aload_n 0, 1) := by decide +kernel
theorem dX7_readPart_111 : decode cX7_readPart 111 = .ok (.iconst 2, 1) := by decide +kernel
theorem dX7_readPart_112 : decode cX7_readPart 112 = .ok (.invokevirtual 54, 3) := by decide +kernel
theorem dX7_readPart_115 : decode cX7_readPart 115 = .ok (.goto 100, 3) := by decide +kernel
theorem dX7_readPart_118 : decode cX7_readPart 118 = .ok (.aload_n 0, 1) := by decide +kernel
theorem dX7_readPart_119 : decode cX7_readPart 119 = .ok (.getfield 99, 3) := by decide +kernel
theorem dX7_readPart_122 : decode cX7_readPart 122 = .ok (.iconst 4, 1) := by decide +kernel
theorem dX7_readPart_123 : decode cX7_readPart 123 = .ok (.if_icmp .lt 11, 3) := by decide +kernel
theorem dX7_readPart_126 : decode cX7_readPart 126 = .ok (.aload_n 0, 1) := by decide +kernel
theorem dX7_readPart_127 : decode cX7_readPart 127 = .ok (.iconst 5, 1) := by decide +kernel
theorem dX7_readPart_128 : decode cX7_readPart 128 = .ok (.invokevirtual 54, 3) := by decide +kernel
theorem dX7_readPart_131 : decode cX7_readPart 131 = .ok (.goto 84, 3) := by decide +kernel
theorem dX7_readPart_134 : decode cX7_readPart 134 = .ok (.iload_n 2, 1) := by decide +kernel
theorem dX7_readPart_135 : decode cX7_readPart 135 = .ok (.ifCond .eq 28, 3) := by decide +kernel
theorem dX7_readPart_138 : decode cX7_readPart 138 = .ok (.aload_n 0, 1) := by decide +kernel
theorem dX7_readPart_139 : decode cX7_readPart 139 = .ok (.iload_n 1, 1) := by decide +kernel
theorem dX7_readPart_140 : decode cX7_readPart 140 = .ok (.invokevirtual 119, 3) := by decide +kernel
theorem dX7_readPart_143 : decode cX7_readPart 143 = .ok (.aload_n 0, 1) := by decide +kernel
theorem dX7_readPart_144 : decode cX7_readPart 144 = .ok (.dup, 1) := by decide +kernel
theorem dX7_readPart_145 : decode cX7_readPart 145 = .ok (.getfield 99, 3) := by decide +kernel
theorem dX7_readPart_148 : decode cX7_readPart 148 = .ok (.iconst 1, 1) := by decide +kernel
theorem dX7_readPart_149 : decode cX7_readPart 149 = .ok (.iadd, 1) := by decide +kernel
theorem dX7_readPart_150 : decode cX7_readPart 150 = .ok (.putfield 99, 3) := by decide +kernel
theorem dX7_readPart_153 : decode cX7_readPart 153 = .ok (.aload_n 0, 1) := by decide +kernel
theorem dX7_readPart_154 : decode cX7_readPart 154 = .ok (.getfield 24, 3) := by decide +kernel
theorem dX7_readPart_157 : decode cX7_readPart 157 = .ok (.invokevirtual 60, 3) := by decide +kernel
theorem dX7_readPart_160 : decode cX7_readPart 160 = .ok (.goto 55, 3) := by decide +kernel
theorem dX7_readPart_163 : decode cX7_readPart 163 = .ok (.aload_n 0, 1) := by decide +kernel
theorem dX7_readPart_164 : decode cX7_readPart 164 = .ok (.iload_n 1, 1) := by decide +kernel
theorem dX7_readPart_165 : decode cX7_readPart 165 = .ok (.sipush 201, 3) := by decide +kernel
theorem dX7_readPart_168 : decode cX7_readPart 168 = .ok (.if_icmp .ne 13, 3) := by decide +kernel
theorem dX7_readPart_171 : decode cX7_readPart 171 = .ok (.aload_n 0, 1) := by decide +kernel
theorem dX7_readPart_172 : decode cX7_readPart 172 = .ok (.getfield 24, 3) := by decide +kernel
theorem dX7_readPart_175 : decode cX7_readPart 175 = .ok (.getfield 89, 3) := by decide +kernel
theorem dX7_readPart_178 : decode cX7_readPart 178 = .ok (.goto 23, 3) := by decide +kernel
theorem dX7_readPart_181 : decode cX7_readPart 181 = .ok (.iload_n 1, 1) := by decide +kernel
theorem dX7_readPart_182 : decode cX7_readPart 182 = .ok (.sipush 200, 3) := by decide +kernel
theorem dX7_readPart_185 : decode cX7_readPart 185 = .ok (.if_icmp .ne 11, 3) := by decide +kernel
theorem dX7_readPart_188 : decode cX7_readPart 188 = .ok (.sipush 20000, 3) := by decide +kernel
theorem dX7_readPart_191 : decode cX7_readPart 191 = .ok (.iload_n 3, 1) := by decide +kernel
theorem dX7_readPart_192 : decode cX7_readPart 192 = .ok (.iadd, 1) := by decide +kernel
theorem dX7_readPart_193 : decode cX7_readPart 193 = .ok (.goto 8, 3) := by decide +kernel
theorem dX7_readPart_196 : decode cX7_readPart 196 = .ok (.sipush 10000, 3) := by decide +kernel
theorem dX7_readPart_199 : decode cX7_readPart 199 = .ok (.iload_n 1, 1) := by decide +kernel
theorem dX7_readPart_200 : decode cX7_readPart 200 = .ok (.iadd, 1) := by decide +kernel
theorem dX7_readPart_201 : decode cX7_readPart 201 = .ok (.invokevirtual 57, 3) := by decide +kernel
theorem dX7_readPart_204 : decode cX7_readPart 204 = .ok (.aload_n 0, 1) := by decide +kernel
theorem dX7_readPart_205 : decode cX7_readPart 205 = .ok (.invokevirtual 122, 3) := by decide +kernel
theorem dX7_readPart_208 : decode cX7_readPart 208 = .ok (.aload_n 0, 1) := by decide +kernel
theorem dX7_readPart_209 : decode cX7_readPart 209 = .ok (.getfield 24, 3) := by decide +kernel
theorem dX7_readPart_212 : decode cX7_readPart 212 = .ok (.invokevirtual 60, 3) := by decide +kernel
theorem dX7_readPart_215 : decode cX7_readPart 215 = .ok (.iload_n 2, 1) := by decide +kernel
theorem dX7_readPart_216 : decode cX7_readPart 216 = .ok (.ireturn, 1) := by decide +kernel
theorem dX7_writeNots_0 : decode cX7_writeNots 0 = .ok (.iconst 0, 1) := by decide +kernel
theorem dX7_writeNots_1 : decode cX7_writeNots 1 = .ok (.istore_n 1, 1) := by decide +kernel
theorem dX7_writeNots_2 : decode cX7_writeNots 2 = .ok (.iload_n 1, 1) := by decide +kernel
theorem dX7_writeNots_3 : decode cX7_writeNots 3 = .ok (.iconst 4, 1) := by decide +kernel
theorem dX7_writeNots_4 : decode cX7_writeNots 4 = .ok (.if_icmp .ge 45, 3) := by decide +kernel
theorem dX7_writeNots_7 : decode cX7_writeNots 7 = .ok (.aload_n 0, 1) := by decide +kernel
theorem dX7_writeNots_8 : decode cX7_writeNots 8 = .ok (.invokevirtual 125, 3) := by decide +kernel
theorem dX7_writeNots_11 : decode cX7_writeNots 11 = .ok (.bipush 9, 2) := by decide +kernel
theorem dX7_writeNots_13 : decode cX7_writeNots 13 = .ok (.if_icmp .ne 36, 3) := by decide +kernel
theorem dX7_writeNots_16 : decode cX7_writeNots 16 = .ok (.aload_n 0, 1) := by decide +kernel
theorem dX7_writeNots_17 : decode cX7_writeNots 17 = .ok (.sipush 30009, 3) := by decide +kernel
theorem dX7_writeNots_20 : decode cX7_writeNots 20 = .ok (.invokevirtual 57, 3) := by decide +kernel
theorem dX7_writeNots_23 : decode cX7_writeNots 23 = .ok (.aload_n 0, 1) := by decide +kernel
theorem dX7_writeNots_24 : decode cX7_writeNots 24 = .ok (.dup, 1) := by decide +kernel
theorem dX7_writeNots_25 : decode cX7_writeNots 25 = .ok (.getfield 96, 3) := by decide +kernel
theorem dX7_writeNots_28 : decode cX7_writeNots 28 = .ok (.iconst 1, 1) := by decide +kernel
theorem dX7_writeNots_29 : decode cX7_writeNots 29 = .ok (.isub, 1) := by decide +kernel
theorem dX7_writeNots_30 : decode cX7_writeNots 30 = .ok (.putfield 96, 3) := by decide +kernel
theorem dX7_writeNots_33 : decode cX7_writeNots 33 = .ok (.aload_n 0, 1) := by decide +kernel
theorem dX7_writeNots_34 : decode cX7_writeNots 34 = .ok (.dup, 1) := by decide +kernel
theorem dX7_writeNots_35 : decode cX7_writeNots 35 = .ok (.getfield 99, 3) := by decide +kernel
theorem dX7_writeNots_38 : decode cX7_writeNots 38 = .ok (.iconst 1, 1) := by decide +kernel
theorem dX7_writeNots_39 : decode cX7_writeNots 39 = .ok (.isub, 1) := by decide +kernel
theorem dX7_writeNots_40 : decode cX7_writeNots 40 = .ok (.putfield 99, 3) := by decide +kernel
theorem dX7_writeNots_43 : decode cX7_writeNots 43 = .ok (.iinc 1 1, 3) := by decide +kernel
theorem dX7_writeNots_46 : decode cX7_writeNots 46 = .ok (.goto (-44), 3) := by decide +kernel
theorem dX7_writeNots_49 : decode cX7_writeNots 49 = .ok (.return_, 1) := by decide +kernel
theorem dX7_closeBracket_0 : decode cX7_closeBracket 0 = .ok (.aload_n 0, 1) := by decide +kernel
theorem dX7_closeBracket_1 : decode cX7_closeBracket 1 = .ok (.iconst 1, 1) := by decide +kernel
theorem dX7_closeBracket_2 : decode cX7_closeBracket 2 = .ok (.invokevirtual 116, 3) := by decide +kernel
theorem dX7_closeBracket_5 : decode cX7_closeBracket 5 = .ok (.aload_n 0, 1) := by decide +kernel
theorem dX7_closeBracket_6 : decode cX7_closeBracket 6 = .ok (.invokevirtual 125, 3) := by decide +kernel
theorem dX7_closeBracket_9 : decode cX7_closeBracket 9 = .ok (.bipush 40, 2) := by decide +kernel
theorem dX7_closeBracket_11 : decode cX7_closeBracket 11 = .ok (.if_icmp .ne 23, 3) := by decide +kernel
theorem dX7_closeBracket_14 : decode cX7_closeBracket 14 = .ok (.aload_n 0, 1) := by decide +kernel
theorem dX7_closeBracket_15 : decode cX7_closeBracket 15 = .ok (.dup, 1) := by decide +kernel
theorem dX7_closeBracket_16 : decode cX7_closeBracket 16 = .ok (.getfield 96, 3) := by decide +kernel
theorem dX7_closeBracket_19 : decode cX7_closeBracket 19 = .ok (.iconst 1, 1) := by decide +kernel
theorem dX7_closeBracket_20 : decode cX7_closeBracket 20 = .ok (.isub, 1) := by decide +kernel
theorem dX7_closeBracket_21 : decode cX7_closeBracket 21 = .ok (.putfield 96, 3) := by decide +kernel
theorem dX7_closeBracket_24 : decode cX7_closeBracket 24 = .ok (.aload_n 0, 1) := by decide +kernel
theorem dX7_closeBracket_25 : decode cX7_closeBracket 25 = .ok (.dup, 1) := by decide +kernel
theorem dX7_closeBracket_26 : decode cX7_closeBracket 26 = .ok (.getfield 99, 3) := by decide +kernel
theorem dX7_closeBracket_29 : decode cX7_closeBracket 29 = .ok (.iconst 1, 1) := by decide +kernel
theorem dX7_closeBracket_30 : decode cX7_closeBracket 30 = .ok (.isub, 1) := by decide +kernel
theorem dX7_closeBracket_31 : decode cX7_closeBracket 31 = .ok (.putfield 99, 3) := by decide +kernel
theorem dX7_closeBracket_34 : decode cX7_closeBracket 34 = .ok (.aload_n 0, 1) := by decide +kernel
theorem dX7_closeBracket_35 : decode cX7_closeBracket 35 = .ok (.invokevirtual 122, 3) := by decide +kernel
theorem dX7_closeBracket_38 : decode cX7_closeBracket 38 = .ok (.aload_n 0, 1) := by decide +kernel
theorem dX7_closeBracket_39 : decode cX7_closeBracket 39 = .ok (.getfield 24, 3) := by decide +kernel
theorem dX7_closeBracket_42 : decode cX7_closeBracket 42 = .ok (.invokevirtual 60, 3) := by decide +kernel
theorem dX7_closeBracket_45 : decode cX7_closeBracket 45 = .ok (.return_, 1) := by decide +kernel
theorem dX7_readOperator_0 : decode cX7_readOperator 0 = .ok (.aload_n 0, 1) := by decide +kernel
theorem dX7_readOperator_1 : decode cX7_readOperator 1 = .ok (.getfield 24, 3) := by decide +kernel
theorem dX7_readOperator_4 : decode cX7_readOperator 4 = .ok (.getfield 41, 3) := by decide +kernel
theorem dX7_readOperator_7 : decode cX7_readOperator 7 = .ok (.istore_n 1, 1) := by decide +kernel
theorem dX7_readOperator_8 : decode cX7_readOperator 8 = .ok (.iload_n 1, 1) := by decide +kernel
theorem dX7_readOperator_9 : decode cX7_readOperator 9 = .ok (.invokestatic 109, 3) := by decide +kernel
theorem dX7_readOperator_12 : decode cX7_readOperator 12 = .ok (.istore_n 2, 1) := by decide +kernel
theorem dX7_readOperator_13 : decode cX7_readOperator 13 = .ok (.aload_n 0, 1) := by decide +kernel
theorem dX7_readOperator_14 : decode cX7_readOperator 14 = .ok (.iload_n 2, 1) := by decide +kernel
theorem dX7_readOperator_15 : decode cX7_readOperator 15 = .ok (.iconst 1, 1) := by decide +kernel
theorem dX7_readOperator_16 : decode cX7_readOperator 16 = .ok (.iadd, 1) := by decide +kernel
theorem dX7_readOperator_17 : decode cX7_readOperator 17 = .ok (.invokevirtual 116, 3) := by decide +kernel
theorem dX7_readOperator_20 : decode cX7_readOperator 20 = .ok (.iload_n 2, 1) := by decide +kernel
theorem dX7_readOperator_21 : decode cX7_readOperator 21 = .ok (.iconst 2, 1) := by decide +kernel
