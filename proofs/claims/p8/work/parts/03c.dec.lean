theorem dX11_fell_37 : decode cX11_fell 37 = .ok (.aload_n 0, 1) := by decide +kernel
theorem dX11_fell_38 : decode cX11_fell 38 = .ok (.getfield 67, 3) := by decide +kernel
theorem dX11_fell_41 : decode cX11_fell 41 = .ok (.iload_n 1, 1) := by decide +kernel
theorem dX11_fell_42 : decode cX11_fell 42 = .ok (.iload_n 2, 1) := by decide +kernel
theorem dX11_fell_43 : decode cX11_fell 43 = .ok (.iload_n 3, 1) := by decide +kernel
theorem dX11_fell_44 : decode cX11_fell 44 = .ok (.invokevirtual 278, 3) := by decide +kernel
theorem dX11_fell_47 : decode cX11_fell 47 = .ok (.ireturn, 1) := by decide +kernel
theorem dX11_street_0 : decode cX11_street 0 = .ok (.iload_n 2, 1) := by decide +kernel
theorem dX11_street_1 : decode cX11_street 1 = .ok (.iconst 0, 1) := by decide +kernel
theorem dX11_street_2 : decode cX11_street 2 = .ok (.bipush 7, 2) := by decide +kernel
theorem dX11_street_4 : decode cX11_street 4 = .ok (.invokestatic 82, 3) := by decide +kernel
theorem dX11_street_7 : decode cX11_street 7 = .ok (.ifCond .eq 22, 3) := by decide +kernel
theorem dX11_street_10 : decode cX11_street 10 = .ok (.iload_n 3, 1) := by decide +kernel
theorem dX11_street_11 : decode cX11_street 11 = .ok (.iconst 0, 1) := by decide +kernel
theorem dX11_street_12 : decode cX11_street 12 = .ok (.bipush 7, 2) := by decide +kernel
theorem dX11_street_14 : decode cX11_street 14 = .ok (.invokestatic 82, 3) := by decide +kernel
theorem dX11_street_17 : decode cX11_street 17 = .ok (.ifCond .eq 12, 3) := by decide +kernel
theorem dX11_street_20 : decode cX11_street 20 = .ok (.iload_n 2, 1) := by decide +kernel
theorem dX11_street_21 : decode cX11_street 21 = .ok (.iload_n 3, 1) := by decide +kernel
theorem dX11_street_22 : decode cX11_street 22 = .ok (.if_icmp .eq 7, 3) := by decide +kernel
theorem dX11_street_25 : decode cX11_street 25 = .ok (.iconst 1, 1) := by decide +kernel
theorem dX11_street_26 : decode cX11_street 26 = .ok (.goto 4, 3) := by decide +kernel
theorem dX11_street_29 : decode cX11_street 29 = .ok (.iconst 0, 1) := by decide +kernel
theorem dX11_street_30 : decode cX11_street 30 = .ok (.istore 7, 2) := by decide +kernel
theorem dX11_street_32 : decode cX11_street 32 = .ok (.iload 4, 2) := by decide +kernel
theorem dX11_street_34 : decode cX11_street 34 = .ok (.iconst 0, 1) := by decide +kernel
theorem dX11_street_35 : decode cX11_street 35 = .ok (.sipush 999, 3) := by decide +kernel
theorem dX11_street_38 : decode cX11_street 38 = .ok (.invokestatic 82, 3) := by decide +kernel
theorem dX11_street_41 : decode cX11_street 41 = .ok (.ifCond .eq 31, 3) := by decide +kernel
theorem dX11_street_44 : decode cX11_street 44 = .ok (.iload 5, 2) := by decide +kernel
theorem dX11_street_46 : decode cX11_street 46 = .ok (.iconst 0, 1) := by decide +kernel
theorem dX11_street_47 : decode cX11_street 47 = .ok (.sipush 999, 3) := by decide +kernel
theorem dX11_street_50 : decode cX11_street 50 = .ok (.invokestatic 82, 3) := by decide +kernel
theorem dX11_street_53 : decode cX11_street 53 = .ok (.ifCond .eq 19, 3) := by decide +kernel
theorem dX11_street_56 : decode cX11_street 56 = .ok (.iload 6, 2) := by decide +kernel
theorem dX11_street_58 : decode cX11_street 58 = .ok (.iconst 0, 1) := by decide +kernel
theorem dX11_street_59 : decode cX11_street 59 = .ok (.sipush 999, 3) := by decide +kernel
theorem dX11_street_62 : decode cX11_street 62 = .ok (.invokestatic 82, 3) := by decide +kernel
theorem dX11_street_65 : decode cX11_street 65 = .ok (.ifCond .eq 7, 3) := by decide +kernel
theorem dX11_street_68 : decode cX11_street 68 = .ok (.iconst 1, 1) := by decide +kernel
theorem dX11_street_69 : decode cX11_street 69 = .ok (.goto 4, 3) := by decide +kernel
theorem dX11_street_72 : decode cX11_street 72 = .ok (.iconst 0, 1) := by decide +kernel
theorem dX11_street_73 : decode cX11_street 73 = .ok (.istore 8, 2) := by decide +kernel
theorem dX11_street_75 : decode cX11_street 75 = .ok (.iload_n 1, 1) := by decide +kernel
theorem dX11_street_76 : decode cX11_street 76 = .ok (.iconst 0, 1) := by decide +kernel
theorem dX11_street_77 : decode cX11_street 77 = .ok (.bipush 7, 2) := by decide +kernel
theorem dX11_street_79 : decode cX11_street 79 = .ok (.invokestatic 82, 3) := by decide +kernel
theorem dX11_street_82 : decode cX11_street 82 = .ok (.ifCond .eq 13, 3) := by decide +kernel
theorem dX11_street_85 : decode cX11_street 85 = .ok (.iload 7, 2) := by decide +kernel
theorem dX11_street_87 : decode cX11_street 87 = .ok (.ifCond .eq 8, 3) := by decide +kernel
theorem dX11_street_90 : decode cX11_street 90 = .ok (.iload 8, 2) := by decide +kernel
theorem dX11_street_92 : decode cX11_street 92 = .ok (.ifCond .ne 5, 3) := by decide +kernel
theorem dX11_street_95 : decode cX11_street 95 = .ok (.iconst 0, 1) := by decide +kernel
theorem dX11_street_96 : decode cX11_street 96 = .ok (.ireturn, 1) := by decide +kernel
theorem dX11_street_97 : decode cX11_street 97 = .ok (.aload_n 0, 1) := by decide +kernel
theorem dX11_street_98 : decode cX11_street 98 = .ok (.getfield 74, 3) := by decide +kernel
theorem dX11_street_101 : decode cX11_street 101 = .ok (.iload_n 1, 1) := by decide +kernel
theorem dX11_street_102 : decode cX11_street 102 = .ok (.iload_n 2, 1) := by decide +kernel
theorem dX11_street_103 : decode cX11_street 103 = .ok (.iload_n 3, 1) := by decide +kernel
theorem dX11_street_104 : decode cX11_street 104 = .ok (.invokevirtual 282, 3) := by decide +kernel
theorem dX11_street_107 : decode cX11_street 107 = .ok (.aload_n 0, 1) := by decide +kernel
theorem dX11_street_108 : decode cX11_street 108 = .ok (.getfield 74, 3) := by decide +kernel
theorem dX11_street_111 : decode cX11_street 111 = .ok (.iload_n 1, 1) := by decide +kernel
theorem dX11_street_112 : decode cX11_street 112 = .ok (.iload 4, 2) := by decide +kernel
theorem dX11_street_114 : decode cX11_street 114 = .ok (.iload 5, 2) := by decide +kernel
theorem dX11_street_116 : decode cX11_street 116 = .ok (.iload 6, 2) := by decide +kernel
theorem dX11_street_118 : decode cX11_street 118 = .ok (.invokevirtual 285, 3) := by decide +kernel
theorem dX11_street_121 : decode cX11_street 121 = .ok (.iconst 1, 1) := by decide +kernel
theorem dX11_street_122 : decode cX11_street 122 = .ok (.ireturn, 1) := by decide +kernel
theorem dX11_trip_0 : decode cX11_trip 0 = .ok (.iload_n 1, 1) := by decide +kernel
theorem dX11_trip_1 : decode cX11_trip 1 = .ok (.iconst 0, 1) := by decide +kernel
theorem dX11_trip_2 : decode cX11_trip 2 = .ok (.bipush 7, 2) := by decide +kernel
theorem dX11_trip_4 : decode cX11_trip 4 = .ok (.invokestatic 82, 3) := by decide +kernel
theorem dX11_trip_7 : decode cX11_trip 7 = .ok (.ifCond .eq 30, 3) := by decide +kernel
theorem dX11_trip_10 : decode cX11_trip 10 = .ok (.iload_n 2, 1) := by decide +kernel
theorem dX11_trip_11 : decode cX11_trip 11 = .ok (.iconst 0, 1) := by decide +kernel
theorem dX11_trip_12 : decode cX11_trip 12 = .ok (.bipush 7, 2) := by decide +kernel
theorem dX11_trip_14 : decode cX11_trip 14 = .ok (.invokestatic 82, 3) := by decide +kernel
theorem dX11_trip_17 : decode cX11_trip 17 = .ok (.ifCond .eq 20, 3) := by decide +kernel
theorem dX11_trip_20 : decode cX11_trip 20 = .ok (.iload_n 1, 1) := by decide +kernel
theorem dX11_trip_21 : decode cX11_trip 21 = .ok (.iload_n 2, 1) := by decide +kernel
theorem dX11_trip_22 : decode cX11_trip 22 = .ok (.if_icmp .eq 15, 3) := by decide +kernel
theorem dX11_trip_25 : decode cX11_trip 25 = .ok (.aload_n 0, 1) := by decide +kernel
theorem dX11_trip_26 : decode cX11_trip 26 = .ok (.getfield 74, 3) := by decide +kernel
theorem dX11_trip_29 : decode cX11_trip 29 = .ok (.iload_n 1, 1) := by decide +kernel
theorem dX11_trip_30 : decode cX11_trip 30 = .ok (.iload_n 2, 1) := by decide +kernel
theorem dX11_trip_31 : decode cX11_trip 31 = .ok (.invokevirtual 288, 3) := by decide +kernel
theorem dX11_trip_34 : decode cX11_trip 34 = .ok (.goto 4, 3) := by decide +kernel
theorem dX11_trip_37 : decode cX11_trip 37 = .ok (.iconst (-1), 1) := by decide +kernel
theorem dX11_trip_38 : decode cX11_trip 38 = .ok (.ireturn, 1) := by decide +kernel
theorem dX11_plan_0 : decode cX11_plan 0 = .ok (.iload_n 1, 1) := by decide +kernel
theorem dX11_plan_1 : decode cX11_plan 1 = .ok (.iconst 0, 1) := by decide +kernel
theorem dX11_plan_2 : decode cX11_plan 2 = .ok (.bipush 8, 2) := by decide +kernel
theorem dX11_plan_4 : decode cX11_plan 4 = .ok (.invokestatic 82, 3) := by decide +kernel
theorem dX11_plan_7 : decode cX11_plan 7 = .ok (.ifCond .eq 13, 3) := by decide +kernel
theorem dX11_plan_10 : decode cX11_plan 10 = .ok (.iload_n 2, 1) := by decide +kernel
theorem dX11_plan_11 : decode cX11_plan 11 = .ok (.iconst 0, 1) := by decide +kernel
theorem dX11_plan_12 : decode cX11_plan 12 = .ok (.bipush 9, 2) := by decide +kernel
theorem dX11_plan_14 : decode cX11_plan 14 = .ok (.invokestatic 82, 3) := by decide +kernel
theorem dX11_plan_17 : decode cX11_plan 17 = .ok (.ifCond .ne 5, 3) := by decide +kernel
theorem dX11_plan_20 : decode cX11_plan 20 = .ok (.iconst (-1), 1) := by decide +kernel
theorem dX11_plan_21 : decode cX11_plan 21 = .ok (.ireturn, 1) := by decide +kernel
theorem dX11_plan_22 : decode cX11_plan 22 = .ok (.aload_n 0, 1) := by decide +kernel
theorem dX11_plan_23 : decode cX11_plan 23 = .ok (.getfield 74, 3) := by decide +kernel
theorem dX11_plan_26 : decode cX11_plan 26 = .ok (.iload_n 1, 1) := by decide +kernel
theorem dX11_plan_27 : decode cX11_plan 27 = .ok (.invokevirtual 291, 3) := by decide +kernel
theorem dX11_plan_30 : decode cX11_plan 30 = .ok (.istore_n 3, 1) := by decide +kernel
theorem dX11_plan_31 : decode cX11_plan 31 = .ok (.iload_n 3, 1) := by decide +kernel
theorem dX11_plan_32 : decode cX11_plan 32 = .ok (.iconst (-1), 1) := by decide +kernel
theorem dX11_plan_33 : decode cX11_plan 33 = .ok (.if_icmp .ne 5, 3) := by decide +kernel
theorem dX11_plan_36 : decode cX11_plan 36 = .ok (.iconst (-1), 1) := by decide +kernel
theorem dX11_plan_37 : decode cX11_plan 37 = .ok (.ireturn, 1) := by decide +kernel
theorem dX11_plan_38 : decode cX11_plan 38 = .ok (.iload_n 2, 1) := by decide +kernel
theorem dX11_plan_39 : decode cX11_plan 39 = .ok (.bipush 8, 2) := by decide +kernel
theorem dX11_plan_41 : decode cX11_plan 41 = .ok (.if_icmp .ne 12, 3) := by decide +kernel
theorem dX11_plan_44 : decode cX11_plan 44 = .ok (.aload_n 0, 1) := by decide +kernel
theorem dX11_plan_45 : decode cX11_plan 45 = .ok (.getfield 74, 3) := by decide +kernel
theorem dX11_plan_48 : decode cX11_plan 48 = .ok (.iload_n 3, 1) := by decide +kernel
theorem dX11_plan_49 : decode cX11_plan 49 = .ok (.invokevirtual 294, 3) := by decide +kernel
theorem dX11_plan_52 : decode cX11_plan 52 = .ok (.ireturn, 1) := by decide +kernel
theorem dX11_plan_53 : decode cX11_plan 53 = .ok (.iload_n 2, 1) := by decide +kernel
theorem dX11_plan_54 : decode cX11_plan 54 = .ok (.bipush 9, 2) := by decide +kernel
theorem dX11_plan_56 : decode cX11_plan 56 = .ok (.if_icmp .ne 7, 3) := by decide +kernel
theorem dX11_plan_59 : decode cX11_plan 59 = .ok (.iload_n 3, 1) := by decide +kernel
theorem dX11_plan_60 : decode cX11_plan 60 = .ok (.goto 12, 3) := by decide +kernel
theorem dX11_plan_63 : decode cX11_plan 63 = .ok (.aload_n 0, 1) := by decide +kernel
theorem dX11_plan_64 : decode cX11_plan 64 = .ok (.getfield 74, 3) := by decide +kernel
theorem dX11_plan_67 : decode cX11_plan 67 = .ok (.iload_n 2, 1) := by decide +kernel
theorem dX11_plan_68 : decode cX11_plan 68 = .ok (.iload_n 3, 1) := by decide +kernel
theorem dX11_plan_69 : decode cX11_plan 69 = .ok (.invokevirtual 297, 3) := by decide +kernel
theorem dX11_plan_72 : decode cX11_plan 72 = .ok (.ireturn, 1) := by decide +kernel
theorem dX11_count_0 : decode cX11_count 0 = .ok (.iload_n 1, 1) := by decide +kernel
theorem dX11_count_1 : decode cX11_count 1 = .ok (.tableswitch 154 0 11 #[63, 68, 73, 78, 86, 94, 106, 114, 122, 130, 141, 149], 63) := by decide +kernel
theorem dX11_count_64 : decode cX11_count 64 = .ok (.aload_n 0, 1) := by decide +kernel
theorem dX11_count_65 : decode cX11_count 65 = .ok (.getfield 86, 3) := by decide +kernel
theorem dX11_count_68 : decode cX11_count 68 = .ok (.ireturn, 1) := by decide +kernel
theorem dX11_count_69 : decode cX11_count 69 = .ok (.aload_n 0, 1) := by decide +kernel
theorem dX11_count_70 : decode cX11_count 70 = .ok (.invokevirtual 189, 3) := by decide +kernel
theorem dX11_count_73 : decode cX11_count 73 = .ok (.ireturn, 1) := by decide +kernel
theorem dX11_count_74 : decode cX11_count 74 = .ok (.aload_n 0, 1) := by decide +kernel
theorem dX11_count_75 : decode cX11_count 75 = .ok (.getfield 89, 3) := by decide +kernel
theorem dX11_count_78 : decode cX11_count 78 = .ok (.ireturn, 1) := by decide +kernel
theorem dX11_count_79 : decode cX11_count 79 = .ok (.aload_n 0, 1) := by decide +kernel
theorem dX11_count_80 : decode cX11_count 80 = .ok (.getfield 39, 3) := by decide +kernel
theorem dX11_count_83 : decode cX11_count 83 = .ok (.getfield 300, 3) := by decide +kernel
theorem dX11_count_86 : decode cX11_count 86 = .ok (.ireturn, 1) := by decide +kernel
theorem dX11_count_87 : decode cX11_count 87 = .ok (.aload_n 0, 1) := by decide +kernel
theorem dX11_count_88 : decode cX11_count 88 = .ok (.getfield 46, 3) := by decide +kernel
theorem dX11_count_91 : decode cX11_count 91 = .ok (.getfield 303, 3) := by decide +kernel
theorem dX11_count_94 : decode cX11_count 94 = .ok (.ireturn, 1) := by decide +kernel
theorem dX11_count_95 : decode cX11_count 95 = .ok (.aload_n 0, 1) := by decide +kernel
theorem dX11_count_96 : decode cX11_count 96 = .ok (.getfield 46, 3) := by decide +kernel
theorem dX11_count_99 : decode cX11_count 99 = .ok (.aload_n 0, 1) := by decide +kernel
theorem dX11_count_100 : decode cX11_count 100 = .ok (.invokevirtual 189, 3) := by decide +kernel
theorem dX11_count_103 : decode cX11_count 103 = .ok (.invokevirtual 306, 3) := by decide +kernel
theorem dX11_count_106 : decode cX11_count 106 = .ok (.ireturn, 1) := by decide +kernel
theorem dX11_count_107 : decode cX11_count 107 = .ok (.aload_n 0, 1) := by decide +kernel
theorem dX11_count_108 : decode cX11_count 108 = .ok (.getfield 25, 3) := by decide +kernel
theorem dX11_count_111 : decode cX11_count 111 = .ok (.getfield 165, 3) := by decide +kernel
theorem dX11_count_114 : decode cX11_count 114 = .ok (.ireturn, 1) := by decide +kernel
theorem dX11_count_115 : decode cX11_count 115 = .ok (.aload_n 0, 1) := by decide +kernel
theorem dX11_count_116 : decode cX11_count 116 = .ok (.getfield 53, 3) := by decide +kernel
theorem dX11_count_119 : decode cX11_count 119 = .ok (.invokevirtual 309, 3) := by decide +kernel
theorem dX11_count_122 : decode cX11_count 122 = .ok (.ireturn, 1) := by decide +kernel
theorem dX11_count_123 : decode cX11_count 123 = .ok (.aload_n 0, 1) := by decide +kernel
theorem dX11_count_124 : decode cX11_count 124 = .ok (.getfield 60, 3) := by decide +kernel
theorem dX11_count_127 : decode cX11_count 127 = .ok (.getfield 261, 3) := by decide +kernel
theorem dX11_count_130 : decode cX11_count 130 = .ok (.ireturn, 1) := by decide +kernel
theorem dX11_count_131 : decode cX11_count 131 = .ok (.aload_n 0, 1) := by decide +kernel
theorem dX11_count_132 : decode cX11_count 132 = .ok (.getfield 74, 3) := by decide +kernel
theorem dX11_count_135 : decode cX11_count 135 = .ok (.getfield 312, 3) := by decide +kernel
theorem dX11_count_138 : decode cX11_count 138 = .ok (.invokestatic 315, 3) := by decide +kernel
theorem dX11_count_141 : decode cX11_count 141 = .ok (.ireturn, 1) := by decide +kernel
theorem dX11_count_142 : decode cX11_count 142 = .ok (.aload_n 0, 1) := by decide +kernel
theorem dX11_count_143 : decode cX11_count 143 = .ok (.getfield 74, 3) := by decide +kernel
theorem dX11_count_146 : decode cX11_count 146 = .ok (.getfield 320, 3) := by decide +kernel
theorem dX11_count_149 : decode cX11_count 149 = .ok (.ireturn, 1) := by decide +kernel
theorem dX11_count_150 : decode cX11_count 150 = .ok (.aload_n 0, 1) := by decide +kernel
theorem dX11_count_151 : decode cX11_count 151 = .ok (.invokevirtual 323, 3) := by decide +kernel
theorem dX11_count_154 : decode cX11_count 154 = .ok (.ireturn, 1) := by decide +kernel
theorem dX11_count_155 : decode cX11_count 155 = .ok (.iconst (-1), 1) := by decide +kernel
theorem dX11_count_156 : decode cX11_count 156 = .ok (.ireturn, 1) := by decide +kernel
theorem dX11_viewNow_0 : decode cX11_viewNow 0 = .ok (.aload_n 0, 1) := by decide +kernel
theorem dX11_viewNow_1 : decode cX11_viewNow 1 = .ok (.getfield 78, 3) := by decide +kernel
theorem dX11_viewNow_4 : decode cX11_viewNow 4 = .ok (.iconst (-1), 1) := by decide +kernel
theorem dX11_viewNow_5 : decode cX11_viewNow 5 = .ok (.if_icmp .ne 10, 3) := by decide +kernel
theorem dX11_viewNow_8 : decode cX11_viewNow 8 = .ok (.aload_n 0, 1) := by decide +kernel
theorem dX11_viewNow_9 : decode cX11_viewNow 9 = .ok (.getfield 86, 3) := by decide +kernel
theorem dX11_viewNow_12 : decode cX11_viewNow 12 = .ok (.goto 7, 3) := by decide +kernel
theorem dX11_viewNow_15 : decode cX11_viewNow 15 = .ok (.aload_n 0, 1) := by decide +kernel
theorem dX11_viewNow_16 : decode cX11_viewNow 16 = .ok (.getfield 78, 3) := by decide +kernel
theorem dX11_viewNow_19 : decode cX11_viewNow 19 = .ok (.ireturn, 1) := by decide +kernel
theorem dX11_meetingOf_0 : decode cX11_meetingOf 0 = .ok (.iload_n 1, 1) := by decide +kernel
theorem dX11_meetingOf_1 : decode cX11_meetingOf 1 = .ok (.ifCond .lt 26, 3) := by decide +kernel
theorem dX11_meetingOf_4 : decode cX11_meetingOf 4 = .ok (.iload_n 1, 1) := by decide +kernel
theorem dX11_meetingOf_5 : decode cX11_meetingOf 5 = .ok (.aload_n 0, 1) := by decide +kernel
theorem dX11_meetingOf_6 : decode cX11_meetingOf 6 = .ok (.getfield 89, 3) := by decide +kernel
theorem dX11_meetingOf_9 : decode cX11_meetingOf 9 = .ok (.if_icmp .ge 18, 3) := by decide +kernel
theorem dX11_meetingOf_12 : decode cX11_meetingOf 12 = .ok (.iload_n 1, 1) := by decide +kernel
theorem dX11_meetingOf_13 : decode cX11_meetingOf 13 = .ok (.bipush 40, 2) := by decide +kernel
theorem dX11_meetingOf_15 : decode cX11_meetingOf 15 = .ok (.if_icmp .ge 12, 3) := by decide +kernel
theorem dX11_meetingOf_18 : decode cX11_meetingOf 18 = .ok (.aload_n 0, 1) := by decide +kernel
theorem dX11_meetingOf_19 : decode cX11_meetingOf 19 = .ok (.getfield 11, 3) := by decide +kernel
theorem dX11_meetingOf_22 : decode cX11_meetingOf 22 = .ok (.iload_n 1, 1) := by decide +kernel
theorem dX11_meetingOf_23 : decode cX11_meetingOf 23 = .ok (.aaload, 1) := by decide +kernel
theorem dX11_meetingOf_24 : decode cX11_meetingOf 24 = .ok (.goto 4, 3) := by decide +kernel
theorem dX11_meetingOf_27 : decode cX11_meetingOf 27 = .ok (.aconst_null, 1) := by decide +kernel
theorem dX11_meetingOf_28 : decode cX11_meetingOf 28 = .ok (.areturn, 1) := by decide +kernel
theorem dX11_meetingsMet_0 : decode cX11_meetingsMet 0 = .ok (.iconst 0, 1) := by decide +kernel
theorem dX11_meetingsMet_1 : decode cX11_meetingsMet 1 = .ok (.istore_n 1, 1) := by decide +kernel
theorem dX11_meetingsMet_2 : decode cX11_meetingsMet 2 = .ok (.iconst 0, 1) := by decide +kernel
theorem dX11_meetingsMet_3 : decode cX11_meetingsMet 3 = .ok (.istore_n 2, 1) := by decide +kernel
theorem dX11_meetingsMet_4 : decode cX11_meetingsMet 4 = .ok (.iload_n 2, 1) := by decide +kernel
theorem dX11_meetingsMet_5 : decode cX11_meetingsMet 5 = .ok (.aload_n 0, 1) := by decide +kernel
theorem dX11_meetingsMet_6 : decode cX11_meetingsMet 6 = .ok (.getfield 89, 3) := by decide +kernel
theorem dX11_meetingsMet_9 : decode cX11_meetingsMet 9 = .ok (.if_icmp .ge 30, 3) := by decide +kernel
theorem dX11_meetingsMet_12 : decode cX11_meetingsMet 12 = .ok (.aload_n 0, 1) := by decide +kernel
theorem dX11_meetingsMet_13 : decode cX11_meetingsMet 13 = .ok (.iload_n 2, 1) := by decide +kernel
theorem dX11_meetingsMet_14 : decode cX11_meetingsMet 14 = .ok (.invokevirtual 99, 3) := by decide +kernel
theorem dX11_meetingsMet_17 : decode cX11_meetingsMet 17 = .ok (.astore_n 3, 1) := by decide +kernel
theorem dX11_meetingsMet_18 : decode cX11_meetingsMet 18 = .ok (.aload_n 3, 1) := by decide +kernel
theorem dX11_meetingsMet_19 : decode cX11_meetingsMet 19 = .ok (.ifnull 14, 3) := by decide +kernel
theorem dX11_meetingsMet_22 : decode cX11_meetingsMet 22 = .ok (.aload_n 3, 1) := by decide +kernel
theorem dX11_meetingsMet_23 : decode cX11_meetingsMet 23 = .ok (.getfield 115, 3) := by decide +kernel
theorem dX11_meetingsMet_26 : decode cX11_meetingsMet 26 = .ok (.iconst (-1), 1) := by decide +kernel
theorem dX11_meetingsMet_27 : decode cX11_meetingsMet 27 = .ok (.if_icmp .eq 6, 3) := by decide +kernel
theorem dX11_meetingsMet_30 : decode cX11_meetingsMet 30 = .ok (.iinc 1 1, 3) := by decide +kernel
theorem dX11_meetingsMet_33 : decode cX11_meetingsMet 33 = .ok (.iinc 2 1, 3) := by decide +kernel
theorem dX11_meetingsMet_36 : decode cX11_meetingsMet 36 = .ok (.goto (-32), 3) := by decide +kernel
theorem dX11_meetingsMet_39 : decode cX11_meetingsMet 39 = .ok (.iload_n 1, 1) := by decide +kernel
theorem dX11_meetingsMet_40 : decode cX11_meetingsMet 40 = .ok (.ireturn, 1) := by decide +kernel
theorem dX11_within_0 : decode cX11_within 0 = .ok (.iload_n 0, 1) := by decide +kernel
theorem dX11_within_1 : decode cX11_within 1 = .ok (.iload_n 1, 1) := by decide +kernel
theorem dX11_within_2 : decode cX11_within 2 = .ok (.if_icmp .lt 12, 3) := by decide +kernel
theorem dX11_within_5 : decode cX11_within 5 = .ok (.iload_n 0, 1) := by decide +kernel
theorem dX11_within_6 : decode cX11_within 6 = .ok (.iload_n 2, 1) := by decide +kernel
theorem dX11_within_7 : decode cX11_within 7 = .ok (.if_icmp .gt 7, 3) := by decide +kernel
theorem dX11_within_10 : decode cX11_within 10 = .ok (.iconst 1, 1) := by decide +kernel
theorem dX11_within_11 : decode cX11_within 11 = .ok (.goto 4, 3) := by decide +kernel
theorem dX11_within_14 : decode cX11_within 14 = .ok (.iconst 0, 1) := by decide +kernel
theorem dX11_within_15 : decode cX11_within 15 = .ok (.ireturn, 1) := by decide +kernel
theorem dX11_up_0 : decode cX11_up 0 = .ok (.iload_n 1, 1) := by decide +kernel
theorem dX11_up_1 : decode cX11_up 1 = .ok (.ifCond .gt 7, 3) := by decide +kernel
theorem dX11_up_4 : decode cX11_up 4 = .ok (.iconst 0, 1) := by decide +kernel
theorem dX11_up_5 : decode cX11_up 5 = .ok (.goto 10, 3) := by decide +kernel
theorem dX11_up_8 : decode cX11_up 8 = .ok (.iload_n 0, 1) := by decide +kernel
theorem dX11_up_9 : decode cX11_up 9 = .ok (.iload_n 1, 1) := by decide +kernel
theorem dX11_up_10 : decode cX11_up 10 = .ok (.iadd, 1) := by decide +kernel
theorem dX11_up_11 : decode cX11_up 11 = .ok (.iconst 1, 1) := by decide +kernel
theorem dX11_up_12 : decode cX11_up 12 = .ok (.isub, 1) := by decide +kernel
theorem dX11_up_13 : decode cX11_up 13 = .ok (.iload_n 1, 1) := by decide +kernel
theorem dX11_up_14 : decode cX11_up 14 = .ok (.idiv, 1) := by decide +kernel
theorem dX11_up_15 : decode cX11_up 15 = .ok (.ireturn, 1) := by decide +kernel
theorem dX12_feed_0 : decode cX12_feed 0 = .ok (.aload_n 0, 1) := by decide +kernel
theorem dX12_feed_1 : decode cX12_feed 1 = .ok (.iconst 0, 1) := by decide +kernel
theorem dX12_feed_2 : decode cX12_feed 2 = .ok (.putfield 1, 3) := by decide +kernel
theorem dX12_feed_5 : decode cX12_feed 5 = .ok (.aload_n 0, 1) := by decide +kernel
theorem dX12_feed_6 : decode cX12_feed 6 = .ok (.lload_n 1, 1) := by decide +kernel
theorem dX12_feed_7 : decode cX12_feed 7 = .ok (.invokevirtual 7, 3) := by decide +kernel
theorem dX12_feed_10 : decode cX12_feed 10 = .ok (.aload_n 0, 1) := by decide +kernel
theorem dX12_feed_11 : decode cX12_feed 11 = .ok (.lload_n 3, 1) := by decide +kernel
theorem dX12_feed_12 : decode cX12_feed 12 = .ok (.invokevirtual 7, 3) := by decide +kernel
theorem dX12_feed_15 : decode cX12_feed 15 = .ok (.aload_n 0, 1) := by decide +kernel
theorem dX12_feed_16 : decode cX12_feed 16 = .ok (.lload 5, 2) := by decide +kernel
theorem dX12_feed_18 : decode cX12_feed 18 = .ok (.invokevirtual 7, 3) := by decide +kernel
theorem dX12_feed_21 : decode cX12_feed 21 = .ok (.aload_n 0, 1) := by decide +kernel
theorem dX12_feed_22 : decode cX12_feed 22 = .ok (.getfield 11, 3) := by decide +kernel
theorem dX12_feed_25 : decode cX12_feed 25 = .ok (.ireturn, 1) := by decide +kernel
theorem dX12_lay_0 : decode cX12_lay 0 = .ok (.bipush 56, 2) := by decide +kernel
theorem dX12_lay_2 : decode cX12_lay 2 = .ok (.istore_n 3, 1) := by decide +kernel
theorem dX12_lay_3 : decode cX12_lay 3 = .ok (.iload_n 3, 1) := by decide +kernel
theorem dX12_lay_4 : decode cX12_lay 4 = .ok (.ifCond .lt 71, 3) := by decide +kernel
theorem dX12_lay_7 : decode cX12_lay 7 = .ok (.lload_n 1, 1) := by decide +kernel
theorem dX12_lay_8 : decode cX12_lay 8 = .ok (.iload_n 3, 1) := by decide +kernel
theorem dX12_lay_9 : decode cX12_lay 9 = .ok (.lshr, 1) := by decide +kernel
theorem dX12_lay_10 : decode cX12_lay 10 = .ok (.l2i, 1) := by decide +kernel
theorem dX12_lay_11 : decode cX12_lay 11 = .ok (.sipush 255, 3) := by decide +kernel
theorem dX12_lay_14 : decode cX12_lay 14 = .ok (.iand, 1) := by decide +kernel
theorem dX12_lay_15 : decode cX12_lay 15 = .ok (.istore 4, 2) := by decide +kernel
theorem dX12_lay_17 : decode cX12_lay 17 = .ok (.iload 4, 2) := by decide +kernel
theorem dX12_lay_19 : decode cX12_lay 19 = .ok (.bipush 10, 2) := by decide +kernel
theorem dX12_lay_21 : decode cX12_lay 21 = .ok (.if_icmp .eq 17, 3) := by decide +kernel
theorem dX12_lay_24 : decode cX12_lay 24 = .ok (.iload 4, 2) := by decide +kernel
theorem dX12_lay_26 : decode cX12_lay 26 = .ok (.bipush 32, 2) := by decide +kernel
theorem dX12_lay_28 : decode cX12_lay 28 = .ok (.if_icmp .lt 41, 3) := by decide +kernel
theorem dX12_lay_31 : decode cX12_lay 31 = .ok (.iload 4, 2) := by decide +kernel
theorem dX12_lay_33 : decode cX12_lay 33 = .ok (.bipush 126, 2) := by decide +kernel
theorem dX12_lay_35 : decode cX12_lay 35 = .ok (.if_icmp .gt 34, 3) := by decide +kernel
theorem dX12_lay_38 : decode cX12_lay 38 = .ok (.aload_n 0, 1) := by decide +kernel
theorem dX12_lay_39 : decode cX12_lay 39 = .ok (.getfield 11, 3) := by decide +kernel
theorem dX12_lay_42 : decode cX12_lay 42 = .ok (.sipush 1000, 3) := by decide +kernel
theorem dX12_lay_45 : decode cX12_lay 45 = .ok (.if_icmp .ge 24, 3) := by decide +kernel
theorem dX12_lay_48 : decode cX12_lay 48 = .ok (.aload_n 0, 1) := by decide +kernel
theorem dX12_lay_49 : decode cX12_lay 49 = .ok (.getfield 14, 3) := by decide +kernel
theorem dX12_lay_52 : decode cX12_lay 52 = .ok (.aload_n 0, 1) := by decide +kernel
theorem dX12_lay_53 : decode cX12_lay 53 = .ok (.getfield 11, 3) := by decide +kernel
theorem dX12_lay_56 : decode cX12_lay 56 = .ok (.iload 4, 2) := by decide +kernel
theorem dX12_lay_58 : decode cX12_lay 58 = .ok (.iastore, 1) := by decide +kernel
theorem dX12_lay_59 : decode cX12_lay 59 = .ok (.aload_n 0, 1) := by decide +kernel
theorem dX12_lay_60 : decode cX12_lay 60 = .ok (.dup, 1) := by decide +kernel
theorem dX12_lay_61 : decode cX12_lay 61 = .ok (.getfield 11, 3) := by decide +kernel
theorem dX12_lay_64 : decode cX12_lay 64 = .ok (.iconst 1, 1) := by decide +kernel
theorem dX12_lay_65 : decode cX12_lay 65 = .ok (.iadd, 1) := by decide +kernel
theorem dX12_lay_66 : decode cX12_lay 66 = .ok (.putfield 11, 3) := by decide +kernel
theorem dX12_lay_69 : decode cX12_lay 69 = .ok (.iinc 3 (-8), 3) := by decide +kernel
theorem dX12_lay_72 : decode cX12_lay 72 = .ok (.goto (-69), 3) := by decide +kernel
theorem dX12_lay_75 : decode cX12_lay 75 = .ok (.return_, 1) := by decide +kernel
theorem dX12_init_0 : decode cX12_init 0 = .ok (.aload_n 0, 1) := by decide +kernel
theorem dX12_init_1 : decode cX12_init 1 = .ok (.invokespecial 18, 3) := by decide +kernel
theorem dX12_init_4 : decode cX12_init 4 = .ok (.aload_n 0, 1) := by decide +kernel
theorem dX12_init_5 : decode cX12_init 5 = .ok (.sipush 1000, 3) := by decide +kernel
theorem dX12_init_8 : decode cX12_init 8 = .ok (.newarray .int, 2) := by decide +kernel
theorem dX12_init_10 : decode cX12_init 10 = .ok (.putfield 14, 3) := by decide +kernel
theorem dX12_init_13 : decode cX12_init 13 = .ok (.aload_n 0, 1) := by decide +kernel
theorem dX12_init_14 : decode cX12_init 14 = .ok (.sipush 1002, 3) := by decide +kernel
theorem dX12_init_17 : decode cX12_init 17 = .ok (.newarray .int, 2) := by decide +kernel
theorem dX12_init_19 : decode cX12_init 19 = .ok (.putfield 24, 3) := by decide +kernel
theorem dX12_init_22 : decode cX12_init 22 = .ok (.aload_n 0, 1) := by decide +kernel
theorem dX12_init_23 : decode cX12_init 23 = .ok (.sipush 1002, 3) := by decide +kernel
theorem dX12_init_26 : decode cX12_init 26 = .ok (.newarray .int, 2) := by decide +kernel
theorem dX12_init_28 : decode cX12_init 28 = .ok (.putfield 27, 3) := by decide +kernel
theorem dX12_init_31 : decode cX12_init 31 = .ok (.aload_n 0, 1) := by decide +kernel
theorem dX12_init_32 : decode cX12_init 32 = .ok (.sipush 1002, 3) := by decide +kernel
theorem dX12_init_35 : decode cX12_init 35 = .ok (.newarray .long, 2) := by decide +kernel
theorem dX12_init_37 : decode cX12_init 37 = .ok (.putfield 30, 3) := by decide +kernel
theorem dX12_init_40 : decode cX12_init 40 = .ok (.aload_n 0, 1) := by decide +kernel
theorem dX12_init_41 : decode cX12_init 41 = .ok (.bipush 21, 2) := by decide +kernel
theorem dX12_init_43 : decode cX12_init 43 = .ok (.newarray .long, 2) := by decide +kernel
theorem dX12_init_45 : decode cX12_init 45 = .ok (.dup, 1) := by decide +kernel
theorem dX12_init_46 : decode cX12_init 46 = .ok (.iconst 0, 1) := by decide +kernel
theorem dX12_init_47 : decode cX12_init 47 = .ok (.ldc2_w 34, 3) := by decide +kernel
theorem dX12_init_50 : decode cX12_init 50 = .ok (.lastore, 1) := by decide +kernel
theorem dX12_init_51 : decode cX12_init 51 = .ok (.dup, 1) := by decide +kernel
theorem dX12_init_52 : decode cX12_init 52 = .ok (.iconst 1, 1) := by decide +kernel
theorem dX12_init_53 : decode cX12_init 53 = .ok (.ldc2_w 36, 3) := by decide +kernel
theorem dX12_init_56 : decode cX12_init 56 = .ok (.lastore, 1) := by decide +kernel
theorem dX12_init_57 : decode cX12_init 57 = .ok (.dup, 1) := by decide +kernel
theorem dX12_init_58 : decode cX12_init 58 = .ok (.iconst 2, 1) := by decide +kernel
theorem dX12_init_59 : decode cX12_init 59 = .ok (.ldc2_w 38, 3) := by decide +kernel
theorem dX12_init_62 : decode cX12_init 62 = .ok (.lastore, 1) := by decide +kernel
theorem dX12_init_63 : decode cX12_init 63 = .ok (.dup, 1) := by decide +kernel
theorem dX12_init_64 : decode cX12_init 64 = .ok (.iconst 3, 1) := by decide +kernel
theorem dX12_init_65 : decode cX12_init 65 = .ok (.ldc2_w 40, 3) := by decide +kernel
theorem dX12_init_68 : decode cX12_init 68 = .ok (.lastore, 1) := by decide +kernel
theorem dX12_init_69 : decode cX12_init 69 = .ok (.dup, 1) := by decide +kernel
theorem dX12_init_70 : decode cX12_init 70 = .ok (.iconst 4, 1) := by decide +kernel
theorem dX12_init_71 : decode cX12_init 71 = .ok (.ldc2_w 42, 3) := by decide +kernel
theorem dX12_init_74 : decode cX12_init 74 = .ok (.lastore, 1) := by decide +kernel
theorem dX12_init_75 : decode cX12_init 75 = .ok (.dup, 1) := by decide +kernel
theorem dX12_init_76 : decode cX12_init 76 = .ok (.iconst 5, 1) := by decide +kernel
theorem dX12_init_77 : decode cX12_init 77 = .ok (.ldc2_w 44, 3) := by decide +kernel
theorem dX12_init_80 : decode cX12_init 80 = .ok (.lastore, 1) := by decide +kernel
theorem dX12_init_81 : decode cX12_init 81 = .ok (.dup, 1) := by decide +kernel
theorem dX12_init_82 : decode cX12_init 82 = .ok (.bipush 6, 2) := by decide +kernel
theorem dX12_init_84 : decode cX12_init 84 = .ok (.ldc2_w 46, 3) := by decide +kernel
theorem dX12_init_87 : decode cX12_init 87 = .ok (.lastore, 1) := by decide +kernel
theorem dX12_init_88 : decode cX12_init 88 = .ok (.dup, 1) := by decide +kernel
theorem dX12_init_89 : decode cX12_init 89 = .ok (.bipush 7, 2) := by decide +kernel
theorem dX12_init_91 : decode cX12_init 91 = .ok (.ldc2_w 48, 3) := by decide +kernel
theorem dX12_init_94 : decode cX12_init 94 = .ok (.lastore, 1) := by decide +kernel
theorem dX12_init_95 : decode cX12_init 95 = .ok (.dup, 1) := by decide +kernel
theorem dX12_init_96 : decode cX12_init 96 = .ok (.bipush 8, 2) := by decide +kernel
theorem dX12_init_98 : decode cX12_init 98 = .ok (.ldc2_w 50, 3) := by decide +kernel
theorem dX12_init_101 : decode cX12_init 101 = .ok (.lastore, 1) := by decide +kernel
theorem dX12_init_102 : decode cX12_init 102 = .ok (.dup, 1) := by decide +kernel
theorem dX12_init_103 : decode cX12_init 103 = .ok (.bipush 9, 2) := by decide +kernel
theorem dX12_init_105 : decode cX12_init 105 = .ok (.ldc2_w 52, 3) := by decide +kernel
theorem dX12_init_108 : decode cX12_init 108 = .ok (.lastore, 1) := by decide +kernel
theorem dX12_init_109 : decode cX12_init 109 = .ok (.dup, 1) := by decide +kernel
theorem dX12_init_110 : decode cX12_init 110 = .ok (.bipush 10, 2) := by decide +kernel
theorem dX12_init_112 : decode cX12_init 112 = .ok (.ldc2_w 54, 3) := by decide +kernel
theorem dX12_init_115 : decode cX12_init 115 = .ok (.lastore, 1) := by decide +kernel
theorem dX12_init_116 : decode cX12_init 116 = .ok (.dup, 1) := by decide +kernel
theorem dX12_init_117 : decode cX12_init 117 = .ok (.bipush 11, 2) := by decide +kernel
theorem dX12_init_119 : decode cX12_init 119 = .ok (.ldc2_w 56, 3) := by decide +kernel
theorem dX12_init_122 : decode cX12_init 122 = .ok (.lastore, 1) := by decide +kernel
theorem dX12_init_123 : decode cX12_init 123 = .ok (.dup, 1) := by decide +kernel
theorem dX12_init_124 : decode cX12_init 124 = .ok (.bipush 12, 2) := by decide +kernel
theorem dX12_init_126 : decode cX12_init 126 = .ok (.ldc2_w 58, 3) := by decide +kernel
theorem dX12_init_129 : decode cX12_init 129 = .ok (.lastore, 1) := by decide +kernel
theorem dX12_init_130 : decode cX12_init 130 = .ok (.dup, 1) := by decide +kernel
theorem dX12_init_131 : decode cX12_init 131 = .ok (.bipush 13, 2) := by decide +kernel
theorem dX12_init_133 : decode cX12_init 133 = .ok (.ldc2_w 60, 3) := by decide +kernel
theorem dX12_init_136 : decode cX12_init 136 = .ok (.lastore, 1) := by decide +kernel
theorem dX12_init_137 : decode cX12_init 137 = .ok (.dup, 1) := by decide +kernel
theorem dX12_init_138 : decode cX12_init 138 = .ok (.bipush 14, 2) := by decide +kernel
theorem dX12_init_140 : decode cX12_init 140 = .ok (.ldc2_w 62, 3) := by decide +kernel
theorem dX12_init_143 : decode cX12_init 143 = .ok (.lastore, 1) := by decide +kernel
theorem dX12_init_144 : decode cX12_init 144 = .ok (.dup, 1) := by decide +kernel
theorem dX12_init_145 : decode cX12_init 145 = .ok (.bipush 15, 2) := by decide +kernel
theorem dX12_init_147 : decode cX12_init 147 = .ok (.ldc2_w 64, 3) := by decide +kernel
theorem dX12_init_150 : decode cX12_init 150 = .ok (.lastore, 1) := by decide +kernel
theorem dX12_init_151 : decode cX12_init 151 = .ok (.dup, 1) := by decide +kernel
theorem dX12_init_152 : decode cX12_init 152 = .ok (.bipush 16, 2) := by decide +kernel
theorem dX12_init_154 : decode cX12_init 154 = .ok (.ldc2_w 66, 3) := by decide +kernel
theorem dX12_init_157 : decode cX12_init 157 = .ok (.lastore, 1) := by decide +kernel
theorem dX12_init_158 : decode cX12_init 158 = .ok (.dup, 1) := by decide +kernel
theorem dX12_init_159 : decode cX12_init 159 = .ok (.bipush 17, 2) := by decide +kernel
theorem dX12_init_161 : decode cX12_init 161 = .ok (.ldc2_w 68, 3) := by decide +kernel
theorem dX12_init_164 : decode cX12_init 164 = .ok (.lastore, 1) := by decide +kernel
theorem dX12_init_165 : decode cX12_init 165 = .ok (.dup, 1) := by decide +kernel
theorem dX12_init_166 : decode cX12_init 166 = .ok (.bipush 18, 2) := by decide +kernel
theorem dX12_init_168 : decode cX12_init 168 = .ok (.ldc2_w 70, 3) := by decide +kernel
theorem dX12_init_171 : decode cX12_init 171 = .ok (.lastore, 1) := by decide +kernel
theorem dX12_init_172 : decode cX12_init 172 = .ok (.dup, 1) := by decide +kernel
theorem dX12_init_173 : decode cX12_init 173 = .ok (.bipush 19, 2) := by decide +kernel
theorem dX12_init_175 : decode cX12_init 175 = .ok (.ldc2_w 72, 3) := by decide +kernel
theorem dX12_init_178 : decode cX12_init 178 = .ok (.lastore, 1) := by decide +kernel
theorem dX12_init_179 : decode cX12_init 179 = .ok (.dup, 1) := by decide +kernel
theorem dX12_init_180 : decode cX12_init 180 = .ok (.bipush 20, 2) := by decide +kernel
theorem dX12_init_182 : decode cX12_init 182 = .ok (.ldc2_w 74, 3) := by decide +kernel
theorem dX12_init_185 : decode cX12_init 185 = .ok (.lastore, 1) := by decide +kernel
theorem dX12_init_186 : decode cX12_init 186 = .ok (.putfield 76, 3) := by decide +kernel
theorem dX12_init_189 : decode cX12_init 189 = .ok (.aload_n 0, 1) := by decide +kernel
theorem dX12_init_190 : decode cX12_init 190 = .ok (.bipush 17, 2) := by decide +kernel
theorem dX12_init_192 : decode cX12_init 192 = .ok (.newarray .int, 2) := by decide +kernel
theorem dX12_init_194 : decode cX12_init 194 = .ok (.putfield 79, 3) := by decide +kernel
theorem dX12_init_197 : decode cX12_init 197 = .ok (.aload_n 0, 1) := by decide +kernel
theorem dX12_init_198 : decode cX12_init 198 = .ok (.bipush 17, 2) := by decide +kernel
theorem dX12_init_200 : decode cX12_init 200 = .ok (.newarray .int, 2) := by decide +kernel
theorem dX12_init_202 : decode cX12_init 202 = .ok (.putfield 82, 3) := by decide +kernel
theorem dX12_init_205 : decode cX12_init 205 = .ok (.aload_n 0, 1) := by decide +kernel
theorem dX12_init_206 : decode cX12_init 206 = .ok (.bipush 17, 2) := by decide +kernel
theorem dX12_init_208 : decode cX12_init 208 = .ok (.newarray .int, 2) := by decide +kernel
theorem dX12_init_210 : decode cX12_init 210 = .ok (.putfield 85, 3) := by decide +kernel
theorem dX12_init_213 : decode cX12_init 213 = .ok (.aload_n 0, 1) := by decide +kernel
theorem dX12_init_214 : decode cX12_init 214 = .ok (.sipush 340, 3) := by decide +kernel
theorem dX12_init_217 : decode cX12_init 217 = .ok (.newarray .int, 2) := by decide +kernel
theorem dX12_init_219 : decode cX12_init 219 = .ok (.putfield 88, 3) := by decide +kernel
theorem dX12_init_222 : decode cX12_init 222 = .ok (.aload_n 0, 1) := by decide +kernel
theorem dX12_init_223 : decode cX12_init 223 = .ok (.sipush 340, 3) := by decide +kernel
theorem dX12_init_226 : decode cX12_init 226 = .ok (.newarray .int, 2) := by decide +kernel
theorem dX12_init_228 : decode cX12_init 228 = .ok (.putfield 91, 3) := by decide +kernel
theorem dX12_init_231 : decode cX12_init 231 = .ok (.aload_n 0, 1) := by decide +kernel
theorem dX12_init_232 : decode cX12_init 232 = .ok (.sipush 340, 3) := by decide +kernel
theorem dX12_init_235 : decode cX12_init 235 = .ok (.newarray .int, 2) := by decide +kernel
theorem dX12_init_237 : decode cX12_init 237 = .ok (.putfield 94, 3) := by decide +kernel
theorem dX12_init_240 : decode cX12_init 240 = .ok (.aload_n 0, 1) := by decide +kernel
theorem dX12_init_241 : decode cX12_init 241 = .ok (.bipush 8, 2) := by decide +kernel
theorem dX12_init_243 : decode cX12_init 243 = .ok (.newarray .long, 2) := by decide +kernel
theorem dX12_init_245 : decode cX12_init 245 = .ok (.putfield 97, 3) := by decide +kernel
theorem dX12_init_248 : decode cX12_init 248 = .ok (.aload_n 0, 1) := by decide +kernel
theorem dX12_init_249 : decode cX12_init 249 = .ok (.sipush 20400, 3) := by decide +kernel
theorem dX12_init_252 : decode cX12_init 252 = .ok (.newarray .int, 2) := by decide +kernel
theorem dX12_init_254 : decode cX12_init 254 = .ok (.putfield 100, 3) := by decide +kernel
theorem dX12_init_257 : decode cX12_init 257 = .ok (.aload_n 0, 1) := by decide +kernel
theorem dX12_init_258 : decode cX12_init 258 = .ok (.sipush 20400, 3) := by decide +kernel
theorem dX12_init_261 : decode cX12_init 261 = .ok (.newarray .int, 2) := by decide +kernel
theorem dX12_init_263 : decode cX12_init 263 = .ok (.putfield 103, 3) := by decide +kernel
theorem dX12_init_266 : decode cX12_init 266 = .ok (.aload_n 0, 1) := by decide +kernel
theorem dX12_init_267 : decode cX12_init 267 = .ok (.bipush 11, 2) := by decide +kernel
theorem dX12_init_269 : decode cX12_init 269 = .ok (.newarray .int, 2) := by decide +kernel
theorem dX12_init_271 : decode cX12_init 271 = .ok (.putfield 106, 3) := by decide +kernel
theorem dX12_init_274 : decode cX12_init 274 = .ok (.aload_n 0, 1) := by decide +kernel
theorem dX12_init_275 : decode cX12_init 275 = .ok (.bipush 8, 2) := by decide +kernel
theorem dX12_init_277 : decode cX12_init 277 = .ok (.newarray .int, 2) := by decide +kernel
theorem dX12_init_279 : decode cX12_init 279 = .ok (.putfield 109, 3) := by decide +kernel
theorem dX12_init_282 : decode cX12_init 282 = .ok (.aload_n 0, 1) := by decide +kernel
theorem dX12_init_283 : decode cX12_init 283 = .ok (.sipush 1200, 3) := by decide +kernel
theorem dX12_init_286 : decode cX12_init 286 = .ok (.newarray .int, 2) := by decide +kernel
theorem dX12_init_288 : decode cX12_init 288 = .ok (.putfield 112, 3) := by decide +kernel
theorem dX12_init_291 : decode cX12_init 291 = .ok (.aload_n 0, 1) := by decide +kernel
theorem dX12_init_292 : decode cX12_init 292 = .ok (.bipush 40, 2) := by decide +kernel
theorem dX12_init_294 : decode cX12_init 294 = .ok (.newarray .int, 2) := by decide +kernel
theorem dX12_init_296 : decode cX12_init 296 = .ok (.putfield 115, 3) := by decide +kernel
theorem dX12_init_299 : decode cX12_init 299 = .ok (.aload_n 0, 1) := by decide +kernel
theorem dX12_init_300 : decode cX12_init 300 = .ok (.bipush 40, 2) := by decide +kernel
theorem dX12_init_302 : decode cX12_init 302 = .ok (.newarray .int, 2) := by decide +kernel
theorem dX12_init_304 : decode cX12_init 304 = .ok (.putfield 118, 3) := by decide +kernel
theorem dX12_init_307 : decode cX12_init 307 = .ok (.aload_n 0, 1) := by decide +kernel
theorem dX12_init_308 : decode cX12_init 308 = .ok (.bipush 40, 2) := by decide +kernel
theorem dX12_init_310 : decode cX12_init 310 = .ok (.newarray .int, 2) := by decide +kernel
theorem dX12_init_312 : decode cX12_init 312 = .ok (.putfield 121, 3) := by decide +kernel
theorem dX12_init_315 : decode cX12_init 315 = .ok (.aload_n 0, 1) := by decide +kernel
theorem dX12_init_316 : decode cX12_init 316 = .ok (.bipush 40, 2) := by decide +kernel
theorem dX12_init_318 : decode cX12_init 318 = .ok (.newarray .int, 2) := by decide +kernel
theorem dX12_init_320 : decode cX12_init 320 = .ok (.putfield 124, 3) := by decide +kernel
theorem dX12_init_323 : decode cX12_init 323 = .ok (.aload_n 0, 1) := by decide +kernel
theorem dX12_init_324 : decode cX12_init 324 = .ok (.bipush 40, 2) := by decide +kernel
theorem dX12_init_326 : decode cX12_init 326 = .ok (.newarray .int, 2) := by decide +kernel
theorem dX12_init_328 : decode cX12_init 328 = .ok (.putfield 127, 3) := by decide +kernel
theorem dX12_init_331 : decode cX12_init 331 = .ok (.aload_n 0, 1) := by decide +kernel
theorem dX12_init_332 : decode cX12_init 332 = .ok (.bipush 40, 2) := by decide +kernel
theorem dX12_init_334 : decode cX12_init 334 = .ok (.newarray .int, 2) := by decide +kernel
theorem dX12_init_336 : decode cX12_init 336 = .ok (.putfield 130, 3) := by decide +kernel
theorem dX12_init_339 : decode cX12_init 339 = .ok (.aload_n 0, 1) := by decide +kernel
theorem dX12_init_340 : decode cX12_init 340 = .ok (.bipush 40, 2) := by decide +kernel
theorem dX12_init_342 : decode cX12_init 342 = .ok (.newarray .int, 2) := by decide +kernel
theorem dX12_init_344 : decode cX12_init 344 = .ok (.putfield 133, 3) := by decide +kernel
theorem dX12_init_347 : decode cX12_init 347 = .ok (.aload_n 0, 1) := by decide +kernel
theorem dX12_init_348 : decode cX12_init 348 = .ok (.bipush 40, 2) := by decide +kernel
theorem dX12_init_350 : decode cX12_init 350 = .ok (.newarray .int, 2) := by decide +kernel
theorem dX12_init_352 : decode cX12_init 352 = .ok (.putfield 136, 3) := by decide +kernel
theorem dX12_init_355 : decode cX12_init 355 = .ok (.aload_n 0, 1) := by decide +kernel
theorem dX12_init_356 : decode cX12_init 356 = .ok (.bipush 40, 2) := by decide +kernel
theorem dX12_init_358 : decode cX12_init 358 = .ok (.newarray .int, 2) := by decide +kernel
theorem dX12_init_360 : decode cX12_init 360 = .ok (.putfield 139, 3) := by decide +kernel
theorem dX12_init_363 : decode cX12_init 363 = .ok (.aload_n 0, 1) := by decide +kernel
theorem dX12_init_364 : decode cX12_init 364 = .ok (.bipush 40, 2) := by decide +kernel
theorem dX12_init_366 : decode cX12_init 366 = .ok (.newarray .int, 2) := by decide +kernel
theorem dX12_init_368 : decode cX12_init 368 = .ok (.putfield 142, 3) := by decide +kernel
theorem dX12_init_371 : decode cX12_init 371 = .ok (.aload_n 0, 1) := by decide +kernel
theorem dX12_init_372 : decode cX12_init 372 = .ok (.bipush 40, 2) := by decide +kernel
theorem dX12_init_374 : decode cX12_init 374 = .ok (.newarray .int, 2) := by decide +kernel
theorem dX12_init_376 : decode cX12_init 376 = .ok (.putfield 145, 3) := by decide +kernel
theorem dX12_init_379 : decode cX12_init 379 = .ok (.aload_n 0, 1) := by decide +kernel
theorem dX12_init_380 : decode cX12_init 380 = .ok (.bipush 61, 2) := by decide +kernel
theorem dX12_init_382 : decode cX12_init 382 = .ok (.newarray .int, 2) := by decide +kernel
theorem dX12_init_384 : decode cX12_init 384 = .ok (.putfield 148, 3) := by decide +kernel
theorem dX12_init_387 : decode cX12_init 387 = .ok (.aload_n 0, 1) := by decide +kernel
theorem dX12_init_388 : decode cX12_init 388 = .ok (.bipush 61, 2) := by decide +kernel
theorem dX12_init_390 : decode cX12_init 390 = .ok (.newarray .int, 2) := by decide +kernel
theorem dX12_init_392 : decode cX12_init 392 = .ok (.putfield 151, 3) := by decide +kernel
theorem dX12_init_395 : decode cX12_init 395 = .ok (.aload_n 0, 1) := by decide +kernel
theorem dX12_init_396 : decode cX12_init 396 = .ok (.bipush 61, 2) := by decide +kernel
theorem dX12_init_398 : decode cX12_init 398 = .ok (.newarray .int, 2) := by decide +kernel
theorem dX12_init_400 : decode cX12_init 400 = .ok (.putfield 154, 3) := by decide +kernel
theorem dX12_init_403 : decode cX12_init 403 = .ok (.aload_n 0, 1) := by decide +kernel
theorem dX12_init_404 : decode cX12_init 404 = .ok (.bipush 80, 2) := by decide +kernel
theorem dX12_init_406 : decode cX12_init 406 = .ok (.newarray .int, 2) := by decide +kernel
theorem dX12_init_408 : decode cX12_init 408 = .ok (.putfield 157, 3) := by decide +kernel
theorem dX12_init_411 : decode cX12_init 411 = .ok (.aload_n 0, 1) := by decide +kernel
theorem dX12_init_412 : decode cX12_init 412 = .ok (.bipush 80, 2) := by decide +kernel
theorem dX12_init_414 : decode cX12_init 414 = .ok (.newarray .boolean, 2) := by decide +kernel
theorem dX12_init_416 : decode cX12_init 416 = .ok (.putfield 160, 3) := by decide +kernel
theorem dX12_init_419 : decode cX12_init 419 = .ok (.aload_n 0, 1) := by decide +kernel
theorem dX12_init_420 : decode cX12_init 420 = .ok (.bipush 80, 2) := by decide +kernel
theorem dX12_init_422 : decode cX12_init 422 = .ok (.newarray .int, 2) := by decide +kernel
theorem dX12_init_424 : decode cX12_init 424 = .ok (.putfield 164, 3) := by decide +kernel
theorem dX12_init_427 : decode cX12_init 427 = .ok (.aload_n 0, 1) := by decide +kernel
theorem dX12_init_428 : decode cX12_init 428 = .ok (.bipush 40, 2) := by decide +kernel
theorem dX12_init_430 : decode cX12_init 430 = .ok (.newarray .int, 2) := by decide +kernel
theorem dX12_init_432 : decode cX12_init 432 = .ok (.putfield 167, 3) := by decide +kernel
theorem dX12_init_435 : decode cX12_init 435 = .ok (.aload_n 0, 1) := by decide +kernel
theorem dX12_init_436 : decode cX12_init 436 = .ok (.sipush 128, 3) := by decide +kernel
theorem dX12_init_439 : decode cX12_init 439 = .ok (.newarray .int, 2) := by decide +kernel
theorem dX12_init_441 : decode cX12_init 441 = .ok (.putfield 170, 3) := by decide +kernel
theorem dX12_init_444 : decode cX12_init 444 = .ok (.aload_n 0, 1) := by decide +kernel
theorem dX12_init_445 : decode cX12_init 445 = .ok (.sipush 128, 3) := by decide +kernel
theorem dX12_init_448 : decode cX12_init 448 = .ok (.newarray .int, 2) := by decide +kernel
theorem dX12_init_450 : decode cX12_init 450 = .ok (.putfield 173, 3) := by decide +kernel
theorem dX12_init_453 : decode cX12_init 453 = .ok (.aload_n 0, 1) := by decide +kernel
theorem dX12_init_454 : decode cX12_init 454 = .ok (.sipush 128, 3) := by decide +kernel
theorem dX12_init_457 : decode cX12_init 457 = .ok (.newarray .boolean, 2) := by decide +kernel
theorem dX12_init_459 : decode cX12_init 459 = .ok (.putfield 176, 3) := by decide +kernel
theorem dX12_init_462 : decode cX12_init 462 = .ok (.aload_n 0, 1) := by decide +kernel
theorem dX12_init_463 : decode cX12_init 463 = .ok (.iconst 4, 1) := by decide +kernel
theorem dX12_init_464 : decode cX12_init 464 = .ok (.newarray .boolean, 2) := by decide +kernel
theorem dX12_init_466 : decode cX12_init 466 = .ok (.putfield 179, 3) := by decide +kernel
theorem dX12_init_469 : decode cX12_init 469 = .ok (.aload_n 0, 1) := by decide +kernel
theorem dX12_init_470 : decode cX12_init 470 = .ok (.iconst 4, 1) := by decide +kernel
theorem dX12_init_471 : decode cX12_init 471 = .ok (.newarray .int, 2) := by decide +kernel
theorem dX12_init_473 : decode cX12_init 473 = .ok (.putfield 182, 3) := by decide +kernel
theorem dX12_init_476 : decode cX12_init 476 = .ok (.aload_n 0, 1) := by decide +kernel
theorem dX12_init_477 : decode cX12_init 477 = .ok (.iconst 4, 1) := by decide +kernel
theorem dX12_init_478 : decode cX12_init 478 = .ok (.newarray .int, 2) := by decide +kernel
theorem dX12_init_480 : decode cX12_init 480 = .ok (.putfield 185, 3) := by decide +kernel
theorem dX12_init_483 : decode cX12_init 483 = .ok (.aload_n 0, 1) := by decide +kernel
theorem dX12_init_484 : decode cX12_init 484 = .ok (.iconst 4, 1) := by decide +kernel
theorem dX12_init_485 : decode cX12_init 485 = .ok (.newarray .int, 2) := by decide +kernel
theorem dX12_init_487 : decode cX12_init 487 = .ok (.putfield 188, 3) := by decide +kernel
theorem dX12_init_490 : decode cX12_init 490 = .ok (.aload_n 0, 1) := by decide +kernel
theorem dX12_init_491 : decode cX12_init 491 = .ok (.iconst 4, 1) := by decide +kernel
theorem dX12_init_492 : decode cX12_init 492 = .ok (.newarray .int, 2) := by decide +kernel
theorem dX12_init_494 : decode cX12_init 494 = .ok (.putfield 191, 3) := by decide +kernel
theorem dX12_init_497 : decode cX12_init 497 = .ok (.aload_n 0, 1) := by decide +kernel
theorem dX12_init_498 : decode cX12_init 498 = .ok (.bipush 16, 2) := by decide +kernel
theorem dX12_init_500 : decode cX12_init 500 = .ok (.newarray .boolean, 2) := by decide +kernel
theorem dX12_init_502 : decode cX12_init 502 = .ok (.putfield 194, 3) := by decide +kernel
theorem dX12_init_505 : decode cX12_init 505 = .ok (.aload_n 0, 1) := by decide +kernel
theorem dX12_init_506 : decode cX12_init 506 = .ok (.iconst 4, 1) := by decide +kernel
theorem dX12_init_507 : decode cX12_init 507 = .ok (.newarray .int, 2) := by decide +kernel
theorem dX12_init_509 : decode cX12_init 509 = .ok (.putfield 197, 3) := by decide +kernel
theorem dX12_init_512 : decode cX12_init 512 = .ok (.aload_n 0, 1) := by decide +kernel
theorem dX12_init_513 : decode cX12_init 513 = .ok (.bipush 8, 2) := by decide +kernel
theorem dX12_init_515 : decode cX12_init 515 = .ok (.newarray .int, 2) := by decide +kernel
theorem dX12_init_517 : decode cX12_init 517 = .ok (.putfield 200, 3) := by decide +kernel
theorem dX12_init_520 : decode cX12_init 520 = .ok (.aload_n 0, 1) := by decide +kernel
theorem dX12_init_521 : decode cX12_init 521 = .ok (.bipush 72, 2) := by decide +kernel
theorem dX12_init_523 : decode cX12_init 523 = .ok (.newarray .int, 2) := by decide +kernel
theorem dX12_init_525 : decode cX12_init 525 = .ok (.putfield 203, 3) := by decide +kernel
theorem dX12_init_528 : decode cX12_init 528 = .ok (.aload_n 0, 1) := by decide +kernel
theorem dX12_init_529 : decode cX12_init 529 = .ok (.sipush 248, 3) := by decide +kernel
theorem dX12_init_532 : decode cX12_init 532 = .ok (.newarray .int, 2) := by decide +kernel
theorem dX12_init_534 : decode cX12_init 534 = .ok (.putfield 206, 3) := by decide +kernel
theorem dX12_init_537 : decode cX12_init 537 = .ok (.aload_n 0, 1) := by decide +kernel
theorem dX12_init_538 : decode cX12_init 538 = .ok (.sipush 248, 3) := by decide +kernel
theorem dX12_init_541 : decode cX12_init 541 = .ok (.newarray .int, 2) := by decide +kernel
theorem dX12_init_543 : decode cX12_init 543 = .ok (.putfield 209, 3) := by decide +kernel
theorem dX12_init_546 : decode cX12_init 546 = .ok (.aload_n 0, 1) := by decide +kernel
theorem dX12_init_547 : decode cX12_init 547 = .ok (.bipush 8, 2) := by decide +kernel
theorem dX12_init_549 : decode cX12_init 549 = .ok (.newarray .boolean, 2) := by decide +kernel
theorem dX12_init_551 : decode cX12_init 551 = .ok (.putfield 212, 3) := by decide +kernel
theorem dX12_init_554 : decode cX12_init 554 = .ok (.aload_n 0, 1) := by decide +kernel
theorem dX12_init_555 : decode cX12_init 555 = .ok (.bipush 8, 2) := by decide +kernel
theorem dX12_init_557 : decode cX12_init 557 = .ok (.newarray .int, 2) := by decide +kernel
theorem dX12_init_559 : decode cX12_init 559 = .ok (.putfield 215, 3) := by decide +kernel
theorem dX12_init_562 : decode cX12_init 562 = .ok (.aload_n 0, 1) := by decide +kernel
theorem dX12_init_563 : decode cX12_init 563 = .ok (.bipush 8, 2) := by decide +kernel
theorem dX12_init_565 : decode cX12_init 565 = .ok (.newarray .int, 2) := by decide +kernel
theorem dX12_init_567 : decode cX12_init 567 = .ok (.putfield 218, 3) := by decide +kernel
theorem dX12_init_570 : decode cX12_init 570 = .ok (.aload_n 0, 1) := by decide +kernel
theorem dX12_init_571 : decode cX12_init 571 = .ok (.bipush 24, 2) := by decide +kernel
theorem dX12_init_573 : decode cX12_init 573 = .ok (.newarray .int, 2) := by decide +kernel
theorem dX12_init_575 : decode cX12_init 575 = .ok (.putfield 221, 3) := by decide +kernel
theorem dX12_init_578 : decode cX12_init 578 = .ok (.aload_n 0, 1) := by decide +kernel
theorem dX12_init_579 : decode cX12_init 579 = .ok (.bipush 8, 2) := by decide +kernel
theorem dX12_init_581 : decode cX12_init 581 = .ok (.newarray .int, 2) := by decide +kernel
theorem dX12_init_583 : decode cX12_init 583 = .ok (.putfield 224, 3) := by decide +kernel
theorem dX12_init_586 : decode cX12_init 586 = .ok (.aload_n 0, 1) := by decide +kernel
theorem dX12_init_587 : decode cX12_init 587 = .ok (.bipush 8, 2) := by decide +kernel
theorem dX12_init_589 : decode cX12_init 589 = .ok (.newarray .int, 2) := by decide +kernel
theorem dX12_init_591 : decode cX12_init 591 = .ok (.putfield 227, 3) := by decide +kernel
theorem dX12_init_594 : decode cX12_init 594 = .ok (.aload_n 0, 1) := by decide +kernel
theorem dX12_init_595 : decode cX12_init 595 = .ok (.bipush 8, 2) := by decide +kernel
theorem dX12_init_597 : decode cX12_init 597 = .ok (.newarray .int, 2) := by decide +kernel
theorem dX12_init_599 : decode cX12_init 599 = .ok (.dup, 1) := by decide +kernel
theorem dX12_init_600 : decode cX12_init 600 = .ok (.iconst 0, 1) := by decide +kernel
theorem dX12_init_601 : decode cX12_init 601 = .ok (.iconst 1, 1) := by decide +kernel
theorem dX12_init_602 : decode cX12_init 602 = .ok (.iastore, 1) := by decide +kernel
theorem dX12_init_603 : decode cX12_init 603 = .ok (.dup, 1) := by decide +kernel
theorem dX12_init_604 : decode cX12_init 604 = .ok (.iconst 1, 1) := by decide +kernel
theorem dX12_init_605 : decode cX12_init 605 = .ok (.iconst 3, 1) := by decide +kernel
theorem dX12_init_606 : decode cX12_init 606 = .ok (.iastore, 1) := by decide +kernel
theorem dX12_init_607 : decode cX12_init 607 = .ok (.dup, 1) := by decide +kernel
theorem dX12_init_608 : decode cX12_init 608 = .ok (.iconst 2, 1) := by decide +kernel
theorem dX12_init_609 : decode cX12_init 609 = .ok (.bipush 9, 2) := by decide +kernel
theorem dX12_init_611 : decode cX12_init 611 = .ok (.iastore, 1) := by decide +kernel
theorem dX12_init_612 : decode cX12_init 612 = .ok (.dup, 1) := by decide +kernel
theorem dX12_init_613 : decode cX12_init 613 = .ok (.iconst 3, 1) := by decide +kernel
theorem dX12_init_614 : decode cX12_init 614 = .ok (.bipush 27, 2) := by decide +kernel
theorem dX12_init_616 : decode cX12_init 616 = .ok (.iastore, 1) := by decide +kernel
theorem dX12_init_617 : decode cX12_init 617 = .ok (.dup, 1) := by decide +kernel
theorem dX12_init_618 : decode cX12_init 618 = .ok (.iconst 4, 1) := by decide +kernel
theorem dX12_init_619 : decode cX12_init 619 = .ok (.bipush 81, 2) := by decide +kernel
theorem dX12_init_621 : decode cX12_init 621 = .ok (.iastore, 1) := by decide +kernel
theorem dX12_init_622 : decode cX12_init 622 = .ok (.dup, 1) := by decide +kernel
theorem dX12_init_623 : decode cX12_init 623 = .ok (.iconst 5, 1) := by decide +kernel
theorem dX12_init_624 : decode cX12_init 624 = .ok (.sipush 243, 3) := by decide +kernel
theorem dX12_init_627 : decode cX12_init 627 = .ok (.iastore, 1) := by decide +kernel
theorem dX12_init_628 : decode cX12_init 628 = .ok (.dup, 1) := by decide +kernel
theorem dX12_init_629 : decode cX12_init 629 = .ok (.bipush 6, 2) := by decide +kernel
theorem dX12_init_631 : decode cX12_init 631 = .ok (.sipush 729, 3) := by decide +kernel
theorem dX12_init_634 : decode cX12_init 634 = .ok (.iastore, 1) := by decide +kernel
theorem dX12_init_635 : decode cX12_init 635 = .ok (.dup, 1) := by decide +kernel
theorem dX12_init_636 : decode cX12_init 636 = .ok (.bipush 7, 2) := by decide +kernel
theorem dX12_init_638 : decode cX12_init 638 = .ok (.sipush 2187, 3) := by decide +kernel
theorem dX12_init_641 : decode cX12_init 641 = .ok (.iastore, 1) := by decide +kernel
theorem dX12_init_642 : decode cX12_init 642 = .ok (.putfield 230, 3) := by decide +kernel
theorem dX12_init_645 : decode cX12_init 645 = .ok (.aload_n 0, 1) := by decide +kernel
theorem dX12_init_646 : decode cX12_init 646 = .ok (.iconst (-1), 1) := by decide +kernel
theorem dX12_init_647 : decode cX12_init 647 = .ok (.putfield 233, 3) := by decide +kernel
theorem dX12_init_650 : decode cX12_init 650 = .ok (.iconst 0, 1) := by decide +kernel
theorem dX12_init_651 : decode cX12_init 651 = .ok (.istore_n 1, 1) := by decide +kernel
theorem dX12_init_652 : decode cX12_init 652 = .ok (.iload_n 1, 1) := by decide +kernel
theorem dX12_init_653 : decode cX12_init 653 = .ok (.sipush 248, 3) := by decide +kernel
theorem dX12_init_656 : decode cX12_init 656 = .ok (.if_icmp .ge 16, 3) := by decide +kernel
theorem dX12_init_659 : decode cX12_init 659 = .ok (.aload_n 0, 1) := by decide +kernel
theorem dX12_init_660 : decode cX12_init 660 = .ok (.getfield 206, 3) := by decide +kernel
theorem dX12_init_663 : decode cX12_init 663 = .ok (.iload_n 1, 1) := by decide +kernel
theorem dX12_init_664 : decode cX12_init 664 = .ok (.iconst (-1), 1) := by decide +kernel
theorem dX12_init_665 : decode cX12_init 665 = .ok (.iastore, 1) := by decide +kernel
theorem dX12_init_666 : decode cX12_init 666 = .ok (.iinc 1 1, 3) := by decide +kernel
theorem dX12_init_669 : decode cX12_init 669 = .ok (.goto (-17), 3) := by decide +kernel
theorem dX12_init_672 : decode cX12_init 672 = .ok (.return_, 1) := by decide +kernel
theorem dX12_isLetter_0 : decode cX12_isLetter 0 = .ok (.iload_n 0, 1) := by decide +kernel
theorem dX12_isLetter_1 : decode cX12_isLetter 1 = .ok (.bipush 97, 2) := by decide +kernel
theorem dX12_isLetter_3 : decode cX12_isLetter 3 = .ok (.if_icmp .lt 13, 3) := by decide +kernel
theorem dX12_isLetter_6 : decode cX12_isLetter 6 = .ok (.iload_n 0, 1) := by decide +kernel
theorem dX12_isLetter_7 : decode cX12_isLetter 7 = .ok (.bipush 122, 2) := by decide +kernel
theorem dX12_isLetter_9 : decode cX12_isLetter 9 = .ok (.if_icmp .gt 7, 3) := by decide +kernel
theorem dX12_isLetter_12 : decode cX12_isLetter 12 = .ok (.iconst 1, 1) := by decide +kernel
theorem dX12_isLetter_13 : decode cX12_isLetter 13 = .ok (.goto 4, 3) := by decide +kernel
theorem dX12_isLetter_16 : decode cX12_isLetter 16 = .ok (.iconst 0, 1) := by decide +kernel
theorem dX12_isLetter_17 : decode cX12_isLetter 17 = .ok (.ireturn, 1) := by decide +kernel
theorem dX12_isDigit_0 : decode cX12_isDigit 0 = .ok (.iload_n 0, 1) := by decide +kernel
theorem dX12_isDigit_1 : decode cX12_isDigit 1 = .ok (.bipush 48, 2) := by decide +kernel
theorem dX12_isDigit_3 : decode cX12_isDigit 3 = .ok (.if_icmp .lt 13, 3) := by decide +kernel
theorem dX12_isDigit_6 : decode cX12_isDigit 6 = .ok (.iload_n 0, 1) := by decide +kernel
theorem dX12_isDigit_7 : decode cX12_isDigit 7 = .ok (.bipush 57, 2) := by decide +kernel
theorem dX12_isDigit_9 : decode cX12_isDigit 9 = .ok (.if_icmp .gt 7, 3) := by decide +kernel
theorem dX12_isDigit_12 : decode cX12_isDigit 12 = .ok (.iconst 1, 1) := by decide +kernel
theorem dX12_isDigit_13 : decode cX12_isDigit 13 = .ok (.goto 4, 3) := by decide +kernel
theorem dX12_isDigit_16 : decode cX12_isDigit 16 = .ok (.iconst 0, 1) := by decide +kernel
theorem dX12_isDigit_17 : decode cX12_isDigit 17 = .ok (.ireturn, 1) := by decide +kernel
theorem dX12_rank_0 : decode cX12_rank 0 = .ok (.iload_n 0, 1) := by decide +kernel
theorem dX12_rank_1 : decode cX12_rank 1 = .ok (.invokestatic 236, 3) := by decide +kernel
theorem dX12_rank_4 : decode cX12_rank 4 = .ok (.ifCond .eq 10, 3) := by decide +kernel
theorem dX12_rank_7 : decode cX12_rank 7 = .ok (.iload_n 0, 1) := by decide +kernel
theorem dX12_rank_8 : decode cX12_rank 8 = .ok (.bipush 96, 2) := by decide +kernel
theorem dX12_rank_10 : decode cX12_rank 10 = .ok (.isub, 1) := by decide +kernel
theorem dX12_rank_11 : decode cX12_rank 11 = .ok (.goto 7, 3) := by decide +kernel
theorem dX12_rank_14 : decode cX12_rank 14 = .ok (.iload_n 0, 1) := by decide +kernel
theorem dX12_rank_15 : decode cX12_rank 15 = .ok (.bipush 21, 2) := by decide +kernel
theorem dX12_rank_17 : decode cX12_rank 17 = .ok (.isub, 1) := by decide +kernel
theorem dX12_rank_18 : decode cX12_rank 18 = .ok (.ireturn, 1) := by decide +kernel
theorem dX12_isSignOf_0 : decode cX12_isSignOf 0 = .ok (.iload_n 0, 1) := by decide +kernel
theorem dX12_isSignOf_1 : decode cX12_isSignOf 1 = .ok (.bipush 40, 2) := by decide +kernel
theorem dX12_isSignOf_3 : decode cX12_isSignOf 3 = .ok (.if_icmp .eq 45, 3) := by decide +kernel
theorem dX12_isSignOf_6 : decode cX12_isSignOf 6 = .ok (.iload_n 0, 1) := by decide +kernel
theorem dX12_isSignOf_7 : decode cX12_isSignOf 7 = .ok (.bipush 41, 2) := by decide +kernel
theorem dX12_isSignOf_9 : decode cX12_isSignOf 9 = .ok (.if_icmp .eq 39, 3) := by decide +kernel
theorem dX12_isSignOf_12 : decode cX12_isSignOf 12 = .ok (.iload_n 0, 1) := by decide +kernel
theorem dX12_isSignOf_13 : decode cX12_isSignOf 13 = .ok (.bipush 59, 2) := by decide +kernel
theorem dX12_isSignOf_15 : decode cX12_isSignOf 15 = .ok (.if_icmp .eq 33, 3) := by decide +kernel
theorem dX12_isSignOf_18 : decode cX12_isSignOf 18 = .ok (.iload_n 0, 1) := by decide +kernel
theorem dX12_isSignOf_19 : decode cX12_isSignOf 19 = .ok (.bipush 61, 2) := by decide +kernel
theorem dX12_isSignOf_21 : decode cX12_isSignOf 21 = .ok (.if_icmp .eq 27, 3) := by decide +kernel
theorem dX12_isSignOf_24 : decode cX12_isSignOf 24 = .ok (.iload_n 0, 1) := by decide +kernel
theorem dX12_isSignOf_25 : decode cX12_isSignOf 25 = .ok (.bipush 60, 2) := by decide +kernel
theorem dX12_isSignOf_27 : decode cX12_isSignOf 27 = .ok (.if_icmp .eq 21, 3) := by decide +kernel
theorem dX12_isSignOf_30 : decode cX12_isSignOf 30 = .ok (.iload_n 0, 1) := by decide +kernel
theorem dX12_isSignOf_31 : decode cX12_isSignOf 31 = .ok (.bipush 43, 2) := by decide +kernel
theorem dX12_isSignOf_33 : decode cX12_isSignOf 33 = .ok (.if_icmp .eq 15, 3) := by decide +kernel
theorem dX12_isSignOf_36 : decode cX12_isSignOf 36 = .ok (.iload_n 0, 1) := by decide +kernel
theorem dX12_isSignOf_37 : decode cX12_isSignOf 37 = .ok (.bipush 45, 2) := by decide +kernel
theorem dX12_isSignOf_39 : decode cX12_isSignOf 39 = .ok (.if_icmp .eq 9, 3) := by decide +kernel
theorem dX12_isSignOf_42 : decode cX12_isSignOf 42 = .ok (.iload_n 0, 1) := by decide +kernel
theorem dX12_isSignOf_43 : decode cX12_isSignOf 43 = .ok (.bipush 42, 2) := by decide +kernel
theorem dX12_isSignOf_45 : decode cX12_isSignOf 45 = .ok (.if_icmp .ne 7, 3) := by decide +kernel
theorem dX12_isSignOf_48 : decode cX12_isSignOf 48 = .ok (.iconst 1, 1) := by decide +kernel
theorem dX12_isSignOf_49 : decode cX12_isSignOf 49 = .ok (.goto 4, 3) := by decide +kernel
theorem dX12_isSignOf_52 : decode cX12_isSignOf 52 = .ok (.iconst 0, 1) := by decide +kernel
theorem dX12_isSignOf_53 : decode cX12_isSignOf 53 = .ok (.ireturn, 1) := by decide +kernel
theorem dX12_cutAll_0 : decode cX12_cutAll 0 = .ok (.aload_n 0, 1) := by decide +kernel
theorem dX12_cutAll_1 : decode cX12_cutAll 1 = .ok (.aload_n 0, 1) := by decide +kernel
theorem dX12_cutAll_2 : decode cX12_cutAll 2 = .ok (.getfield 11, 3) := by decide +kernel
theorem dX12_cutAll_5 : decode cX12_cutAll 5 = .ok (.putfield 240, 3) := by decide +kernel
theorem dX12_cutAll_8 : decode cX12_cutAll 8 = .ok (.aload_n 0, 1) := by decide +kernel
theorem dX12_cutAll_9 : decode cX12_cutAll 9 = .ok (.iconst 0, 1) := by decide +kernel
theorem dX12_cutAll_10 : decode cX12_cutAll 10 = .ok (.putfield 11, 3) := by decide +kernel
theorem dX12_cutAll_13 : decode cX12_cutAll 13 = .ok (.iconst 0, 1) := by decide +kernel
theorem dX12_cutAll_14 : decode cX12_cutAll 14 = .ok (.istore_n 1, 1) := by decide +kernel
theorem dX12_cutAll_15 : decode cX12_cutAll 15 = .ok (.iconst 0, 1) := by decide +kernel
theorem dX12_cutAll_16 : decode cX12_cutAll 16 = .ok (.istore_n 2, 1) := by decide +kernel
theorem dX12_cutAll_17 : decode cX12_cutAll 17 = .ok (.iload_n 2, 1) := by decide +kernel
theorem dX12_cutAll_18 : decode cX12_cutAll 18 = .ok (.aload_n 0, 1) := by decide +kernel
theorem dX12_cutAll_19 : decode cX12_cutAll 19 = .ok (.getfield 240, 3) := by decide +kernel
theorem dX12_cutAll_22 : decode cX12_cutAll 22 = .ok (.if_icmp .ge 257, 3) := by decide +kernel
theorem dX12_cutAll_25 : decode cX12_cutAll 25 = .ok (.aload_n 0, 1) := by decide +kernel
theorem dX12_cutAll_26 : decode cX12_cutAll 26 = .ok (.getfield 14, 3) := by decide +kernel
theorem dX12_cutAll_29 : decode cX12_cutAll 29 = .ok (.iload_n 2, 1) := by decide +kernel
theorem dX12_cutAll_30 : decode cX12_cutAll 30 = .ok (.iaload, 1) := by decide +kernel
theorem dX12_cutAll_31 : decode cX12_cutAll 31 = .ok (.istore_n 3, 1) := by decide +kernel
theorem dX12_cutAll_32 : decode cX12_cutAll 32 = .ok (.iload_n 3, 1) := by decide +kernel
theorem dX12_cutAll_33 : decode cX12_cutAll 33 = .ok (.bipush 10, 2) := by decide +kernel
theorem dX12_cutAll_35 : decode cX12_cutAll 35 = .ok (.if_icmp .eq 9, 3) := by decide +kernel
theorem dX12_cutAll_38 : decode cX12_cutAll 38 = .ok (.iload_n 3, 1) := by decide +kernel
theorem dX12_cutAll_39 : decode cX12_cutAll 39 = .ok (.bipush 32, 2) := by decide +kernel
theorem dX12_cutAll_41 : decode cX12_cutAll 41 = .ok (.if_icmp .ne 9, 3) := by decide +kernel
theorem dX12_cutAll_44 : decode cX12_cutAll 44 = .ok (.iinc 2 1, 3) := by decide +kernel
theorem dX12_cutAll_47 : decode cX12_cutAll 47 = .ok (.goto (-30), 3) := by decide +kernel
theorem dX12_cutAll_50 : decode cX12_cutAll 50 = .ok (.iload_n 2, 1) := by decide +kernel
theorem dX12_cutAll_51 : decode cX12_cutAll 51 = .ok (.istore 4, 2) := by decide +kernel
theorem dX12_cutAll_53 : decode cX12_cutAll 53 = .ok (.lconst 0, 1) := by decide +kernel
theorem dX12_cutAll_54 : decode cX12_cutAll 54 = .ok (.lstore 5, 2) := by decide +kernel
theorem dX12_cutAll_56 : decode cX12_cutAll 56 = .ok (.aload_n 0, 1) := by decide +kernel
theorem dX12_cutAll_57 : decode cX12_cutAll 57 = .ok (.getfield 27, 3) := by decide +kernel
theorem dX12_cutAll_60 : decode cX12_cutAll 60 = .ok (.iload_n 1, 1) := by decide +kernel
theorem dX12_cutAll_61 : decode cX12_cutAll 61 = .ok (.iload_n 2, 1) := by decide +kernel
theorem dX12_cutAll_62 : decode cX12_cutAll 62 = .ok (.iastore, 1) := by decide +kernel
theorem dX12_cutAll_63 : decode cX12_cutAll 63 = .ok (.iload_n 3, 1) := by decide +kernel
theorem dX12_cutAll_64 : decode cX12_cutAll 64 = .ok (.invokestatic 236, 3) := by decide +kernel
theorem dX12_cutAll_67 : decode cX12_cutAll 67 = .ok (.ifCond .eq 85, 3) := by decide +kernel
theorem dX12_cutAll_70 : decode cX12_cutAll 70 = .ok (.iload_n 2, 1) := by decide +kernel
theorem dX12_cutAll_71 : decode cX12_cutAll 71 = .ok (.aload_n 0, 1) := by decide +kernel
theorem dX12_cutAll_72 : decode cX12_cutAll 72 = .ok (.getfield 240, 3) := by decide +kernel
theorem dX12_cutAll_75 : decode cX12_cutAll 75 = .ok (.if_icmp .ge 54, 3) := by decide +kernel
theorem dX12_cutAll_78 : decode cX12_cutAll 78 = .ok (.aload_n 0, 1) := by decide +kernel
theorem dX12_cutAll_79 : decode cX12_cutAll 79 = .ok (.getfield 14, 3) := by decide +kernel
theorem dX12_cutAll_82 : decode cX12_cutAll 82 = .ok (.iload_n 2, 1) := by decide +kernel
theorem dX12_cutAll_83 : decode cX12_cutAll 83 = .ok (.iaload, 1) := by decide +kernel
theorem dX12_cutAll_84 : decode cX12_cutAll 84 = .ok (.invokestatic 236, 3) := by decide +kernel
theorem dX12_cutAll_87 : decode cX12_cutAll 87 = .ok (.ifCond .eq 42, 3) := by decide +kernel
theorem dX12_cutAll_90 : decode cX12_cutAll 90 = .ok (.iload_n 2, 1) := by decide +kernel
theorem dX12_cutAll_91 : decode cX12_cutAll 91 = .ok (.iload 4, 2) := by decide +kernel
theorem dX12_cutAll_93 : decode cX12_cutAll 93 = .ok (.isub, 1) := by decide +kernel
theorem dX12_cutAll_94 : decode cX12_cutAll 94 = .ok (.bipush 8, 2) := by decide +kernel
theorem dX12_cutAll_96 : decode cX12_cutAll 96 = .ok (.if_icmp .ge 23, 3) := by decide +kernel
theorem dX12_cutAll_99 : decode cX12_cutAll 99 = .ok (.ldc2_w 243, 3) := by decide +kernel
theorem dX12_cutAll_102 : decode cX12_cutAll 102 = .ok (.lload 5, 2) := by decide +kernel
theorem dX12_cutAll_104 : decode cX12_cutAll 104 = .ok (.lmul, 1) := by decide +kernel
theorem dX12_cutAll_105 : decode cX12_cutAll 105 = .ok (.aload_n 0, 1) := by decide +kernel
theorem dX12_cutAll_106 : decode cX12_cutAll 106 = .ok (.getfield 14, 3) := by decide +kernel
theorem dX12_cutAll_109 : decode cX12_cutAll 109 = .ok (.iload_n 2, 1) := by decide +kernel
theorem dX12_cutAll_110 : decode cX12_cutAll 110 = .ok (.iaload, 1) := by decide +kernel
theorem dX12_cutAll_111 : decode cX12_cutAll 111 = .ok (.invokestatic 245, 3) := by decide +kernel
theorem dX12_cutAll_114 : decode cX12_cutAll 114 = .ok (.i2l, 1) := by decide +kernel
theorem dX12_cutAll_115 : decode cX12_cutAll 115 = .ok (.ladd, 1) := by decide +kernel
theorem dX12_cutAll_116 : decode cX12_cutAll 116 = .ok (.goto 5, 3) := by decide +kernel
theorem dX12_cutAll_119 : decode cX12_cutAll 119 = .ok (.lload 5, 2) := by decide +kernel
theorem dX12_cutAll_121 : decode cX12_cutAll 121 = .ok (.lstore 5, 2) := by decide +kernel
theorem dX12_cutAll_123 : decode cX12_cutAll 123 = .ok (.iinc 2 1, 3) := by decide +kernel
theorem dX12_cutAll_126 : decode cX12_cutAll 126 = .ok (.goto (-56), 3) := by decide +kernel
theorem dX12_cutAll_129 : decode cX12_cutAll 129 = .ok (.aload_n 0, 1) := by decide +kernel
theorem dX12_cutAll_130 : decode cX12_cutAll 130 = .ok (.getfield 24, 3) := by decide +kernel
theorem dX12_cutAll_133 : decode cX12_cutAll 133 = .ok (.iload_n 1, 1) := by decide +kernel
theorem dX12_cutAll_134 : decode cX12_cutAll 134 = .ok (.iload_n 2, 1) := by decide +kernel
theorem dX12_cutAll_135 : decode cX12_cutAll 135 = .ok (.iload 4, 2) := by decide +kernel
theorem dX12_cutAll_137 : decode cX12_cutAll 137 = .ok (.isub, 1) := by decide +kernel
theorem dX12_cutAll_138 : decode cX12_cutAll 138 = .ok (.bipush 8, 2) := by decide +kernel
theorem dX12_cutAll_140 : decode cX12_cutAll 140 = .ok (.if_icmp .le 7, 3) := by decide +kernel
theorem dX12_cutAll_143 : decode cX12_cutAll 143 = .ok (.iconst 4, 1) := by decide +kernel
theorem dX12_cutAll_144 : decode cX12_cutAll 144 = .ok (.goto 4, 3) := by decide +kernel
theorem dX12_cutAll_147 : decode cX12_cutAll 147 = .ok (.iconst 1, 1) := by decide +kernel
theorem dX12_cutAll_148 : decode cX12_cutAll 148 = .ok (.iastore, 1) := by decide +kernel
theorem dX12_cutAll_149 : decode cX12_cutAll 149 = .ok (.goto 116, 3) := by decide +kernel
theorem dX12_cutAll_152 : decode cX12_cutAll 152 = .ok (.iload_n 3, 1) := by decide +kernel
theorem dX12_cutAll_153 : decode cX12_cutAll 153 = .ok (.invokestatic 249, 3) := by decide +kernel
theorem dX12_cutAll_156 : decode cX12_cutAll 156 = .ok (.ifCond .eq 84, 3) := by decide +kernel
theorem dX12_cutAll_159 : decode cX12_cutAll 159 = .ok (.iload_n 2, 1) := by decide +kernel
theorem dX12_cutAll_160 : decode cX12_cutAll 160 = .ok (.aload_n 0, 1) := by decide +kernel
theorem dX12_cutAll_161 : decode cX12_cutAll 161 = .ok (.getfield 240, 3) := by decide +kernel
theorem dX12_cutAll_164 : decode cX12_cutAll 164 = .ok (.if_icmp .ge 54, 3) := by decide +kernel
theorem dX12_cutAll_167 : decode cX12_cutAll 167 = .ok (.aload_n 0, 1) := by decide +kernel
theorem dX12_cutAll_168 : decode cX12_cutAll 168 = .ok (.getfield 14, 3) := by decide +kernel
theorem dX12_cutAll_171 : decode cX12_cutAll 171 = .ok (.iload_n 2, 1) := by decide +kernel
theorem dX12_cutAll_172 : decode cX12_cutAll 172 = .ok (.iaload, 1) := by decide +kernel
theorem dX12_cutAll_173 : decode cX12_cutAll 173 = .ok (.invokestatic 249, 3) := by decide +kernel
theorem dX12_cutAll_176 : decode cX12_cutAll 176 = .ok (.ifCond .eq 42, 3) := by decide +kernel
theorem dX12_cutAll_179 : decode cX12_cutAll 179 = .ok (.iload_n 2, 1) := by decide +kernel
theorem dX12_cutAll_180 : decode cX12_cutAll 180 = .ok (.iload 4, 2) := by decide +kernel
theorem dX12_cutAll_182 : decode cX12_cutAll 182 = .ok (.isub, 1) := by decide +kernel
theorem dX12_cutAll_183 : decode cX12_cutAll 183 = .ok (.iconst 4, 1) := by decide +kernel
theorem dX12_cutAll_184 : decode cX12_cutAll 184 = .ok (.if_icmp .ge 24, 3) := by decide +kernel
theorem dX12_cutAll_187 : decode cX12_cutAll 187 = .ok (.ldc2_w 252, 3) := by decide +kernel
theorem dX12_cutAll_190 : decode cX12_cutAll 190 = .ok (.lload 5, 2) := by decide +kernel
theorem dX12_cutAll_192 : decode cX12_cutAll 192 = .ok (.lmul, 1) := by decide +kernel
theorem dX12_cutAll_193 : decode cX12_cutAll 193 = .ok (.aload_n 0, 1) := by decide +kernel
theorem dX12_cutAll_194 : decode cX12_cutAll 194 = .ok (.getfield 14, 3) := by decide +kernel
theorem dX12_cutAll_197 : decode cX12_cutAll 197 = .ok (.iload_n 2, 1) := by decide +kernel
theorem dX12_cutAll_198 : decode cX12_cutAll 198 = .ok (.iaload, 1) := by decide +kernel
theorem dX12_cutAll_199 : decode cX12_cutAll 199 = .ok (.i2l, 1) := by decide +kernel
theorem dX12_cutAll_200 : decode cX12_cutAll 200 = .ok (.ladd, 1) := by decide +kernel
theorem dX12_cutAll_201 : decode cX12_cutAll 201 = .ok (.ldc2_w 254, 3) := by decide +kernel
theorem dX12_cutAll_204 : decode cX12_cutAll 204 = .ok (.lsub, 1) := by decide +kernel
theorem dX12_cutAll_205 : decode cX12_cutAll 205 = .ok (.goto 5, 3) := by decide +kernel
theorem dX12_cutAll_208 : decode cX12_cutAll 208 = .ok (.lload 5, 2) := by decide +kernel
theorem dX12_cutAll_210 : decode cX12_cutAll 210 = .ok (.lstore 5, 2) := by decide +kernel
theorem dX12_cutAll_212 : decode cX12_cutAll 212 = .ok (.iinc 2 1, 3) := by decide +kernel
theorem dX12_cutAll_215 : decode cX12_cutAll 215 = .ok (.goto (-56), 3) := by decide +kernel
theorem dX12_cutAll_218 : decode cX12_cutAll 218 = .ok (.aload_n 0, 1) := by decide +kernel
theorem dX12_cutAll_219 : decode cX12_cutAll 219 = .ok (.getfield 24, 3) := by decide +kernel
theorem dX12_cutAll_222 : decode cX12_cutAll 222 = .ok (.iload_n 1, 1) := by decide +kernel
theorem dX12_cutAll_223 : decode cX12_cutAll 223 = .ok (.iload_n 2, 1) := by decide +kernel
theorem dX12_cutAll_224 : decode cX12_cutAll 224 = .ok (.iload 4, 2) := by decide +kernel
theorem dX12_cutAll_226 : decode cX12_cutAll 226 = .ok (.isub, 1) := by decide +kernel
theorem dX12_cutAll_227 : decode cX12_cutAll 227 = .ok (.iconst 4, 1) := by decide +kernel
theorem dX12_cutAll_228 : decode cX12_cutAll 228 = .ok (.if_icmp .le 7, 3) := by decide +kernel
theorem dX12_cutAll_231 : decode cX12_cutAll 231 = .ok (.iconst 4, 1) := by decide +kernel
theorem dX12_cutAll_232 : decode cX12_cutAll 232 = .ok (.goto 4, 3) := by decide +kernel
theorem dX12_cutAll_235 : decode cX12_cutAll 235 = .ok (.iconst 2, 1) := by decide +kernel
theorem dX12_cutAll_236 : decode cX12_cutAll 236 = .ok (.iastore, 1) := by decide +kernel
theorem dX12_cutAll_237 : decode cX12_cutAll 237 = .ok (.goto 28, 3) := by decide +kernel
theorem dX12_cutAll_240 : decode cX12_cutAll 240 = .ok (.iload_n 3, 1) := by decide +kernel
theorem dX12_cutAll_241 : decode cX12_cutAll 241 = .ok (.i2l, 1) := by decide +kernel
theorem dX12_cutAll_242 : decode cX12_cutAll 242 = .ok (.lstore 5, 2) := by decide +kernel
theorem dX12_cutAll_244 : decode cX12_cutAll 244 = .ok (.aload_n 0, 1) := by decide +kernel
theorem dX12_cutAll_245 : decode cX12_cutAll 245 = .ok (.getfield 24, 3) := by decide +kernel
theorem dX12_cutAll_248 : decode cX12_cutAll 248 = .ok (.iload_n 1, 1) := by decide +kernel
theorem dX12_cutAll_249 : decode cX12_cutAll 249 = .ok (.iload_n 3, 1) := by decide +kernel
theorem dX12_cutAll_250 : decode cX12_cutAll 250 = .ok (.invokestatic 256, 3) := by decide +kernel
theorem dX12_cutAll_253 : decode cX12_cutAll 253 = .ok (.ifCond .eq 7, 3) := by decide +kernel
theorem dX12_cutAll_256 : decode cX12_cutAll 256 = .ok (.iconst 3, 1) := by decide +kernel
theorem dX12_cutAll_257 : decode cX12_cutAll 257 = .ok (.goto 4, 3) := by decide +kernel
theorem dX12_cutAll_260 : decode cX12_cutAll 260 = .ok (.iconst 4, 1) := by decide +kernel
theorem dX12_cutAll_261 : decode cX12_cutAll 261 = .ok (.iastore, 1) := by decide +kernel
theorem dX12_cutAll_262 : decode cX12_cutAll 262 = .ok (.iinc 2 1, 3) := by decide +kernel
theorem dX12_cutAll_265 : decode cX12_cutAll 265 = .ok (.aload_n 0, 1) := by decide +kernel
theorem dX12_cutAll_266 : decode cX12_cutAll 266 = .ok (.getfield 30, 3) := by decide +kernel
theorem dX12_cutAll_269 : decode cX12_cutAll 269 = .ok (.iload_n 1, 1) := by decide +kernel
theorem dX12_cutAll_270 : decode cX12_cutAll 270 = .ok (.lload 5, 2) := by decide +kernel
theorem dX12_cutAll_272 : decode cX12_cutAll 272 = .ok (.lastore, 1) := by decide +kernel
theorem dX12_cutAll_273 : decode cX12_cutAll 273 = .ok (.iinc 1 1, 3) := by decide +kernel
theorem dX12_cutAll_276 : decode cX12_cutAll 276 = .ok (.goto (-259), 3) := by decide +kernel
theorem dX12_cutAll_279 : decode cX12_cutAll 279 = .ok (.aload_n 0, 1) := by decide +kernel
theorem dX12_cutAll_280 : decode cX12_cutAll 280 = .ok (.getfield 24, 3) := by decide +kernel
theorem dX12_cutAll_283 : decode cX12_cutAll 283 = .ok (.iload_n 1, 1) := by decide +kernel
theorem dX12_cutAll_284 : decode cX12_cutAll 284 = .ok (.iconst 0, 1) := by decide +kernel
theorem dX12_cutAll_285 : decode cX12_cutAll 285 = .ok (.iastore, 1) := by decide +kernel
theorem dX12_cutAll_286 : decode cX12_cutAll 286 = .ok (.aload_n 0, 1) := by decide +kernel
theorem dX12_cutAll_287 : decode cX12_cutAll 287 = .ok (.getfield 27, 3) := by decide +kernel
theorem dX12_cutAll_290 : decode cX12_cutAll 290 = .ok (.iload_n 1, 1) := by decide +kernel
theorem dX12_cutAll_291 : decode cX12_cutAll 291 = .ok (.aload_n 0, 1) := by decide +kernel
theorem dX12_cutAll_292 : decode cX12_cutAll 292 = .ok (.getfield 240, 3) := by decide +kernel
theorem dX12_cutAll_295 : decode cX12_cutAll 295 = .ok (.iastore, 1) := by decide +kernel
theorem dX12_cutAll_296 : decode cX12_cutAll 296 = .ok (.aload_n 0, 1) := by decide +kernel
theorem dX12_cutAll_297 : decode cX12_cutAll 297 = .ok (.iconst 0, 1) := by decide +kernel
theorem dX12_cutAll_298 : decode cX12_cutAll 298 = .ok (.putfield 259, 3) := by decide +kernel
theorem dX12_cutAll_301 : decode cX12_cutAll 301 = .ok (.aload_n 0, 1) := by decide +kernel
theorem dX12_cutAll_302 : decode cX12_cutAll 302 = .ok (.iconst 0, 1) := by decide +kernel
theorem dX12_cutAll_303 : decode cX12_cutAll 303 = .ok (.putfield 262, 3) := by decide +kernel
theorem dX12_cutAll_306 : decode cX12_cutAll 306 = .ok (.return_, 1) := by decide +kernel
theorem dX12_wrong_0 : decode cX12_wrong 0 = .ok (.aload_n 0, 1) := by decide +kernel
theorem dX12_wrong_1 : decode cX12_wrong 1 = .ok (.getfield 262, 3) := by decide +kernel
theorem dX12_wrong_4 : decode cX12_wrong 4 = .ok (.ifCond .ne 21, 3) := by decide +kernel
theorem dX12_wrong_7 : decode cX12_wrong 7 = .ok (.aload_n 0, 1) := by decide +kernel
theorem dX12_wrong_8 : decode cX12_wrong 8 = .ok (.iload_n 1, 1) := by decide +kernel
theorem dX12_wrong_9 : decode cX12_wrong 9 = .ok (.bipush 16, 2) := by decide +kernel
theorem dX12_wrong_11 : decode cX12_wrong 11 = .ok (.aload_n 0, 1) := by decide +kernel
theorem dX12_wrong_12 : decode cX12_wrong 12 = .ok (.getfield 27, 3) := by decide +kernel
theorem dX12_wrong_15 : decode cX12_wrong 15 = .ok (.aload_n 0, 1) := by decide +kernel
theorem dX12_wrong_16 : decode cX12_wrong 16 = .ok (.getfield 259, 3) := by decide +kernel
theorem dX12_wrong_19 : decode cX12_wrong 19 = .ok (.iaload, 1) := by decide +kernel
theorem dX12_wrong_20 : decode cX12_wrong 20 = .ok (.imul, 1) := by decide +kernel
theorem dX12_wrong_21 : decode cX12_wrong 21 = .ok (.iadd, 1) := by decide +kernel
theorem dX12_wrong_22 : decode cX12_wrong 22 = .ok (.putfield 262, 3) := by decide +kernel
theorem dX12_wrong_25 : decode cX12_wrong 25 = .ok (.return_, 1) := by decide +kernel
theorem dX12_isSign_0 : decode cX12_isSign 0 = .ok (.aload_n 0, 1) := by decide +kernel
theorem dX12_isSign_1 : decode cX12_isSign 1 = .ok (.getfield 262, 3) := by decide +kernel
theorem dX12_isSign_4 : decode cX12_isSign 4 = .ok (.ifCond .ne 35, 3) := by decide +kernel
theorem dX12_isSign_7 : decode cX12_isSign 7 = .ok (.aload_n 0, 1) := by decide +kernel
theorem dX12_isSign_8 : decode cX12_isSign 8 = .ok (.getfield 24, 3) := by decide +kernel
theorem dX12_isSign_11 : decode cX12_isSign 11 = .ok (.aload_n 0, 1) := by decide +kernel
theorem dX12_isSign_12 : decode cX12_isSign 12 = .ok (.getfield 259, 3) := by decide +kernel
theorem dX12_isSign_15 : decode cX12_isSign 15 = .ok (.iaload, 1) := by decide +kernel
theorem dX12_isSign_16 : decode cX12_isSign 16 = .ok (.iconst 3, 1) := by decide +kernel
theorem dX12_isSign_17 : decode cX12_isSign 17 = .ok (.if_icmp .ne 22, 3) := by decide +kernel
theorem dX12_isSign_20 : decode cX12_isSign 20 = .ok (.aload_n 0, 1) := by decide +kernel
theorem dX12_isSign_21 : decode cX12_isSign 21 = .ok (.getfield 30, 3) := by decide +kernel
theorem dX12_isSign_24 : decode cX12_isSign 24 = .ok (.aload_n 0, 1) := by decide +kernel
theorem dX12_isSign_25 : decode cX12_isSign 25 = .ok (.getfield 259, 3) := by decide +kernel
theorem dX12_isSign_28 : decode cX12_isSign 28 = .ok (.laload, 1) := by decide +kernel
theorem dX12_isSign_29 : decode cX12_isSign 29 = .ok (.iload_n 1, 1) := by decide +kernel
theorem dX12_isSign_30 : decode cX12_isSign 30 = .ok (.i2l, 1) := by decide +kernel
theorem dX12_isSign_31 : decode cX12_isSign 31 = .ok (.lcmp, 1) := by decide +kernel
theorem dX12_isSign_32 : decode cX12_isSign 32 = .ok (.ifCond .ne 7, 3) := by decide +kernel
theorem dX12_isSign_35 : decode cX12_isSign 35 = .ok (.iconst 1, 1) := by decide +kernel
theorem dX12_isSign_36 : decode cX12_isSign 36 = .ok (.goto 4, 3) := by decide +kernel
theorem dX12_isSign_39 : decode cX12_isSign 39 = .ok (.iconst 0, 1) := by decide +kernel
theorem dX12_isSign_40 : decode cX12_isSign 40 = .ok (.ireturn, 1) := by decide +kernel
theorem dX12_isWord_0 : decode cX12_isWord 0 = .ok (.aload_n 0, 1) := by decide +kernel
theorem dX12_isWord_1 : decode cX12_isWord 1 = .ok (.getfield 262, 3) := by decide +kernel
theorem dX12_isWord_4 : decode cX12_isWord 4 = .ok (.ifCond .ne 39, 3) := by decide +kernel
theorem dX12_isWord_7 : decode cX12_isWord 7 = .ok (.aload_n 0, 1) := by decide +kernel
theorem dX12_isWord_8 : decode cX12_isWord 8 = .ok (.getfield 24, 3) := by decide +kernel
theorem dX12_isWord_11 : decode cX12_isWord 11 = .ok (.aload_n 0, 1) := by decide +kernel
theorem dX12_isWord_12 : decode cX12_isWord 12 = .ok (.getfield 259, 3) := by decide +kernel
theorem dX12_isWord_15 : decode cX12_isWord 15 = .ok (.iaload, 1) := by decide +kernel
theorem dX12_isWord_16 : decode cX12_isWord 16 = .ok (.iconst 1, 1) := by decide +kernel
theorem dX12_isWord_17 : decode cX12_isWord 17 = .ok (.if_icmp .ne 26, 3) := by decide +kernel
theorem dX12_isWord_20 : decode cX12_isWord 20 = .ok (.aload_n 0, 1) := by decide +kernel
theorem dX12_isWord_21 : decode cX12_isWord 21 = .ok (.getfield 30, 3) := by decide +kernel
theorem dX12_isWord_24 : decode cX12_isWord 24 = .ok (.aload_n 0, 1) := by decide +kernel
theorem dX12_isWord_25 : decode cX12_isWord 25 = .ok (.getfield 259, 3) := by decide +kernel
theorem dX12_isWord_28 : decode cX12_isWord 28 = .ok (.laload, 1) := by decide +kernel
theorem dX12_isWord_29 : decode cX12_isWord 29 = .ok (.aload_n 0, 1) := by decide +kernel
theorem dX12_isWord_30 : decode cX12_isWord 30 = .ok (.getfield 76, 3) := by decide +kernel
theorem dX12_isWord_33 : decode cX12_isWord 33 = .ok (.iload_n 1, 1) := by decide +kernel
theorem dX12_isWord_34 : decode cX12_isWord 34 = .ok (.laload, 1) := by decide +kernel
theorem dX12_isWord_35 : decode cX12_isWord 35 = .ok (.lcmp, 1) := by decide +kernel
theorem dX12_isWord_36 : decode cX12_isWord 36 = .ok (.ifCond .ne 7, 3) := by decide +kernel
theorem dX12_isWord_39 : decode cX12_isWord 39 = .ok (.iconst 1, 1) := by decide +kernel
theorem dX12_isWord_40 : decode cX12_isWord 40 = .ok (.goto 4, 3) := by decide +kernel
theorem dX12_isWord_43 : decode cX12_isWord 43 = .ok (.iconst 0, 1) := by decide +kernel
theorem dX12_isWord_44 : decode cX12_isWord 44 = .ok (.ireturn, 1) := by decide +kernel
theorem dX12_takeSign_0 : decode cX12_takeSign 0 = .ok (.aload_n 0, 1) := by decide +kernel
theorem dX12_takeSign_1 : decode cX12_takeSign 1 = .ok (.iload_n 1, 1) := by decide +kernel
theorem dX12_takeSign_2 : decode cX12_takeSign 2 = .ok (.invokevirtual 265, 3) := by decide +kernel
theorem dX12_takeSign_5 : decode cX12_takeSign 5 = .ok (.ifCond .eq 16, 3) := by decide +kernel
theorem dX12_takeSign_8 : decode cX12_takeSign 8 = .ok (.aload_n 0, 1) := by decide +kernel
theorem dX12_takeSign_9 : decode cX12_takeSign 9 = .ok (.dup, 1) := by decide +kernel
theorem dX12_takeSign_10 : decode cX12_takeSign 10 = .ok (.getfield 259, 3) := by decide +kernel
theorem dX12_takeSign_13 : decode cX12_takeSign 13 = .ok (.iconst 1, 1) := by decide +kernel
theorem dX12_takeSign_14 : decode cX12_takeSign 14 = .ok (.iadd, 1) := by decide +kernel
theorem dX12_takeSign_15 : decode cX12_takeSign 15 = .ok (.putfield 259, 3) := by decide +kernel
theorem dX12_takeSign_18 : decode cX12_takeSign 18 = .ok (.goto 8, 3) := by decide +kernel
theorem dX12_takeSign_21 : decode cX12_takeSign 21 = .ok (.aload_n 0, 1) := by decide +kernel
theorem dX12_takeSign_22 : decode cX12_takeSign 22 = .ok (.iconst 1, 1) := by decide +kernel
theorem dX12_takeSign_23 : decode cX12_takeSign 23 = .ok (.invokevirtual 268, 3) := by decide +kernel
theorem dX12_takeSign_26 : decode cX12_takeSign 26 = .ok (.return_, 1) := by decide +kernel
theorem dX12_hasSign_0 : decode cX12_hasSign 0 = .ok (.aload_n 0, 1) := by decide +kernel
theorem dX12_hasSign_1 : decode cX12_hasSign 1 = .ok (.iload_n 1, 1) := by decide +kernel
theorem dX12_hasSign_2 : decode cX12_hasSign 2 = .ok (.invokevirtual 265, 3) := by decide +kernel
theorem dX12_hasSign_5 : decode cX12_hasSign 5 = .ok (.istore_n 2, 1) := by decide +kernel
theorem dX12_hasSign_6 : decode cX12_hasSign 6 = .ok (.aload_n 0, 1) := by decide +kernel
theorem dX12_hasSign_7 : decode cX12_hasSign 7 = .ok (.dup, 1) := by decide +kernel
theorem dX12_hasSign_8 : decode cX12_hasSign 8 = .ok (.getfield 259, 3) := by decide +kernel
theorem dX12_hasSign_11 : decode cX12_hasSign 11 = .ok (.iload_n 2, 1) := by decide +kernel
theorem dX12_hasSign_12 : decode cX12_hasSign 12 = .ok (.ifCond .eq 7, 3) := by decide +kernel
theorem dX12_hasSign_15 : decode cX12_hasSign 15 = .ok (.iconst 1, 1) := by decide +kernel
theorem dX12_hasSign_16 : decode cX12_hasSign 16 = .ok (.goto 4, 3) := by decide +kernel
theorem dX12_hasSign_19 : decode cX12_hasSign 19 = .ok (.iconst 0, 1) := by decide +kernel
theorem dX12_hasSign_20 : decode cX12_hasSign 20 = .ok (.iadd, 1) := by decide +kernel
theorem dX12_hasSign_21 : decode cX12_hasSign 21 = .ok (.putfield 259, 3) := by decide +kernel
theorem dX12_hasSign_24 : decode cX12_hasSign 24 = .ok (.iload_n 2, 1) := by decide +kernel
theorem dX12_hasSign_25 : decode cX12_hasSign 25 = .ok (.ireturn, 1) := by decide +kernel
theorem dX12_hasWord_0 : decode cX12_hasWord 0 = .ok (.aload_n 0, 1) := by decide +kernel
theorem dX12_hasWord_1 : decode cX12_hasWord 1 = .ok (.iload_n 1, 1) := by decide +kernel
theorem dX12_hasWord_2 : decode cX12_hasWord 2 = .ok (.invokevirtual 272, 3) := by decide +kernel
theorem dX12_hasWord_5 : decode cX12_hasWord 5 = .ok (.istore_n 2, 1) := by decide +kernel
theorem dX12_hasWord_6 : decode cX12_hasWord 6 = .ok (.aload_n 0, 1) := by decide +kernel
theorem dX12_hasWord_7 : decode cX12_hasWord 7 = .ok (.dup, 1) := by decide +kernel
theorem dX12_hasWord_8 : decode cX12_hasWord 8 = .ok (.getfield 259, 3) := by decide +kernel
theorem dX12_hasWord_11 : decode cX12_hasWord 11 = .ok (.iload_n 2, 1) := by decide +kernel
theorem dX12_hasWord_12 : decode cX12_hasWord 12 = .ok (.ifCond .eq 7, 3) := by decide +kernel
theorem dX12_hasWord_15 : decode cX12_hasWord 15 = .ok (.iconst 1, 1) := by decide +kernel
theorem dX12_hasWord_16 : decode cX12_hasWord 16 = .ok (.goto 4, 3) := by decide +kernel
theorem dX12_hasWord_19 : decode cX12_hasWord 19 = .ok (.iconst 0, 1) := by decide +kernel
theorem dX12_hasWord_20 : decode cX12_hasWord 20 = .ok (.iadd, 1) := by decide +kernel
theorem dX12_hasWord_21 : decode cX12_hasWord 21 = .ok (.putfield 259, 3) := by decide +kernel
theorem dX12_hasWord_24 : decode cX12_hasWord 24 = .ok (.iload_n 2, 1) := by decide +kernel
theorem dX12_hasWord_25 : decode cX12_hasWord 25 = .ok (.ireturn, 1) := by decide +kernel
theorem dX12_takeWord_0 : decode cX12_takeWord 0 = .ok (.aload_n 0, 1) := by decide +kernel
theorem dX12_takeWord_1 : decode cX12_takeWord 1 = .ok (.iload_n 1, 1) := by decide +kernel
theorem dX12_takeWord_2 : decode cX12_takeWord 2 = .ok (.invokevirtual 275, 3) := by decide +kernel
theorem dX12_takeWord_5 : decode cX12_takeWord 5 = .ok (.ifCond .ne 8, 3) := by decide +kernel
theorem dX12_takeWord_8 : decode cX12_takeWord 8 = .ok (.aload_n 0, 1) := by decide +kernel
theorem dX12_takeWord_9 : decode cX12_takeWord 9 = .ok (.iconst 1, 1) := by decide +kernel
theorem dX12_takeWord_10 : decode cX12_takeWord 10 = .ok (.invokevirtual 268, 3) := by decide +kernel
theorem dX12_takeWord_13 : decode cX12_takeWord 13 = .ok (.return_, 1) := by decide +kernel
theorem dX12_emit_0 : decode cX12_emit 0 = .ok (.aload_n 0, 1) := by decide +kernel
theorem dX12_emit_1 : decode cX12_emit 1 = .ok (.getfield 100, 3) := by decide +kernel
theorem dX12_emit_4 : decode cX12_emit 4 = .ok (.sipush 19200, 3) := by decide +kernel
theorem dX12_emit_7 : decode cX12_emit 7 = .ok (.aload_n 0, 1) := by decide +kernel
theorem dX12_emit_8 : decode cX12_emit 8 = .ok (.getfield 278, 3) := by decide +kernel
theorem dX12_emit_11 : decode cX12_emit 11 = .ok (.iadd, 1) := by decide +kernel
theorem dX12_emit_12 : decode cX12_emit 12 = .ok (.iload_n 1, 1) := by decide +kernel
theorem dX12_emit_13 : decode cX12_emit 13 = .ok (.iastore, 1) := by decide +kernel
theorem dX12_emit_14 : decode cX12_emit 14 = .ok (.aload_n 0, 1) := by decide +kernel
theorem dX12_emit_15 : decode cX12_emit 15 = .ok (.getfield 103, 3) := by decide +kernel
theorem dX12_emit_18 : decode cX12_emit 18 = .ok (.sipush 19200, 3) := by decide +kernel
theorem dX12_emit_21 : decode cX12_emit 21 = .ok (.aload_n 0, 1) := by decide +kernel
theorem dX12_emit_22 : decode cX12_emit 22 = .ok (.getfield 278, 3) := by decide +kernel
theorem dX12_emit_25 : decode cX12_emit 25 = .ok (.iadd, 1) := by decide +kernel
theorem dX12_emit_26 : decode cX12_emit 26 = .ok (.iload_n 2, 1) := by decide +kernel
theorem dX12_emit_27 : decode cX12_emit 27 = .ok (.iastore, 1) := by decide +kernel
theorem dX12_emit_28 : decode cX12_emit 28 = .ok (.aload_n 0, 1) := by decide +kernel
theorem dX12_emit_29 : decode cX12_emit 29 = .ok (.dup, 1) := by decide +kernel
theorem dX12_emit_30 : decode cX12_emit 30 = .ok (.getfield 278, 3) := by decide +kernel
theorem dX12_emit_33 : decode cX12_emit 33 = .ok (.iconst 1, 1) := by decide +kernel
theorem dX12_emit_34 : decode cX12_emit 34 = .ok (.iadd, 1) := by decide +kernel
theorem dX12_emit_35 : decode cX12_emit 35 = .ok (.putfield 278, 3) := by decide +kernel
theorem dX12_emit_38 : decode cX12_emit 38 = .ok (.return_, 1) := by decide +kernel
theorem dX12_law_0 : decode cX12_law 0 = .ok (.aload_n 0, 1) := by decide +kernel
theorem dX12_law_1 : decode cX12_law 1 = .ok (.iconst 0, 1) := by decide +kernel
theorem dX12_law_2 : decode cX12_law 2 = .ok (.putfield 1, 3) := by decide +kernel
theorem dX12_law_5 : decode cX12_law 5 = .ok (.iload_n 1, 1) := by decide +kernel
theorem dX12_law_6 : decode cX12_law 6 = .ok (.ifCond .lt 18, 3) := by decide +kernel
theorem dX12_law_9 : decode cX12_law 9 = .ok (.iload_n 1, 1) := by decide +kernel
theorem dX12_law_10 : decode cX12_law 10 = .ok (.bipush 31, 2) := by decide +kernel
theorem dX12_law_12 : decode cX12_law 12 = .ok (.if_icmp .ge 12, 3) := by decide +kernel
theorem dX12_law_15 : decode cX12_law 15 = .ok (.aload_n 0, 1) := by decide +kernel
theorem dX12_law_16 : decode cX12_law 16 = .ok (.getfield 281, 3) := by decide +kernel
theorem dX12_law_19 : decode cX12_law 19 = .ok (.bipush 16, 2) := by decide +kernel
theorem dX12_law_21 : decode cX12_law 21 = .ok (.if_icmp .ne 10, 3) := by decide +kernel
theorem dX12_law_24 : decode cX12_law 24 = .ok (.aload_n 0, 1) := by decide +kernel
theorem dX12_law_25 : decode cX12_law 25 = .ok (.iconst 0, 1) := by decide +kernel
theorem dX12_law_26 : decode cX12_law 26 = .ok (.putfield 11, 3) := by decide +kernel
theorem dX12_law_29 : decode cX12_law 29 = .ok (.iconst (-1), 1) := by decide +kernel
theorem dX12_law_30 : decode cX12_law 30 = .ok (.ireturn, 1) := by decide +kernel
theorem dX12_law_31 : decode cX12_law 31 = .ok (.aload_n 0, 1) := by decide +kernel
theorem dX12_law_32 : decode cX12_law 32 = .ok (.invokevirtual 284, 3) := by decide +kernel
theorem dX12_law_35 : decode cX12_law 35 = .ok (.aload_n 0, 1) := by decide +kernel
theorem dX12_law_36 : decode cX12_law 36 = .ok (.iconst 0, 1) := by decide +kernel
theorem dX12_law_37 : decode cX12_law 37 = .ok (.putfield 278, 3) := by decide +kernel
theorem dX12_law_40 : decode cX12_law 40 = .ok (.aload_n 0, 1) := by decide +kernel
theorem dX12_law_41 : decode cX12_law 41 = .ok (.iconst 0, 1) := by decide +kernel
theorem dX12_law_42 : decode cX12_law 42 = .ok (.putfield 287, 3) := by decide +kernel
theorem dX12_law_45 : decode cX12_law 45 = .ok (.aload_n 0, 1) := by decide +kernel
theorem dX12_law_46 : decode cX12_law 46 = .ok (.getfield 85, 3) := by decide +kernel
theorem dX12_law_49 : decode cX12_law 49 = .ok (.bipush 16, 2) := by decide +kernel
theorem dX12_law_51 : decode cX12_law 51 = .ok (.iconst 0, 1) := by decide +kernel
theorem dX12_law_52 : decode cX12_law 52 = .ok (.iastore, 1) := by decide +kernel
theorem dX12_law_53 : decode cX12_law 53 = .ok (.aload_n 0, 1) := by decide +kernel
theorem dX12_law_54 : decode cX12_law 54 = .ok (.getfield 262, 3) := by decide +kernel
theorem dX12_law_57 : decode cX12_law 57 = .ok (.ifCond .ne 22, 3) := by decide +kernel
theorem dX12_law_60 : decode cX12_law 60 = .ok (.aload_n 0, 1) := by decide +kernel
theorem dX12_law_61 : decode cX12_law 61 = .ok (.getfield 24, 3) := by decide +kernel
theorem dX12_law_64 : decode cX12_law 64 = .ok (.aload_n 0, 1) := by decide +kernel
theorem dX12_law_65 : decode cX12_law 65 = .ok (.getfield 259, 3) := by decide +kernel
theorem dX12_law_68 : decode cX12_law 68 = .ok (.iaload, 1) := by decide +kernel
theorem dX12_law_69 : decode cX12_law 69 = .ok (.ifCond .eq 10, 3) := by decide +kernel
theorem dX12_law_72 : decode cX12_law 72 = .ok (.aload_n 0, 1) := by decide +kernel
theorem dX12_law_73 : decode cX12_law 73 = .ok (.invokevirtual 290, 3) := by decide +kernel
theorem dX12_law_76 : decode cX12_law 76 = .ok (.goto (-23), 3) := by decide +kernel
theorem dX12_law_79 : decode cX12_law 79 = .ok (.aload_n 0, 1) := by decide +kernel
theorem dX12_law_80 : decode cX12_law 80 = .ok (.getfield 262, 3) := by decide +kernel
theorem dX12_law_83 : decode cX12_law 83 = .ok (.ifCond .ne 8, 3) := by decide +kernel
theorem dX12_law_86 : decode cX12_law 86 = .ok (.aload_n 0, 1) := by decide +kernel
theorem dX12_law_87 : decode cX12_law 87 = .ok (.iload_n 1, 1) := by decide +kernel
theorem dX12_law_88 : decode cX12_law 88 = .ok (.invokevirtual 293, 3) := by decide +kernel
theorem dX12_law_91 : decode cX12_law 91 = .ok (.aload_n 0, 1) := by decide +kernel
theorem dX12_law_92 : decode cX12_law 92 = .ok (.getfield 262, 3) := by decide +kernel
theorem dX12_law_95 : decode cX12_law 95 = .ok (.ireturn, 1) := by decide +kernel
theorem dX12_keeps_0 : decode cX12_keeps 0 = .ok (.aload_n 0, 1) := by decide +kernel
theorem dX12_keeps_1 : decode cX12_keeps 1 = .ok (.getfield 281, 3) := by decide +kernel
theorem dX12_keeps_4 : decode cX12_keeps 4 = .ok (.istore_n 2, 1) := by decide +kernel
theorem dX12_keeps_5 : decode cX12_keeps 5 = .ok (.aload_n 0, 1) := by decide +kernel
theorem dX12_keeps_6 : decode cX12_keeps 6 = .ok (.getfield 79, 3) := by decide +kernel
theorem dX12_keeps_9 : decode cX12_keeps 9 = .ok (.iload_n 2, 1) := by decide +kernel
theorem dX12_keeps_10 : decode cX12_keeps 10 = .ok (.iload_n 1, 1) := by decide +kernel
theorem dX12_keeps_11 : decode cX12_keeps 11 = .ok (.iastore, 1) := by decide +kernel
theorem dX12_keeps_12 : decode cX12_keeps 12 = .ok (.aload_n 0, 1) := by decide +kernel
theorem dX12_keeps_13 : decode cX12_keeps 13 = .ok (.getfield 82, 3) := by decide +kernel
theorem dX12_keeps_16 : decode cX12_keeps 16 = .ok (.iload_n 2, 1) := by decide +kernel
theorem dX12_keeps_17 : decode cX12_keeps 17 = .ok (.aload_n 0, 1) := by decide +kernel
theorem dX12_keeps_18 : decode cX12_keeps 18 = .ok (.getfield 296, 3) := by decide +kernel
theorem dX12_keeps_21 : decode cX12_keeps 21 = .ok (.iastore, 1) := by decide +kernel
theorem dX12_keeps_22 : decode cX12_keeps 22 = .ok (.aload_n 0, 1) := by decide +kernel
theorem dX12_keeps_23 : decode cX12_keeps 23 = .ok (.getfield 85, 3) := by decide +kernel
theorem dX12_keeps_26 : decode cX12_keeps 26 = .ok (.iload_n 2, 1) := by decide +kernel
theorem dX12_keeps_27 : decode cX12_keeps 27 = .ok (.aload_n 0, 1) := by decide +kernel
theorem dX12_keeps_28 : decode cX12_keeps 28 = .ok (.getfield 85, 3) := by decide +kernel
theorem dX12_keeps_31 : decode cX12_keeps 31 = .ok (.bipush 16, 2) := by decide +kernel
theorem dX12_keeps_33 : decode cX12_keeps 33 = .ok (.iaload, 1) := by decide +kernel
theorem dX12_keeps_34 : decode cX12_keeps 34 = .ok (.iastore, 1) := by decide +kernel
theorem dX12_keeps_35 : decode cX12_keeps 35 = .ok (.iconst 0, 1) := by decide +kernel
theorem dX12_keeps_36 : decode cX12_keeps 36 = .ok (.istore_n 3, 1) := by decide +kernel
theorem dX12_keeps_37 : decode cX12_keeps 37 = .ok (.iload_n 3, 1) := by decide +kernel
theorem dX12_keeps_38 : decode cX12_keeps 38 = .ok (.aload_n 0, 1) := by decide +kernel
theorem dX12_keeps_39 : decode cX12_keeps 39 = .ok (.getfield 85, 3) := by decide +kernel
theorem dX12_keeps_42 : decode cX12_keeps 42 = .ok (.bipush 16, 2) := by decide +kernel
theorem dX12_keeps_44 : decode cX12_keeps 44 = .ok (.iaload, 1) := by decide +kernel
theorem dX12_keeps_45 : decode cX12_keeps 45 = .ok (.if_icmp .ge 82, 3) := by decide +kernel
theorem dX12_keeps_48 : decode cX12_keeps 48 = .ok (.aload_n 0, 1) := by decide +kernel
theorem dX12_keeps_49 : decode cX12_keeps 49 = .ok (.getfield 88, 3) := by decide +kernel
theorem dX12_keeps_52 : decode cX12_keeps 52 = .ok (.bipush 20, 2) := by decide +kernel
theorem dX12_keeps_54 : decode cX12_keeps 54 = .ok (.iload_n 2, 1) := by decide +kernel
theorem dX12_keeps_55 : decode cX12_keeps 55 = .ok (.imul, 1) := by decide +kernel
theorem dX12_keeps_56 : decode cX12_keeps 56 = .ok (.iload_n 3, 1) := by decide +kernel
theorem dX12_keeps_57 : decode cX12_keeps 57 = .ok (.iadd, 1) := by decide +kernel
theorem dX12_keeps_58 : decode cX12_keeps 58 = .ok (.aload_n 0, 1) := by decide +kernel
theorem dX12_keeps_59 : decode cX12_keeps 59 = .ok (.getfield 88, 3) := by decide +kernel
theorem dX12_keeps_62 : decode cX12_keeps 62 = .ok (.sipush 320, 3) := by decide +kernel
theorem dX12_keeps_65 : decode cX12_keeps 65 = .ok (.iload_n 3, 1) := by decide +kernel
theorem dX12_keeps_66 : decode cX12_keeps 66 = .ok (.iadd, 1) := by decide +kernel
theorem dX12_keeps_67 : decode cX12_keeps 67 = .ok (.iaload, 1) := by decide +kernel
theorem dX12_keeps_68 : decode cX12_keeps 68 = .ok (.iastore, 1) := by decide +kernel
theorem dX12_keeps_69 : decode cX12_keeps 69 = .ok (.aload_n 0, 1) := by decide +kernel
theorem dX12_keeps_70 : decode cX12_keeps 70 = .ok (.getfield 91, 3) := by decide +kernel
theorem dX12_keeps_73 : decode cX12_keeps 73 = .ok (.bipush 20, 2) := by decide +kernel
theorem dX12_keeps_75 : decode cX12_keeps 75 = .ok (.iload_n 2, 1) := by decide +kernel
theorem dX12_keeps_76 : decode cX12_keeps 76 = .ok (.imul, 1) := by decide +kernel
theorem dX12_keeps_77 : decode cX12_keeps 77 = .ok (.iload_n 3, 1) := by decide +kernel
theorem dX12_keeps_78 : decode cX12_keeps 78 = .ok (.iadd, 1) := by decide +kernel
theorem dX12_keeps_79 : decode cX12_keeps 79 = .ok (.aload_n 0, 1) := by decide +kernel
theorem dX12_keeps_80 : decode cX12_keeps 80 = .ok (.getfield 91, 3) := by decide +kernel
theorem dX12_keeps_83 : decode cX12_keeps 83 = .ok (.sipush 320, 3) := by decide +kernel
theorem dX12_keeps_86 : decode cX12_keeps 86 = .ok (.iload_n 3, 1) := by decide +kernel
theorem dX12_keeps_87 : decode cX12_keeps 87 = .ok (.iadd, 1) := by decide +kernel
theorem dX12_keeps_88 : decode cX12_keeps 88 = .ok (.iaload, 1) := by decide +kernel
theorem dX12_keeps_89 : decode cX12_keeps 89 = .ok (.iastore, 1) := by decide +kernel
theorem dX12_keeps_90 : decode cX12_keeps 90 = .ok (.aload_n 0, 1) := by decide +kernel
theorem dX12_keeps_91 : decode cX12_keeps 91 = .ok (.getfield 94, 3) := by decide +kernel
theorem dX12_keeps_94 : decode cX12_keeps 94 = .ok (.bipush 20, 2) := by decide +kernel
theorem dX12_keeps_96 : decode cX12_keeps 96 = .ok (.iload_n 2, 1) := by decide +kernel
theorem dX12_keeps_97 : decode cX12_keeps 97 = .ok (.imul, 1) := by decide +kernel
theorem dX12_keeps_98 : decode cX12_keeps 98 = .ok (.iload_n 3, 1) := by decide +kernel
theorem dX12_keeps_99 : decode cX12_keeps 99 = .ok (.iadd, 1) := by decide +kernel
theorem dX12_keeps_100 : decode cX12_keeps 100 = .ok (.aload_n 0, 1) := by decide +kernel
theorem dX12_keeps_101 : decode cX12_keeps 101 = .ok (.getfield 94, 3) := by decide +kernel
theorem dX12_keeps_104 : decode cX12_keeps 104 = .ok (.sipush 320, 3) := by decide +kernel
theorem dX12_keeps_107 : decode cX12_keeps 107 = .ok (.iload_n 3, 1) := by decide +kernel
theorem dX12_keeps_108 : decode cX12_keeps 108 = .ok (.iadd, 1) := by decide +kernel
theorem dX12_keeps_109 : decode cX12_keeps 109 = .ok (.iaload, 1) := by decide +kernel
theorem dX12_keeps_110 : decode cX12_keeps 110 = .ok (.sipush 19200, 3) := by decide +kernel
theorem dX12_keeps_113 : decode cX12_keeps 113 = .ok (.isub, 1) := by decide +kernel
theorem dX12_keeps_114 : decode cX12_keeps 114 = .ok (.sipush 1200, 3) := by decide +kernel
theorem dX12_keeps_117 : decode cX12_keeps 117 = .ok (.iload_n 2, 1) := by decide +kernel
theorem dX12_keeps_118 : decode cX12_keeps 118 = .ok (.imul, 1) := by decide +kernel
theorem dX12_keeps_119 : decode cX12_keeps 119 = .ok (.iadd, 1) := by decide +kernel
theorem dX12_keeps_120 : decode cX12_keeps 120 = .ok (.iastore, 1) := by decide +kernel
theorem dX12_keeps_121 : decode cX12_keeps 121 = .ok (.iinc 3 1, 3) := by decide +kernel
theorem dX12_keeps_124 : decode cX12_keeps 124 = .ok (.goto (-87), 3) := by decide +kernel
theorem dX12_keeps_127 : decode cX12_keeps 127 = .ok (.iconst 0, 1) := by decide +kernel
theorem dX12_keeps_128 : decode cX12_keeps 128 = .ok (.istore_n 3, 1) := by decide +kernel
theorem dX12_keeps_129 : decode cX12_keeps 129 = .ok (.iload_n 3, 1) := by decide +kernel
theorem dX12_keeps_130 : decode cX12_keeps 130 = .ok (.aload_n 0, 1) := by decide +kernel
theorem dX12_keeps_131 : decode cX12_keeps 131 = .ok (.getfield 278, 3) := by decide +kernel
theorem dX12_keeps_134 : decode cX12_keeps 134 = .ok (.if_icmp .ge 53, 3) := by decide +kernel
theorem dX12_keeps_137 : decode cX12_keeps 137 = .ok (.aload_n 0, 1) := by decide +kernel
theorem dX12_keeps_138 : decode cX12_keeps 138 = .ok (.getfield 100, 3) := by decide +kernel
theorem dX12_keeps_141 : decode cX12_keeps 141 = .ok (.sipush 1200, 3) := by decide +kernel
theorem dX12_keeps_144 : decode cX12_keeps 144 = .ok (.iload_n 2, 1) := by decide +kernel
theorem dX12_keeps_145 : decode cX12_keeps 145 = .ok (.imul, 1) := by decide +kernel
theorem dX12_keeps_146 : decode cX12_keeps 146 = .ok (.iload_n 3, 1) := by decide +kernel
theorem dX12_keeps_147 : decode cX12_keeps 147 = .ok (.iadd, 1) := by decide +kernel
theorem dX12_keeps_148 : decode cX12_keeps 148 = .ok (.aload_n 0, 1) := by decide +kernel
theorem dX12_keeps_149 : decode cX12_keeps 149 = .ok (.getfield 100, 3) := by decide +kernel
theorem dX12_keeps_152 : decode cX12_keeps 152 = .ok (.sipush 19200, 3) := by decide +kernel
theorem dX12_keeps_155 : decode cX12_keeps 155 = .ok (.iload_n 3, 1) := by decide +kernel
theorem dX12_keeps_156 : decode cX12_keeps 156 = .ok (.iadd, 1) := by decide +kernel
theorem dX12_keeps_157 : decode cX12_keeps 157 = .ok (.iaload, 1) := by decide +kernel
theorem dX12_keeps_158 : decode cX12_keeps 158 = .ok (.iastore, 1) := by decide +kernel
theorem dX12_keeps_159 : decode cX12_keeps 159 = .ok (.aload_n 0, 1) := by decide +kernel
theorem dX12_keeps_160 : decode cX12_keeps 160 = .ok (.getfield 103, 3) := by decide +kernel
theorem dX12_keeps_163 : decode cX12_keeps 163 = .ok (.sipush 1200, 3) := by decide +kernel
theorem dX12_keeps_166 : decode cX12_keeps 166 = .ok (.iload_n 2, 1) := by decide +kernel
theorem dX12_keeps_167 : decode cX12_keeps 167 = .ok (.imul, 1) := by decide +kernel
theorem dX12_keeps_168 : decode cX12_keeps 168 = .ok (.iload_n 3, 1) := by decide +kernel
theorem dX12_keeps_169 : decode cX12_keeps 169 = .ok (.iadd, 1) := by decide +kernel
theorem dX12_keeps_170 : decode cX12_keeps 170 = .ok (.aload_n 0, 1) := by decide +kernel
theorem dX12_keeps_171 : decode cX12_keeps 171 = .ok (.getfield 103, 3) := by decide +kernel
theorem dX12_keeps_174 : decode cX12_keeps 174 = .ok (.sipush 19200, 3) := by decide +kernel
theorem dX12_keeps_177 : decode cX12_keeps 177 = .ok (.iload_n 3, 1) := by decide +kernel
theorem dX12_keeps_178 : decode cX12_keeps 178 = .ok (.iadd, 1) := by decide +kernel
theorem dX12_keeps_179 : decode cX12_keeps 179 = .ok (.iaload, 1) := by decide +kernel
theorem dX12_keeps_180 : decode cX12_keeps 180 = .ok (.iastore, 1) := by decide +kernel
theorem dX12_keeps_181 : decode cX12_keeps 181 = .ok (.iinc 3 1, 3) := by decide +kernel
theorem dX12_keeps_184 : decode cX12_keeps 184 = .ok (.goto (-55), 3) := by decide +kernel
theorem dX12_keeps_187 : decode cX12_keeps 187 = .ok (.aload_n 0, 1) := by decide +kernel
theorem dX12_keeps_188 : decode cX12_keeps 188 = .ok (.dup, 1) := by decide +kernel
theorem dX12_keeps_189 : decode cX12_keeps 189 = .ok (.getfield 281, 3) := by decide +kernel
theorem dX12_keeps_192 : decode cX12_keeps 192 = .ok (.iconst 1, 1) := by decide +kernel
theorem dX12_keeps_193 : decode cX12_keeps 193 = .ok (.iadd, 1) := by decide +kernel
theorem dX12_keeps_194 : decode cX12_keeps 194 = .ok (.putfield 281, 3) := by decide +kernel
theorem dX12_keeps_197 : decode cX12_keeps 197 = .ok (.return_, 1) := by decide +kernel
theorem dX12_takeNumber_0 : decode cX12_takeNumber 0 = .ok (.aload_n 0, 1) := by decide +kernel
theorem dX12_takeNumber_1 : decode cX12_takeNumber 1 = .ok (.getfield 262, 3) := by decide +kernel
theorem dX12_takeNumber_4 : decode cX12_takeNumber 4 = .ok (.ifCond .ne 24, 3) := by decide +kernel
theorem dX12_takeNumber_7 : decode cX12_takeNumber 7 = .ok (.aload_n 0, 1) := by decide +kernel
theorem dX12_takeNumber_8 : decode cX12_takeNumber 8 = .ok (.getfield 24, 3) := by decide +kernel
theorem dX12_takeNumber_11 : decode cX12_takeNumber 11 = .ok (.aload_n 0, 1) := by decide +kernel
theorem dX12_takeNumber_12 : decode cX12_takeNumber 12 = .ok (.getfield 259, 3) := by decide +kernel
theorem dX12_takeNumber_15 : decode cX12_takeNumber 15 = .ok (.iaload, 1) := by decide +kernel
theorem dX12_takeNumber_16 : decode cX12_takeNumber 16 = .ok (.iconst 2, 1) := by decide +kernel
theorem dX12_takeNumber_17 : decode cX12_takeNumber 17 = .ok (.if_icmp .eq 11, 3) := by decide +kernel
theorem dX12_takeNumber_20 : decode cX12_takeNumber 20 = .ok (.aload_n 0, 1) := by decide +kernel
theorem dX12_takeNumber_21 : decode cX12_takeNumber 21 = .ok (.iconst 1, 1) := by decide +kernel
theorem dX12_takeNumber_22 : decode cX12_takeNumber 22 = .ok (.invokevirtual 268, 3) := by decide +kernel
theorem dX12_takeNumber_25 : decode cX12_takeNumber 25 = .ok (.goto 45, 3) := by decide +kernel
theorem dX12_takeNumber_28 : decode cX12_takeNumber 28 = .ok (.aload_n 0, 1) := by decide +kernel
theorem dX12_takeNumber_29 : decode cX12_takeNumber 29 = .ok (.getfield 262, 3) := by decide +kernel
theorem dX12_takeNumber_32 : decode cX12_takeNumber 32 = .ok (.ifCond .ne 38, 3) := by decide +kernel
theorem dX12_takeNumber_35 : decode cX12_takeNumber 35 = .ok (.aload_n 0, 1) := by decide +kernel
theorem dX12_takeNumber_36 : decode cX12_takeNumber 36 = .ok (.getfield 30, 3) := by decide +kernel
theorem dX12_takeNumber_39 : decode cX12_takeNumber 39 = .ok (.aload_n 0, 1) := by decide +kernel
theorem dX12_takeNumber_40 : decode cX12_takeNumber 40 = .ok (.getfield 259, 3) := by decide +kernel
theorem dX12_takeNumber_43 : decode cX12_takeNumber 43 = .ok (.laload, 1) := by decide +kernel
theorem dX12_takeNumber_44 : decode cX12_takeNumber 44 = .ok (.iload_n 1, 1) := by decide +kernel
theorem dX12_takeNumber_45 : decode cX12_takeNumber 45 = .ok (.i2l, 1) := by decide +kernel
theorem dX12_takeNumber_46 : decode cX12_takeNumber 46 = .ok (.lcmp, 1) := by decide +kernel
theorem dX12_takeNumber_47 : decode cX12_takeNumber 47 = .ok (.ifCond .lt 18, 3) := by decide +kernel
theorem dX12_takeNumber_50 : decode cX12_takeNumber 50 = .ok (.aload_n 0, 1) := by decide +kernel
theorem dX12_takeNumber_51 : decode cX12_takeNumber 51 = .ok (.getfield 30, 3) := by decide +kernel
theorem dX12_takeNumber_54 : decode cX12_takeNumber 54 = .ok (.aload_n 0, 1) := by decide +kernel
theorem dX12_takeNumber_55 : decode cX12_takeNumber 55 = .ok (.getfield 259, 3) := by decide +kernel
theorem dX12_takeNumber_58 : decode cX12_takeNumber 58 = .ok (.laload, 1) := by decide +kernel
theorem dX12_takeNumber_59 : decode cX12_takeNumber 59 = .ok (.iload_n 2, 1) := by decide +kernel
theorem dX12_takeNumber_60 : decode cX12_takeNumber 60 = .ok (.i2l, 1) := by decide +kernel
theorem dX12_takeNumber_61 : decode cX12_takeNumber 61 = .ok (.lcmp, 1) := by decide +kernel
theorem dX12_takeNumber_62 : decode cX12_takeNumber 62 = .ok (.ifCond .le 8, 3) := by decide +kernel
theorem dX12_takeNumber_65 : decode cX12_takeNumber 65 = .ok (.aload_n 0, 1) := by decide +kernel
theorem dX12_takeNumber_66 : decode cX12_takeNumber 66 = .ok (.iconst 4, 1) := by decide +kernel
theorem dX12_takeNumber_67 : decode cX12_takeNumber 67 = .ok (.invokevirtual 268, 3) := by decide +kernel
theorem dX12_takeNumber_70 : decode cX12_takeNumber 70 = .ok (.aload_n 0, 1) := by decide +kernel
theorem dX12_takeNumber_71 : decode cX12_takeNumber 71 = .ok (.getfield 262, 3) := by decide +kernel
theorem dX12_takeNumber_74 : decode cX12_takeNumber 74 = .ok (.ifCond .le 5, 3) := by decide +kernel
theorem dX12_takeNumber_77 : decode cX12_takeNumber 77 = .ok (.iconst 0, 1) := by decide +kernel
theorem dX12_takeNumber_78 : decode cX12_takeNumber 78 = .ok (.ireturn, 1) := by decide +kernel
theorem dX12_takeNumber_79 : decode cX12_takeNumber 79 = .ok (.aload_n 0, 1) := by decide +kernel
theorem dX12_takeNumber_80 : decode cX12_takeNumber 80 = .ok (.dup, 1) := by decide +kernel
theorem dX12_takeNumber_81 : decode cX12_takeNumber 81 = .ok (.getfield 259, 3) := by decide +kernel
theorem dX12_takeNumber_84 : decode cX12_takeNumber 84 = .ok (.iconst 1, 1) := by decide +kernel
theorem dX12_takeNumber_85 : decode cX12_takeNumber 85 = .ok (.iadd, 1) := by decide +kernel
theorem dX12_takeNumber_86 : decode cX12_takeNumber 86 = .ok (.putfield 259, 3) := by decide +kernel
theorem dX12_takeNumber_89 : decode cX12_takeNumber 89 = .ok (.aload_n 0, 1) := by decide +kernel
theorem dX12_takeNumber_90 : decode cX12_takeNumber 90 = .ok (.getfield 30, 3) := by decide +kernel
theorem dX12_takeNumber_93 : decode cX12_takeNumber 93 = .ok (.aload_n 0, 1) := by decide +kernel
theorem dX12_takeNumber_94 : decode cX12_takeNumber 94 = .ok (.getfield 259, 3) := by decide +kernel
theorem dX12_takeNumber_97 : decode cX12_takeNumber 97 = .ok (.iconst 1, 1) := by decide +kernel
theorem dX12_takeNumber_98 : decode cX12_takeNumber 98 = .ok (.isub, 1) := by decide +kernel
theorem dX12_takeNumber_99 : decode cX12_takeNumber 99 = .ok (.laload, 1) := by decide +kernel
theorem dX12_takeNumber_100 : decode cX12_takeNumber 100 = .ok (.l2i, 1) := by decide +kernel
theorem dX12_takeNumber_101 : decode cX12_takeNumber 101 = .ok (.ireturn, 1) := by decide +kernel
theorem dX12_isName_0 : decode cX12_isName 0 = .ok (.aload_n 0, 1) := by decide +kernel
theorem dX12_isName_1 : decode cX12_isName 1 = .ok (.getfield 262, 3) := by decide +kernel
theorem dX12_isName_4 : decode cX12_isName 4 = .ok (.ifCond .ne 20, 3) := by decide +kernel
theorem dX12_isName_7 : decode cX12_isName 7 = .ok (.aload_n 0, 1) := by decide +kernel
theorem dX12_isName_8 : decode cX12_isName 8 = .ok (.getfield 24, 3) := by decide +kernel
theorem dX12_isName_11 : decode cX12_isName 11 = .ok (.aload_n 0, 1) := by decide +kernel
theorem dX12_isName_12 : decode cX12_isName 12 = .ok (.getfield 259, 3) := by decide +kernel
theorem dX12_isName_15 : decode cX12_isName 15 = .ok (.iaload, 1) := by decide +kernel
theorem dX12_isName_16 : decode cX12_isName 16 = .ok (.iconst 1, 1) := by decide +kernel
theorem dX12_isName_17 : decode cX12_isName 17 = .ok (.if_icmp .ne 7, 3) := by decide +kernel
theorem dX12_isName_20 : decode cX12_isName 20 = .ok (.iconst 1, 1) := by decide +kernel
theorem dX12_isName_21 : decode cX12_isName 21 = .ok (.goto 4, 3) := by decide +kernel
theorem dX12_isName_24 : decode cX12_isName 24 = .ok (.iconst 0, 1) := by decide +kernel
theorem dX12_isName_25 : decode cX12_isName 25 = .ok (.istore_n 1, 1) := by decide +kernel
theorem dX12_isName_26 : decode cX12_isName 26 = .ok (.iconst 0, 1) := by decide +kernel
theorem dX12_isName_27 : decode cX12_isName 27 = .ok (.istore_n 2, 1) := by decide +kernel
theorem dX12_isName_28 : decode cX12_isName 28 = .ok (.iload_n 2, 1) := by decide +kernel
theorem dX12_isName_29 : decode cX12_isName 29 = .ok (.bipush 21, 2) := by decide +kernel
theorem dX12_isName_31 : decode cX12_isName 31 = .ok (.if_icmp .ge 38, 3) := by decide +kernel
theorem dX12_isName_34 : decode cX12_isName 34 = .ok (.iload_n 1, 1) := by decide +kernel
theorem dX12_isName_35 : decode cX12_isName 35 = .ok (.ifCond .eq 26, 3) := by decide +kernel
theorem dX12_isName_38 : decode cX12_isName 38 = .ok (.aload_n 0, 1) := by decide +kernel
theorem dX12_isName_39 : decode cX12_isName 39 = .ok (.getfield 30, 3) := by decide +kernel
theorem dX12_isName_42 : decode cX12_isName 42 = .ok (.aload_n 0, 1) := by decide +kernel
theorem dX12_isName_43 : decode cX12_isName 43 = .ok (.getfield 259, 3) := by decide +kernel
theorem dX12_isName_46 : decode cX12_isName 46 = .ok (.laload, 1) := by decide +kernel
theorem dX12_isName_47 : decode cX12_isName 47 = .ok (.aload_n 0, 1) := by decide +kernel
theorem dX12_isName_48 : decode cX12_isName 48 = .ok (.getfield 76, 3) := by decide +kernel
theorem dX12_isName_51 : decode cX12_isName 51 = .ok (.iload_n 2, 1) := by decide +kernel
theorem dX12_isName_52 : decode cX12_isName 52 = .ok (.laload, 1) := by decide +kernel
theorem dX12_isName_53 : decode cX12_isName 53 = .ok (.lcmp, 1) := by decide +kernel
theorem dX12_isName_54 : decode cX12_isName 54 = .ok (.ifCond .eq 7, 3) := by decide +kernel
theorem dX12_isName_57 : decode cX12_isName 57 = .ok (.iconst 1, 1) := by decide +kernel
theorem dX12_isName_58 : decode cX12_isName 58 = .ok (.goto 4, 3) := by decide +kernel
theorem dX12_isName_61 : decode cX12_isName 61 = .ok (.iconst 0, 1) := by decide +kernel
theorem dX12_isName_62 : decode cX12_isName 62 = .ok (.istore_n 1, 1) := by decide +kernel
theorem dX12_isName_63 : decode cX12_isName 63 = .ok (.iinc 2 1, 3) := by decide +kernel
theorem dX12_isName_66 : decode cX12_isName 66 = .ok (.goto (-38), 3) := by decide +kernel
theorem dX12_isName_69 : decode cX12_isName 69 = .ok (.iload_n 1, 1) := by decide +kernel
theorem dX12_isName_70 : decode cX12_isName 70 = .ok (.ireturn, 1) := by decide +kernel
theorem dX12_findName_0 : decode cX12_findName 0 = .ok (.iconst (-1), 1) := by decide +kernel
theorem dX12_findName_1 : decode cX12_findName 1 = .ok (.istore_n 1, 1) := by decide +kernel
theorem dX12_findName_2 : decode cX12_findName 2 = .ok (.iconst 0, 1) := by decide +kernel
theorem dX12_findName_3 : decode cX12_findName 3 = .ok (.istore_n 2, 1) := by decide +kernel
theorem dX12_findName_4 : decode cX12_findName 4 = .ok (.iload_n 2, 1) := by decide +kernel
theorem dX12_findName_5 : decode cX12_findName 5 = .ok (.aload_n 0, 1) := by decide +kernel
theorem dX12_findName_6 : decode cX12_findName 6 = .ok (.getfield 287, 3) := by decide +kernel
theorem dX12_findName_9 : decode cX12_findName 9 = .ok (.if_icmp .ge 34, 3) := by decide +kernel
theorem dX12_findName_12 : decode cX12_findName 12 = .ok (.aload_n 0, 1) := by decide +kernel
theorem dX12_findName_13 : decode cX12_findName 13 = .ok (.getfield 97, 3) := by decide +kernel
theorem dX12_findName_16 : decode cX12_findName 16 = .ok (.iload_n 2, 1) := by decide +kernel
theorem dX12_findName_17 : decode cX12_findName 17 = .ok (.laload, 1) := by decide +kernel
theorem dX12_findName_18 : decode cX12_findName 18 = .ok (.aload_n 0, 1) := by decide +kernel
theorem dX12_findName_19 : decode cX12_findName 19 = .ok (.getfield 30, 3) := by decide +kernel
theorem dX12_findName_22 : decode cX12_findName 22 = .ok (.aload_n 0, 1) := by decide +kernel
theorem dX12_findName_23 : decode cX12_findName 23 = .ok (.getfield 259, 3) := by decide +kernel
theorem dX12_findName_26 : decode cX12_findName 26 = .ok (.laload, 1) := by decide +kernel
theorem dX12_findName_27 : decode cX12_findName 27 = .ok (.lcmp, 1) := by decide +kernel
theorem dX12_findName_28 : decode cX12_findName 28 = .ok (.ifCond .ne 7, 3) := by decide +kernel
theorem dX12_findName_31 : decode cX12_findName 31 = .ok (.iload_n 2, 1) := by decide +kernel
theorem dX12_findName_32 : decode cX12_findName 32 = .ok (.goto 4, 3) := by decide +kernel
theorem dX12_findName_35 : decode cX12_findName 35 = .ok (.iload_n 1, 1) := by decide +kernel
theorem dX12_findName_36 : decode cX12_findName 36 = .ok (.istore_n 1, 1) := by decide +kernel
theorem dX12_findName_37 : decode cX12_findName 37 = .ok (.iinc 2 1, 3) := by decide +kernel
theorem dX12_findName_40 : decode cX12_findName 40 = .ok (.goto (-36), 3) := by decide +kernel
theorem dX12_findName_43 : decode cX12_findName 43 = .ok (.iload_n 1, 1) := by decide +kernel
theorem dX12_findName_44 : decode cX12_findName 44 = .ok (.ireturn, 1) := by decide +kernel
theorem dX12_readLine_0 : decode cX12_readLine 0 = .ok (.aload_n 0, 1) := by decide +kernel
theorem dX12_readLine_1 : decode cX12_readLine 1 = .ok (.iconst 0, 1) := by decide +kernel
theorem dX12_readLine_2 : decode cX12_readLine 2 = .ok (.invokevirtual 272, 3) := by decide +kernel
theorem dX12_readLine_5 : decode cX12_readLine 5 = .ok (.ifCond .ne 28, 3) := by decide +kernel
theorem dX12_readLine_8 : decode cX12_readLine 8 = .ok (.aload_n 0, 1) := by decide +kernel
theorem dX12_readLine_9 : decode cX12_readLine 9 = .ok (.bipush 19, 2) := by decide +kernel
theorem dX12_readLine_11 : decode cX12_readLine 11 = .ok (.invokevirtual 272, 3) := by decide +kernel
theorem dX12_readLine_14 : decode cX12_readLine 14 = .ok (.ifCond .ne 19, 3) := by decide +kernel
theorem dX12_readLine_17 : decode cX12_readLine 17 = .ok (.aload_n 0, 1) := by decide +kernel
theorem dX12_readLine_18 : decode cX12_readLine 18 = .ok (.iconst 1, 1) := by decide +kernel
theorem dX12_readLine_19 : decode cX12_readLine 19 = .ok (.invokevirtual 272, 3) := by decide +kernel
theorem dX12_readLine_22 : decode cX12_readLine 22 = .ok (.ifCond .ne 11, 3) := by decide +kernel
theorem dX12_readLine_25 : decode cX12_readLine 25 = .ok (.aload_n 0, 1) := by decide +kernel
theorem dX12_readLine_26 : decode cX12_readLine 26 = .ok (.iconst 1, 1) := by decide +kernel
theorem dX12_readLine_27 : decode cX12_readLine 27 = .ok (.invokevirtual 268, 3) := by decide +kernel
theorem dX12_readLine_30 : decode cX12_readLine 30 = .ok (.goto 20, 3) := by decide +kernel
theorem dX12_readLine_33 : decode cX12_readLine 33 = .ok (.aload_n 0, 1) := by decide +kernel
theorem dX12_readLine_34 : decode cX12_readLine 34 = .ok (.getfield 85, 3) := by decide +kernel
theorem dX12_readLine_37 : decode cX12_readLine 37 = .ok (.bipush 16, 2) := by decide +kernel
theorem dX12_readLine_39 : decode cX12_readLine 39 = .ok (.iaload, 1) := by decide +kernel
theorem dX12_readLine_40 : decode cX12_readLine 40 = .ok (.bipush 20, 2) := by decide +kernel
theorem dX12_readLine_42 : decode cX12_readLine 42 = .ok (.if_icmp .ne 8, 3) := by decide +kernel
theorem dX12_readLine_45 : decode cX12_readLine 45 = .ok (.aload_n 0, 1) := by decide +kernel
theorem dX12_readLine_46 : decode cX12_readLine 46 = .ok (.iconst 5, 1) := by decide +kernel
theorem dX12_readLine_47 : decode cX12_readLine 47 = .ok (.invokevirtual 268, 3) := by decide +kernel
theorem dX12_readLine_50 : decode cX12_readLine 50 = .ok (.aload_n 0, 1) := by decide +kernel
theorem dX12_readLine_51 : decode cX12_readLine 51 = .ok (.getfield 262, 3) := by decide +kernel
theorem dX12_readLine_54 : decode cX12_readLine 54 = .ok (.ifCond .le 4, 3) := by decide +kernel
theorem dX12_readLine_57 : decode cX12_readLine 57 = .ok (.return_, 1) := by decide +kernel
theorem dX12_readLine_58 : decode cX12_readLine 58 = .ok (.sipush 320, 3) := by decide +kernel
theorem dX12_readLine_61 : decode cX12_readLine 61 = .ok (.aload_n 0, 1) := by decide +kernel
theorem dX12_readLine_62 : decode cX12_readLine 62 = .ok (.getfield 85, 3) := by decide +kernel
theorem dX12_readLine_65 : decode cX12_readLine 65 = .ok (.bipush 16, 2) := by decide +kernel
theorem dX12_readLine_67 : decode cX12_readLine 67 = .ok (.iaload, 1) := by decide +kernel
theorem dX12_readLine_68 : decode cX12_readLine 68 = .ok (.iadd, 1) := by decide +kernel
theorem dX12_readLine_69 : decode cX12_readLine 69 = .ok (.istore_n 1, 1) := by decide +kernel
theorem dX12_readLine_70 : decode cX12_readLine 70 = .ok (.aload_n 0, 1) := by decide +kernel
theorem dX12_readLine_71 : decode cX12_readLine 71 = .ok (.getfield 88, 3) := by decide +kernel
theorem dX12_readLine_74 : decode cX12_readLine 74 = .ok (.iload_n 1, 1) := by decide +kernel
theorem dX12_readLine_75 : decode cX12_readLine 75 = .ok (.aload_n 0, 1) := by decide +kernel
theorem dX12_readLine_76 : decode cX12_readLine 76 = .ok (.iconst 0, 1) := by decide +kernel
theorem dX12_readLine_77 : decode cX12_readLine 77 = .ok (.invokevirtual 272, 3) := by decide +kernel
theorem dX12_readLine_80 : decode cX12_readLine 80 = .ok (.ifCond .eq 7, 3) := by decide +kernel
theorem dX12_readLine_83 : decode cX12_readLine 83 = .ok (.iconst 0, 1) := by decide +kernel
theorem dX12_readLine_84 : decode cX12_readLine 84 = .ok (.goto 18, 3) := by decide +kernel
theorem dX12_readLine_87 : decode cX12_readLine 87 = .ok (.aload_n 0, 1) := by decide +kernel
theorem dX12_readLine_88 : decode cX12_readLine 88 = .ok (.bipush 19, 2) := by decide +kernel
theorem dX12_readLine_90 : decode cX12_readLine 90 = .ok (.invokevirtual 272, 3) := by decide +kernel
theorem dX12_readLine_93 : decode cX12_readLine 93 = .ok (.ifCond .eq 8, 3) := by decide +kernel
theorem dX12_readLine_96 : decode cX12_readLine 96 = .ok (.bipush 19, 2) := by decide +kernel
theorem dX12_readLine_98 : decode cX12_readLine 98 = .ok (.goto 4, 3) := by decide +kernel
theorem dX12_readLine_101 : decode cX12_readLine 101 = .ok (.iconst 1, 1) := by decide +kernel
theorem dX12_readLine_102 : decode cX12_readLine 102 = .ok (.iastore, 1) := by decide +kernel
theorem dX12_readLine_103 : decode cX12_readLine 103 = .ok (.aload_n 0, 1) := by decide +kernel
theorem dX12_readLine_104 : decode cX12_readLine 104 = .ok (.getfield 91, 3) := by decide +kernel
theorem dX12_readLine_107 : decode cX12_readLine 107 = .ok (.iload_n 1, 1) := by decide +kernel
theorem dX12_readLine_108 : decode cX12_readLine 108 = .ok (.iconst 0, 1) := by decide +kernel
theorem dX12_readLine_109 : decode cX12_readLine 109 = .ok (.iastore, 1) := by decide +kernel
theorem dX12_readLine_110 : decode cX12_readLine 110 = .ok (.aload_n 0, 1) := by decide +kernel
theorem dX12_readLine_111 : decode cX12_readLine 111 = .ok (.dup, 1) := by decide +kernel
theorem dX12_readLine_112 : decode cX12_readLine 112 = .ok (.getfield 259, 3) := by decide +kernel
theorem dX12_readLine_115 : decode cX12_readLine 115 = .ok (.iconst 1, 1) := by decide +kernel
theorem dX12_readLine_116 : decode cX12_readLine 116 = .ok (.iadd, 1) := by decide +kernel
theorem dX12_readLine_117 : decode cX12_readLine 117 = .ok (.putfield 259, 3) := by decide +kernel
theorem dX12_readLine_120 : decode cX12_readLine 120 = .ok (.aload_n 0, 1) := by decide +kernel
theorem dX12_readLine_121 : decode cX12_readLine 121 = .ok (.getfield 88, 3) := by decide +kernel
theorem dX12_readLine_124 : decode cX12_readLine 124 = .ok (.iload_n 1, 1) := by decide +kernel
theorem dX12_readLine_125 : decode cX12_readLine 125 = .ok (.iaload, 1) := by decide +kernel
theorem dX12_readLine_126 : decode cX12_readLine 126 = .ok (.ifCond .ne 11, 3) := by decide +kernel
theorem dX12_readLine_129 : decode cX12_readLine 129 = .ok (.aload_n 0, 1) := by decide +kernel
theorem dX12_readLine_130 : decode cX12_readLine 130 = .ok (.iload_n 1, 1) := by decide +kernel
theorem dX12_readLine_131 : decode cX12_readLine 131 = .ok (.invokevirtual 299, 3) := by decide +kernel
theorem dX12_readLine_134 : decode cX12_readLine 134 = .ok (.goto 50, 3) := by decide +kernel
theorem dX12_readLine_137 : decode cX12_readLine 137 = .ok (.aload_n 0, 1) := by decide +kernel
theorem dX12_readLine_138 : decode cX12_readLine 138 = .ok (.getfield 91, 3) := by decide +kernel
theorem dX12_readLine_141 : decode cX12_readLine 141 = .ok (.iload_n 1, 1) := by decide +kernel
theorem dX12_readLine_142 : decode cX12_readLine 142 = .ok (.aload_n 0, 1) := by decide +kernel
theorem dX12_readLine_143 : decode cX12_readLine 143 = .ok (.getfield 88, 3) := by decide +kernel
theorem dX12_readLine_146 : decode cX12_readLine 146 = .ok (.iload_n 1, 1) := by decide +kernel
theorem dX12_readLine_147 : decode cX12_readLine 147 = .ok (.iaload, 1) := by decide +kernel
theorem dX12_readLine_148 : decode cX12_readLine 148 = .ok (.bipush 19, 2) := by decide +kernel
theorem dX12_readLine_150 : decode cX12_readLine 150 = .ok (.if_icmp .ne 14, 3) := by decide +kernel
theorem dX12_readLine_153 : decode cX12_readLine 153 = .ok (.aload_n 0, 1) := by decide +kernel
theorem dX12_readLine_154 : decode cX12_readLine 154 = .ok (.iconst 1, 1) := by decide +kernel
theorem dX12_readLine_155 : decode cX12_readLine 155 = .ok (.sipush 999, 3) := by decide +kernel
theorem dX12_readLine_158 : decode cX12_readLine 158 = .ok (.invokevirtual 302, 3) := by decide +kernel
theorem dX12_readLine_161 : decode cX12_readLine 161 = .ok (.goto 7, 3) := by decide +kernel
theorem dX12_readLine_164 : decode cX12_readLine 164 = .ok (.aload_n 0, 1) := by decide +kernel
theorem dX12_readLine_165 : decode cX12_readLine 165 = .ok (.invokevirtual 306, 3) := by decide +kernel
theorem dX12_readLine_168 : decode cX12_readLine 168 = .ok (.iastore, 1) := by decide +kernel
theorem dX12_readLine_169 : decode cX12_readLine 169 = .ok (.aload_n 0, 1) := by decide +kernel
theorem dX12_readLine_170 : decode cX12_readLine 170 = .ok (.iconst 2, 1) := by decide +kernel
theorem dX12_readLine_171 : decode cX12_readLine 171 = .ok (.invokevirtual 310, 3) := by decide +kernel
theorem dX12_readLine_174 : decode cX12_readLine 174 = .ok (.aload_n 0, 1) := by decide +kernel
theorem dX12_readLine_175 : decode cX12_readLine 175 = .ok (.getfield 94, 3) := by decide +kernel
theorem dX12_readLine_178 : decode cX12_readLine 178 = .ok (.iload_n 1, 1) := by decide +kernel
theorem dX12_readLine_179 : decode cX12_readLine 179 = .ok (.aload_n 0, 1) := by decide +kernel
theorem dX12_readLine_180 : decode cX12_readLine 180 = .ok (.invokevirtual 313, 3) := by decide +kernel
theorem dX12_readLine_183 : decode cX12_readLine 183 = .ok (.iastore, 1) := by decide +kernel
theorem dX12_readLine_184 : decode cX12_readLine 184 = .ok (.aload_n 0, 1) := by decide +kernel
theorem dX12_readLine_185 : decode cX12_readLine 185 = .ok (.getfield 85, 3) := by decide +kernel
theorem dX12_readLine_188 : decode cX12_readLine 188 = .ok (.bipush 16, 2) := by decide +kernel
theorem dX12_readLine_190 : decode cX12_readLine 190 = .ok (.dup2, 1) := by decide +kernel
theorem dX12_readLine_191 : decode cX12_readLine 191 = .ok (.iaload, 1) := by decide +kernel
theorem dX12_readLine_192 : decode cX12_readLine 192 = .ok (.iconst 1, 1) := by decide +kernel
theorem dX12_readLine_193 : decode cX12_readLine 193 = .ok (.iadd, 1) := by decide +kernel
theorem dX12_readLine_194 : decode cX12_readLine 194 = .ok (.iastore, 1) := by decide +kernel
theorem dX12_readLine_195 : decode cX12_readLine 195 = .ok (.aload_n 0, 1) := by decide +kernel
theorem dX12_readLine_196 : decode cX12_readLine 196 = .ok (.bipush 59, 2) := by decide +kernel
theorem dX12_readLine_198 : decode cX12_readLine 198 = .ok (.invokevirtual 316, 3) := by decide +kernel
theorem dX12_readLine_201 : decode cX12_readLine 201 = .ok (.return_, 1) := by decide +kernel
theorem dX12_takeWho_0 : decode cX12_takeWho 0 = .ok (.iconst (-1), 1) := by decide +kernel
theorem dX12_takeWho_1 : decode cX12_takeWho 1 = .ok (.istore_n 1, 1) := by decide +kernel
theorem dX12_takeWho_2 : decode cX12_takeWho 2 = .ok (.iconst 0, 1) := by decide +kernel
theorem dX12_takeWho_3 : decode cX12_takeWho 3 = .ok (.istore_n 2, 1) := by decide +kernel
theorem dX12_takeWho_4 : decode cX12_takeWho 4 = .ok (.iload_n 2, 1) := by decide +kernel
theorem dX12_takeWho_5 : decode cX12_takeWho 5 = .ok (.iconst 4, 1) := by decide +kernel
theorem dX12_takeWho_6 : decode cX12_takeWho 6 = .ok (.if_icmp .ge 29, 3) := by decide +kernel
theorem dX12_takeWho_9 : decode cX12_takeWho 9 = .ok (.aload_n 0, 1) := by decide +kernel
theorem dX12_takeWho_10 : decode cX12_takeWho 10 = .ok (.iconst 3, 1) := by decide +kernel
theorem dX12_takeWho_11 : decode cX12_takeWho 11 = .ok (.iload_n 2, 1) := by decide +kernel
theorem dX12_takeWho_12 : decode cX12_takeWho 12 = .ok (.iadd, 1) := by decide +kernel
theorem dX12_takeWho_13 : decode cX12_takeWho 13 = .ok (.invokevirtual 272, 3) := by decide +kernel
theorem dX12_takeWho_16 : decode cX12_takeWho 16 = .ok (.ifCond .eq 11, 3) := by decide +kernel
theorem dX12_takeWho_19 : decode cX12_takeWho 19 = .ok (.iload_n 2, 1) := by decide +kernel
theorem dX12_takeWho_20 : decode cX12_takeWho 20 = .ok (.iconst 1, 1) := by decide +kernel
theorem dX12_takeWho_21 : decode cX12_takeWho 21 = .ok (.iadd, 1) := by decide +kernel
theorem dX12_takeWho_22 : decode cX12_takeWho 22 = .ok (.iconst 4, 1) := by decide +kernel
theorem dX12_takeWho_23 : decode cX12_takeWho 23 = .ok (.irem, 1) := by decide +kernel
theorem dX12_takeWho_24 : decode cX12_takeWho 24 = .ok (.goto 4, 3) := by decide +kernel
theorem dX12_takeWho_27 : decode cX12_takeWho 27 = .ok (.iload_n 1, 1) := by decide +kernel
theorem dX12_takeWho_28 : decode cX12_takeWho 28 = .ok (.istore_n 1, 1) := by decide +kernel
theorem dX12_takeWho_29 : decode cX12_takeWho 29 = .ok (.iinc 2 1, 3) := by decide +kernel
theorem dX12_takeWho_32 : decode cX12_takeWho 32 = .ok (.goto (-28), 3) := by decide +kernel
theorem dX12_takeWho_35 : decode cX12_takeWho 35 = .ok (.iload_n 1, 1) := by decide +kernel
theorem dX12_takeWho_36 : decode cX12_takeWho 36 = .ok (.ifCond .ge 10, 3) := by decide +kernel
theorem dX12_takeWho_39 : decode cX12_takeWho 39 = .ok (.aload_n 0, 1) := by decide +kernel
theorem dX12_takeWho_40 : decode cX12_takeWho 40 = .ok (.iconst 1, 1) := by decide +kernel
theorem dX12_takeWho_41 : decode cX12_takeWho 41 = .ok (.invokevirtual 268, 3) := by decide +kernel
theorem dX12_takeWho_44 : decode cX12_takeWho 44 = .ok (.iconst 0, 1) := by decide +kernel
theorem dX12_takeWho_45 : decode cX12_takeWho 45 = .ok (.ireturn, 1) := by decide +kernel
theorem dX12_takeWho_46 : decode cX12_takeWho 46 = .ok (.aload_n 0, 1) := by decide +kernel
theorem dX12_takeWho_47 : decode cX12_takeWho 47 = .ok (.dup, 1) := by decide +kernel
theorem dX12_takeWho_48 : decode cX12_takeWho 48 = .ok (.getfield 259, 3) := by decide +kernel
theorem dX12_takeWho_51 : decode cX12_takeWho 51 = .ok (.iconst 1, 1) := by decide +kernel
theorem dX12_takeWho_52 : decode cX12_takeWho 52 = .ok (.iadd, 1) := by decide +kernel
theorem dX12_takeWho_53 : decode cX12_takeWho 53 = .ok (.putfield 259, 3) := by decide +kernel
theorem dX12_takeWho_56 : decode cX12_takeWho 56 = .ok (.iload_n 1, 1) := by decide +kernel
theorem dX12_takeWho_57 : decode cX12_takeWho 57 = .ok (.ireturn, 1) := by decide +kernel
theorem dX12_readLet_0 : decode cX12_readLet 0 = .ok (.aload_n 0, 1) := by decide +kernel
theorem dX12_readLet_1 : decode cX12_readLet 1 = .ok (.invokevirtual 319, 3) := by decide +kernel
theorem dX12_readLet_4 : decode cX12_readLet 4 = .ok (.ifCond .ne 11, 3) := by decide +kernel
theorem dX12_readLet_7 : decode cX12_readLet 7 = .ok (.aload_n 0, 1) := by decide +kernel
theorem dX12_readLet_8 : decode cX12_readLet 8 = .ok (.iconst 1, 1) := by decide +kernel
theorem dX12_readLet_9 : decode cX12_readLet 9 = .ok (.invokevirtual 268, 3) := by decide +kernel
theorem dX12_readLet_12 : decode cX12_readLet 12 = .ok (.goto 32, 3) := by decide +kernel
theorem dX12_readLet_15 : decode cX12_readLet 15 = .ok (.aload_n 0, 1) := by decide +kernel
theorem dX12_readLet_16 : decode cX12_readLet 16 = .ok (.invokevirtual 323, 3) := by decide +kernel
theorem dX12_readLet_19 : decode cX12_readLet 19 = .ok (.ifCond .lt 11, 3) := by decide +kernel
theorem dX12_readLet_22 : decode cX12_readLet 22 = .ok (.aload_n 0, 1) := by decide +kernel
theorem dX12_readLet_23 : decode cX12_readLet 23 = .ok (.iconst 3, 1) := by decide +kernel
theorem dX12_readLet_24 : decode cX12_readLet 24 = .ok (.invokevirtual 268, 3) := by decide +kernel
theorem dX12_readLet_27 : decode cX12_readLet 27 = .ok (.goto 17, 3) := by decide +kernel
theorem dX12_readLet_30 : decode cX12_readLet 30 = .ok (.aload_n 0, 1) := by decide +kernel
theorem dX12_readLet_31 : decode cX12_readLet 31 = .ok (.getfield 287, 3) := by decide +kernel
theorem dX12_readLet_34 : decode cX12_readLet 34 = .ok (.bipush 8, 2) := by decide +kernel
theorem dX12_readLet_36 : decode cX12_readLet 36 = .ok (.if_icmp .ne 8, 3) := by decide +kernel
theorem dX12_readLet_39 : decode cX12_readLet 39 = .ok (.aload_n 0, 1) := by decide +kernel
theorem dX12_readLet_40 : decode cX12_readLet 40 = .ok (.iconst 5, 1) := by decide +kernel
theorem dX12_readLet_41 : decode cX12_readLet 41 = .ok (.invokevirtual 268, 3) := by decide +kernel
theorem dX12_readLet_44 : decode cX12_readLet 44 = .ok (.aload_n 0, 1) := by decide +kernel
theorem dX12_readLet_45 : decode cX12_readLet 45 = .ok (.getfield 262, 3) := by decide +kernel
theorem dX12_readLet_48 : decode cX12_readLet 48 = .ok (.ifCond .le 4, 3) := by decide +kernel
theorem dX12_readLet_51 : decode cX12_readLet 51 = .ok (.return_, 1) := by decide +kernel
theorem dX12_readLet_52 : decode cX12_readLet 52 = .ok (.aload_n 0, 1) := by decide +kernel
theorem dX12_readLet_53 : decode cX12_readLet 53 = .ok (.getfield 30, 3) := by decide +kernel
theorem dX12_readLet_56 : decode cX12_readLet 56 = .ok (.aload_n 0, 1) := by decide +kernel
theorem dX12_readLet_57 : decode cX12_readLet 57 = .ok (.getfield 259, 3) := by decide +kernel
theorem dX12_readLet_60 : decode cX12_readLet 60 = .ok (.laload, 1) := by decide +kernel
theorem dX12_readLet_61 : decode cX12_readLet 61 = .ok (.lstore_n 2, 1) := by decide +kernel
theorem dX12_readLet_62 : decode cX12_readLet 62 = .ok (.aload_n 0, 1) := by decide +kernel
theorem dX12_readLet_63 : decode cX12_readLet 63 = .ok (.dup, 1) := by decide +kernel
theorem dX12_readLet_64 : decode cX12_readLet 64 = .ok (.getfield 259, 3) := by decide +kernel
theorem dX12_readLet_67 : decode cX12_readLet 67 = .ok (.iconst 1, 1) := by decide +kernel
theorem dX12_readLet_68 : decode cX12_readLet 68 = .ok (.iadd, 1) := by decide +kernel
theorem dX12_readLet_69 : decode cX12_readLet 69 = .ok (.putfield 259, 3) := by decide +kernel
theorem dX12_readLet_72 : decode cX12_readLet 72 = .ok (.aload_n 0, 1) := by decide +kernel
theorem dX12_readLet_73 : decode cX12_readLet 73 = .ok (.bipush 61, 2) := by decide +kernel
theorem dX12_readLet_75 : decode cX12_readLet 75 = .ok (.invokevirtual 316, 3) := by decide +kernel
theorem dX12_readLet_78 : decode cX12_readLet 78 = .ok (.aload_n 0, 1) := by decide +kernel
theorem dX12_readLet_79 : decode cX12_readLet 79 = .ok (.getfield 94, 3) := by decide +kernel
theorem dX12_readLet_82 : decode cX12_readLet 82 = .ok (.iload_n 1, 1) := by decide +kernel
theorem dX12_readLet_83 : decode cX12_readLet 83 = .ok (.aload_n 0, 1) := by decide +kernel
theorem dX12_readLet_84 : decode cX12_readLet 84 = .ok (.invokevirtual 313, 3) := by decide +kernel
theorem dX12_readLet_87 : decode cX12_readLet 87 = .ok (.iastore, 1) := by decide +kernel
theorem dX12_readLet_88 : decode cX12_readLet 88 = .ok (.aload_n 0, 1) := by decide +kernel
theorem dX12_readLet_89 : decode cX12_readLet 89 = .ok (.getfield 262, 3) := by decide +kernel
theorem dX12_readLet_92 : decode cX12_readLet 92 = .ok (.ifCond .ne 23, 3) := by decide +kernel
theorem dX12_readLet_95 : decode cX12_readLet 95 = .ok (.aload_n 0, 1) := by decide +kernel
theorem dX12_readLet_96 : decode cX12_readLet 96 = .ok (.getfield 97, 3) := by decide +kernel
theorem dX12_readLet_99 : decode cX12_readLet 99 = .ok (.aload_n 0, 1) := by decide +kernel
theorem dX12_readLet_100 : decode cX12_readLet 100 = .ok (.getfield 287, 3) := by decide +kernel
theorem dX12_readLet_103 : decode cX12_readLet 103 = .ok (.lload_n 2, 1) := by decide +kernel
theorem dX12_readLet_104 : decode cX12_readLet 104 = .ok (.lastore, 1) := by decide +kernel
theorem dX12_readLet_105 : decode cX12_readLet 105 = .ok (.aload_n 0, 1) := by decide +kernel
theorem dX12_readLet_106 : decode cX12_readLet 106 = .ok (.dup, 1) := by decide +kernel
theorem dX12_readLet_107 : decode cX12_readLet 107 = .ok (.getfield 287, 3) := by decide +kernel
theorem dX12_readLet_110 : decode cX12_readLet 110 = .ok (.iconst 1, 1) := by decide +kernel
theorem dX12_readLet_111 : decode cX12_readLet 111 = .ok (.iadd, 1) := by decide +kernel
theorem dX12_readLet_112 : decode cX12_readLet 112 = .ok (.putfield 287, 3) := by decide +kernel
theorem dX12_readLet_115 : decode cX12_readLet 115 = .ok (.return_, 1) := by decide +kernel
theorem dX12_readTests_0 : decode cX12_readTests 0 = .ok (.sipush 19200, 3) := by decide +kernel
theorem dX12_readTests_3 : decode cX12_readTests 3 = .ok (.aload_n 0, 1) := by decide +kernel
theorem dX12_readTests_4 : decode cX12_readTests 4 = .ok (.getfield 278, 3) := by decide +kernel
theorem dX12_readTests_7 : decode cX12_readTests 7 = .ok (.iadd, 1) := by decide +kernel
theorem dX12_readTests_8 : decode cX12_readTests 8 = .ok (.istore_n 1, 1) := by decide +kernel
theorem dX12_readTests_9 : decode cX12_readTests 9 = .ok (.aload_n 0, 1) := by decide +kernel
theorem dX12_readTests_10 : decode cX12_readTests 10 = .ok (.iconst 0, 1) := by decide +kernel
theorem dX12_readTests_11 : decode cX12_readTests 11 = .ok (.invokevirtual 326, 3) := by decide +kernel
theorem dX12_readTests_14 : decode cX12_readTests 14 = .ok (.aload_n 0, 1) := by decide +kernel
theorem dX12_readTests_15 : decode cX12_readTests 15 = .ok (.iconst 0, 1) := by decide +kernel
theorem dX12_readTests_16 : decode cX12_readTests 16 = .ok (.iconst 0, 1) := by decide +kernel
theorem dX12_readTests_17 : decode cX12_readTests 17 = .ok (.invokevirtual 329, 3) := by decide +kernel
theorem dX12_readTests_20 : decode cX12_readTests 20 = .ok (.iload_n 1, 1) := by decide +kernel
theorem dX12_readTests_21 : decode cX12_readTests 21 = .ok (.ireturn, 1) := by decide +kernel
theorem dX12_all_0 : decode cX12_all 0 = .ok (.aload_n 0, 1) := by decide +kernel
theorem dX12_all_1 : decode cX12_all 1 = .ok (.iload_n 1, 1) := by decide +kernel
theorem dX12_all_2 : decode cX12_all 2 = .ok (.invokevirtual 333, 3) := by decide +kernel
theorem dX12_all_5 : decode cX12_all 5 = .ok (.aload_n 0, 1) := by decide +kernel
theorem dX12_all_6 : decode cX12_all 6 = .ok (.bipush 7, 2) := by decide +kernel
theorem dX12_all_8 : decode cX12_all 8 = .ok (.invokevirtual 272, 3) := by decide +kernel
theorem dX12_all_11 : decode cX12_all 11 = .ok (.ifCond .ne 12, 3) := by decide +kernel
theorem dX12_all_14 : decode cX12_all 14 = .ok (.aload_n 0, 1) := by decide +kernel
theorem dX12_all_15 : decode cX12_all 15 = .ok (.bipush 8, 2) := by decide +kernel
theorem dX12_all_17 : decode cX12_all 17 = .ok (.invokevirtual 272, 3) := by decide +kernel
theorem dX12_all_20 : decode cX12_all 20 = .ok (.ifCond .eq 44, 3) := by decide +kernel
theorem dX12_all_23 : decode cX12_all 23 = .ok (.aload_n 0, 1) := by decide +kernel
theorem dX12_all_24 : decode cX12_all 24 = .ok (.bipush 7, 2) := by decide +kernel
theorem dX12_all_26 : decode cX12_all 26 = .ok (.invokevirtual 272, 3) := by decide +kernel
theorem dX12_all_29 : decode cX12_all 29 = .ok (.istore_n 2, 1) := by decide +kernel
theorem dX12_all_30 : decode cX12_all 30 = .ok (.aload_n 0, 1) := by decide +kernel
theorem dX12_all_31 : decode cX12_all 31 = .ok (.dup, 1) := by decide +kernel
theorem dX12_all_32 : decode cX12_all 32 = .ok (.getfield 259, 3) := by decide +kernel
theorem dX12_all_35 : decode cX12_all 35 = .ok (.iconst 1, 1) := by decide +kernel
theorem dX12_all_36 : decode cX12_all 36 = .ok (.iadd, 1) := by decide +kernel
theorem dX12_all_37 : decode cX12_all 37 = .ok (.putfield 259, 3) := by decide +kernel
theorem dX12_all_40 : decode cX12_all 40 = .ok (.aload_n 0, 1) := by decide +kernel
theorem dX12_all_41 : decode cX12_all 41 = .ok (.iload_n 1, 1) := by decide +kernel
theorem dX12_all_42 : decode cX12_all 42 = .ok (.invokevirtual 333, 3) := by decide +kernel
theorem dX12_all_45 : decode cX12_all 45 = .ok (.aload_n 0, 1) := by decide +kernel
theorem dX12_all_46 : decode cX12_all 46 = .ok (.iload_n 2, 1) := by decide +kernel
theorem dX12_all_47 : decode cX12_all 47 = .ok (.ifCond .eq 8, 3) := by decide +kernel
theorem dX12_all_50 : decode cX12_all 50 = .ok (.bipush 10, 2) := by decide +kernel
theorem dX12_all_52 : decode cX12_all 52 = .ok (.goto 5, 3) := by decide +kernel
theorem dX12_all_55 : decode cX12_all 55 = .ok (.bipush 11, 2) := by decide +kernel
theorem dX12_all_57 : decode cX12_all 57 = .ok (.iconst 0, 1) := by decide +kernel
theorem dX12_all_58 : decode cX12_all 58 = .ok (.invokevirtual 329, 3) := by decide +kernel
theorem dX12_all_61 : decode cX12_all 61 = .ok (.goto (-56), 3) := by decide +kernel
theorem dX12_all_64 : decode cX12_all 64 = .ok (.return_, 1) := by decide +kernel
theorem dX12_test_0 : decode cX12_test 0 = .ok (.aload_n 0, 1) := by decide +kernel
theorem dX12_test_1 : decode cX12_test 1 = .ok (.iload_n 1, 1) := by decide +kernel
theorem dX12_test_2 : decode cX12_test 2 = .ok (.invokevirtual 336, 3) := by decide +kernel
theorem dX12_test_5 : decode cX12_test 5 = .ok (.aload_n 0, 1) := by decide +kernel
theorem dX12_test_6 : decode cX12_test 6 = .ok (.bipush 60, 2) := by decide +kernel
theorem dX12_test_8 : decode cX12_test 8 = .ok (.invokevirtual 265, 3) := by decide +kernel
theorem dX12_test_11 : decode cX12_test 11 = .ok (.istore_n 2, 1) := by decide +kernel
theorem dX12_test_12 : decode cX12_test 12 = .ok (.aload_n 0, 1) := by decide +kernel
theorem dX12_test_13 : decode cX12_test 13 = .ok (.bipush 60, 2) := by decide +kernel
theorem dX12_test_15 : decode cX12_test 15 = .ok (.invokevirtual 339, 3) := by decide +kernel
theorem dX12_test_18 : decode cX12_test 18 = .ok (.ifCond .ne 12, 3) := by decide +kernel
theorem dX12_test_21 : decode cX12_test 21 = .ok (.aload_n 0, 1) := by decide +kernel
theorem dX12_test_22 : decode cX12_test 22 = .ok (.bipush 61, 2) := by decide +kernel
theorem dX12_test_24 : decode cX12_test 24 = .ok (.invokevirtual 339, 3) := by decide +kernel
theorem dX12_test_27 : decode cX12_test 27 = .ok (.ifCond .eq 24, 3) := by decide +kernel
theorem dX12_test_30 : decode cX12_test 30 = .ok (.aload_n 0, 1) := by decide +kernel
theorem dX12_test_31 : decode cX12_test 31 = .ok (.iload_n 1, 1) := by decide +kernel
theorem dX12_test_32 : decode cX12_test 32 = .ok (.invokevirtual 336, 3) := by decide +kernel
theorem dX12_test_35 : decode cX12_test 35 = .ok (.aload_n 0, 1) := by decide +kernel
theorem dX12_test_36 : decode cX12_test 36 = .ok (.iload_n 2, 1) := by decide +kernel
theorem dX12_test_37 : decode cX12_test 37 = .ok (.ifCond .eq 8, 3) := by decide +kernel
theorem dX12_test_40 : decode cX12_test 40 = .ok (.bipush 8, 2) := by decide +kernel
theorem dX12_test_42 : decode cX12_test 42 = .ok (.goto 5, 3) := by decide +kernel
theorem dX12_test_45 : decode cX12_test 45 = .ok (.bipush 9, 2) := by decide +kernel
theorem dX12_test_47 : decode cX12_test 47 = .ok (.iconst 0, 1) := by decide +kernel
theorem dX12_test_48 : decode cX12_test 48 = .ok (.invokevirtual 329, 3) := by decide +kernel
theorem dX12_test_51 : decode cX12_test 51 = .ok (.return_, 1) := by decide +kernel
theorem dX12_sums_0 : decode cX12_sums 0 = .ok (.aload_n 0, 1) := by decide +kernel
theorem dX12_sums_1 : decode cX12_sums 1 = .ok (.iload_n 1, 1) := by decide +kernel
theorem dX12_sums_2 : decode cX12_sums 2 = .ok (.invokevirtual 342, 3) := by decide +kernel
theorem dX12_sums_5 : decode cX12_sums 5 = .ok (.aload_n 0, 1) := by decide +kernel
theorem dX12_sums_6 : decode cX12_sums 6 = .ok (.bipush 43, 2) := by decide +kernel
theorem dX12_sums_8 : decode cX12_sums 8 = .ok (.invokevirtual 265, 3) := by decide +kernel
theorem dX12_sums_11 : decode cX12_sums 11 = .ok (.ifCond .ne 12, 3) := by decide +kernel
theorem dX12_sums_14 : decode cX12_sums 14 = .ok (.aload_n 0, 1) := by decide +kernel
theorem dX12_sums_15 : decode cX12_sums 15 = .ok (.bipush 45, 2) := by decide +kernel
theorem dX12_sums_17 : decode cX12_sums 17 = .ok (.invokevirtual 265, 3) := by decide +kernel
theorem dX12_sums_20 : decode cX12_sums 20 = .ok (.ifCond .eq 43, 3) := by decide +kernel
theorem dX12_sums_23 : decode cX12_sums 23 = .ok (.aload_n 0, 1) := by decide +kernel
theorem dX12_sums_24 : decode cX12_sums 24 = .ok (.bipush 43, 2) := by decide +kernel
theorem dX12_sums_26 : decode cX12_sums 26 = .ok (.invokevirtual 265, 3) := by decide +kernel
theorem dX12_sums_29 : decode cX12_sums 29 = .ok (.istore_n 2, 1) := by decide +kernel
theorem dX12_sums_30 : decode cX12_sums 30 = .ok (.aload_n 0, 1) := by decide +kernel
theorem dX12_sums_31 : decode cX12_sums 31 = .ok (.dup, 1) := by decide +kernel
theorem dX12_sums_32 : decode cX12_sums 32 = .ok (.getfield 259, 3) := by decide +kernel
theorem dX12_sums_35 : decode cX12_sums 35 = .ok (.iconst 1, 1) := by decide +kernel
theorem dX12_sums_36 : decode cX12_sums 36 = .ok (.iadd, 1) := by decide +kernel
theorem dX12_sums_37 : decode cX12_sums 37 = .ok (.putfield 259, 3) := by decide +kernel
theorem dX12_sums_40 : decode cX12_sums 40 = .ok (.aload_n 0, 1) := by decide +kernel
theorem dX12_sums_41 : decode cX12_sums 41 = .ok (.iload_n 1, 1) := by decide +kernel
theorem dX12_sums_42 : decode cX12_sums 42 = .ok (.invokevirtual 342, 3) := by decide +kernel
theorem dX12_sums_45 : decode cX12_sums 45 = .ok (.aload_n 0, 1) := by decide +kernel
theorem dX12_sums_46 : decode cX12_sums 46 = .ok (.iload_n 2, 1) := by decide +kernel
theorem dX12_sums_47 : decode cX12_sums 47 = .ok (.ifCond .eq 7, 3) := by decide +kernel
theorem dX12_sums_50 : decode cX12_sums 50 = .ok (.iconst 5, 1) := by decide +kernel
theorem dX12_sums_51 : decode cX12_sums 51 = .ok (.goto 5, 3) := by decide +kernel
theorem dX12_sums_54 : decode cX12_sums 54 = .ok (.bipush 6, 2) := by decide +kernel
theorem dX12_sums_56 : decode cX12_sums 56 = .ok (.iconst 0, 1) := by decide +kernel
theorem dX12_sums_57 : decode cX12_sums 57 = .ok (.invokevirtual 329, 3) := by decide +kernel
theorem dX12_sums_60 : decode cX12_sums 60 = .ok (.goto (-55), 3) := by decide +kernel
theorem dX12_sums_63 : decode cX12_sums 63 = .ok (.return_, 1) := by decide +kernel
theorem dX12_products_0 : decode cX12_products 0 = .ok (.aload_n 0, 1) := by decide +kernel
theorem dX12_products_1 : decode cX12_products 1 = .ok (.iload_n 1, 1) := by decide +kernel
theorem dX12_products_2 : decode cX12_products 2 = .ok (.invokevirtual 345, 3) := by decide +kernel
theorem dX12_products_5 : decode cX12_products 5 = .ok (.aload_n 0, 1) := by decide +kernel
theorem dX12_products_6 : decode cX12_products 6 = .ok (.bipush 42, 2) := by decide +kernel
theorem dX12_products_8 : decode cX12_products 8 = .ok (.invokevirtual 339, 3) := by decide +kernel
theorem dX12_products_11 : decode cX12_products 11 = .ok (.ifCond .eq 18, 3) := by decide +kernel
theorem dX12_products_14 : decode cX12_products 14 = .ok (.aload_n 0, 1) := by decide +kernel
theorem dX12_products_15 : decode cX12_products 15 = .ok (.iload_n 1, 1) := by decide +kernel
theorem dX12_products_16 : decode cX12_products 16 = .ok (.invokevirtual 345, 3) := by decide +kernel
theorem dX12_products_19 : decode cX12_products 19 = .ok (.aload_n 0, 1) := by decide +kernel
theorem dX12_products_20 : decode cX12_products 20 = .ok (.bipush 7, 2) := by decide +kernel
theorem dX12_products_22 : decode cX12_products 22 = .ok (.iconst 0, 1) := by decide +kernel
theorem dX12_products_23 : decode cX12_products 23 = .ok (.invokevirtual 329, 3) := by decide +kernel
theorem dX12_products_26 : decode cX12_products 26 = .ok (.goto (-21), 3) := by decide +kernel
theorem dX12_products_29 : decode cX12_products 29 = .ok (.return_, 1) := by decide +kernel
theorem dX12_takePart_0 : decode cX12_takePart 0 = .ok (.aload_n 0, 1) := by decide +kernel
theorem dX12_takePart_1 : decode cX12_takePart 1 = .ok (.getfield 262, 3) := by decide +kernel
theorem dX12_takePart_4 : decode cX12_takePart 4 = .ok (.ifCond .le 4, 3) := by decide +kernel
theorem dX12_takePart_7 : decode cX12_takePart 7 = .ok (.return_, 1) := by decide +kernel
theorem dX12_takePart_8 : decode cX12_takePart 8 = .ok (.iconst (-1), 1) := by decide +kernel
theorem dX12_takePart_9 : decode cX12_takePart 9 = .ok (.istore_n 2, 1) := by decide +kernel
theorem dX12_takePart_10 : decode cX12_takePart 10 = .ok (.bipush 10, 2) := by decide +kernel
theorem dX12_takePart_12 : decode cX12_takePart 12 = .ok (.istore_n 3, 1) := by decide +kernel
theorem dX12_takePart_13 : decode cX12_takePart 13 = .ok (.iload_n 3, 1) := by decide +kernel
theorem dX12_takePart_14 : decode cX12_takePart 14 = .ok (.bipush 21, 2) := by decide +kernel
theorem dX12_takePart_16 : decode cX12_takePart 16 = .ok (.if_icmp .ge 26, 3) := by decide +kernel
theorem dX12_takePart_19 : decode cX12_takePart 19 = .ok (.aload_n 0, 1) := by decide +kernel
theorem dX12_takePart_20 : decode cX12_takePart 20 = .ok (.iload_n 3, 1) := by decide +kernel
theorem dX12_takePart_21 : decode cX12_takePart 21 = .ok (.invokevirtual 272, 3) := by decide +kernel
theorem dX12_takePart_24 : decode cX12_takePart 24 = .ok (.ifCond .eq 10, 3) := by decide +kernel
theorem dX12_takePart_27 : decode cX12_takePart 27 = .ok (.iload_n 3, 1) := by decide +kernel
theorem dX12_takePart_28 : decode cX12_takePart 28 = .ok (.bipush 10, 2) := by decide +kernel
theorem dX12_takePart_30 : decode cX12_takePart 30 = .ok (.isub, 1) := by decide +kernel
theorem dX12_takePart_31 : decode cX12_takePart 31 = .ok (.goto 4, 3) := by decide +kernel
theorem dX12_takePart_34 : decode cX12_takePart 34 = .ok (.iload_n 2, 1) := by decide +kernel
theorem dX12_takePart_35 : decode cX12_takePart 35 = .ok (.istore_n 2, 1) := by decide +kernel
theorem dX12_takePart_36 : decode cX12_takePart 36 = .ok (.iinc 3 1, 3) := by decide +kernel
theorem dX12_takePart_39 : decode cX12_takePart 39 = .ok (.goto (-26), 3) := by decide +kernel
theorem dX12_takePart_42 : decode cX12_takePart 42 = .ok (.aload_n 0, 1) := by decide +kernel
theorem dX12_takePart_43 : decode cX12_takePart 43 = .ok (.getfield 24, 3) := by decide +kernel
theorem dX12_takePart_46 : decode cX12_takePart 46 = .ok (.aload_n 0, 1) := by decide +kernel
theorem dX12_takePart_47 : decode cX12_takePart 47 = .ok (.getfield 259, 3) := by decide +kernel
theorem dX12_takePart_50 : decode cX12_takePart 50 = .ok (.iaload, 1) := by decide +kernel
theorem dX12_takePart_51 : decode cX12_takePart 51 = .ok (.iconst 2, 1) := by decide +kernel
theorem dX12_takePart_52 : decode cX12_takePart 52 = .ok (.if_icmp .ne 7, 3) := by decide +kernel
theorem dX12_takePart_55 : decode cX12_takePart 55 = .ok (.iconst 1, 1) := by decide +kernel
theorem dX12_takePart_56 : decode cX12_takePart 56 = .ok (.goto 4, 3) := by decide +kernel
theorem dX12_takePart_59 : decode cX12_takePart 59 = .ok (.iconst 0, 1) := by decide +kernel
theorem dX12_takePart_60 : decode cX12_takePart 60 = .ok (.istore_n 3, 1) := by decide +kernel
theorem dX12_takePart_61 : decode cX12_takePart 61 = .ok (.aload_n 0, 1) := by decide +kernel
theorem dX12_takePart_62 : decode cX12_takePart 62 = .ok (.invokevirtual 319, 3) := by decide +kernel
theorem dX12_takePart_65 : decode cX12_takePart 65 = .ok (.ifCond .eq 10, 3) := by decide +kernel
theorem dX12_takePart_68 : decode cX12_takePart 68 = .ok (.aload_n 0, 1) := by decide +kernel
theorem dX12_takePart_69 : decode cX12_takePart 69 = .ok (.invokevirtual 323, 3) := by decide +kernel
theorem dX12_takePart_72 : decode cX12_takePart 72 = .ok (.goto 4, 3) := by decide +kernel
theorem dX12_takePart_75 : decode cX12_takePart 75 = .ok (.iconst (-1), 1) := by decide +kernel
theorem dX12_takePart_76 : decode cX12_takePart 76 = .ok (.istore 4, 2) := by decide +kernel
theorem dX12_takePart_78 : decode cX12_takePart 78 = .ok (.iload_n 2, 1) := by decide +kernel
theorem dX12_takePart_79 : decode cX12_takePart 79 = .ok (.ifCond .ge 40, 3) := by decide +kernel
theorem dX12_takePart_82 : decode cX12_takePart 82 = .ok (.iload_n 3, 1) := by decide +kernel
theorem dX12_takePart_83 : decode cX12_takePart 83 = .ok (.ifCond .ne 36, 3) := by decide +kernel
theorem dX12_takePart_86 : decode cX12_takePart 86 = .ok (.aload_n 0, 1) := by decide +kernel
theorem dX12_takePart_87 : decode cX12_takePart 87 = .ok (.invokevirtual 319, 3) := by decide +kernel
theorem dX12_takePart_90 : decode cX12_takePart 90 = .ok (.ifCond .ne 29, 3) := by decide +kernel
theorem dX12_takePart_93 : decode cX12_takePart 93 = .ok (.aload_n 0, 1) := by decide +kernel
theorem dX12_takePart_94 : decode cX12_takePart 94 = .ok (.bipush 40, 2) := by decide +kernel
theorem dX12_takePart_96 : decode cX12_takePart 96 = .ok (.invokevirtual 265, 3) := by decide +kernel
theorem dX12_takePart_99 : decode cX12_takePart 99 = .ok (.ifCond .ne 20, 3) := by decide +kernel
theorem dX12_takePart_102 : decode cX12_takePart 102 = .ok (.aload_n 0, 1) := by decide +kernel
theorem dX12_takePart_103 : decode cX12_takePart 103 = .ok (.bipush 9, 2) := by decide +kernel
theorem dX12_takePart_105 : decode cX12_takePart 105 = .ok (.invokevirtual 272, 3) := by decide +kernel
theorem dX12_takePart_108 : decode cX12_takePart 108 = .ok (.ifCond .ne 11, 3) := by decide +kernel
theorem dX12_takePart_111 : decode cX12_takePart 111 = .ok (.aload_n 0, 1) := by decide +kernel
theorem dX12_takePart_112 : decode cX12_takePart 112 = .ok (.iconst 1, 1) := by decide +kernel
theorem dX12_takePart_113 : decode cX12_takePart 113 = .ok (.invokevirtual 268, 3) := by decide +kernel
theorem dX12_takePart_116 : decode cX12_takePart 116 = .ok (.goto 33, 3) := by decide +kernel
theorem dX12_takePart_119 : decode cX12_takePart 119 = .ok (.aload_n 0, 1) := by decide +kernel
theorem dX12_takePart_120 : decode cX12_takePart 120 = .ok (.invokevirtual 319, 3) := by decide +kernel
theorem dX12_takePart_123 : decode cX12_takePart 123 = .ok (.ifCond .eq 16, 3) := by decide +kernel
theorem dX12_takePart_126 : decode cX12_takePart 126 = .ok (.iload 4, 2) := by decide +kernel
theorem dX12_takePart_128 : decode cX12_takePart 128 = .ok (.ifCond .ge 11, 3) := by decide +kernel
theorem dX12_takePart_131 : decode cX12_takePart 131 = .ok (.aload_n 0, 1) := by decide +kernel
theorem dX12_takePart_132 : decode cX12_takePart 132 = .ok (.iconst 2, 1) := by decide +kernel
theorem dX12_takePart_133 : decode cX12_takePart 133 = .ok (.invokevirtual 268, 3) := by decide +kernel
theorem dX12_takePart_136 : decode cX12_takePart 136 = .ok (.goto 13, 3) := by decide +kernel
theorem dX12_takePart_139 : decode cX12_takePart 139 = .ok (.iload_n 1, 1) := by decide +kernel
theorem dX12_takePart_140 : decode cX12_takePart 140 = .ok (.iconst 4, 1) := by decide +kernel
theorem dX12_takePart_141 : decode cX12_takePart 141 = .ok (.if_icmp .ne 8, 3) := by decide +kernel
theorem dX12_takePart_144 : decode cX12_takePart 144 = .ok (.aload_n 0, 1) := by decide +kernel
theorem dX12_takePart_145 : decode cX12_takePart 145 = .ok (.iconst 5, 1) := by decide +kernel
theorem dX12_takePart_146 : decode cX12_takePart 146 = .ok (.invokevirtual 268, 3) := by decide +kernel
theorem dX12_takePart_149 : decode cX12_takePart 149 = .ok (.aload_n 0, 1) := by decide +kernel
theorem dX12_takePart_150 : decode cX12_takePart 150 = .ok (.getfield 262, 3) := by decide +kernel
theorem dX12_takePart_153 : decode cX12_takePart 153 = .ok (.ifCond .le 4, 3) := by decide +kernel
theorem dX12_takePart_156 : decode cX12_takePart 156 = .ok (.return_, 1) := by decide +kernel
theorem dX12_takePart_157 : decode cX12_takePart 157 = .ok (.aload_n 0, 1) := by decide +kernel
theorem dX12_takePart_158 : decode cX12_takePart 158 = .ok (.bipush 9, 2) := by decide +kernel
theorem dX12_takePart_160 : decode cX12_takePart 160 = .ok (.invokevirtual 275, 3) := by decide +kernel
theorem dX12_takePart_163 : decode cX12_takePart 163 = .ok (.ifCond .eq 19, 3) := by decide +kernel
theorem dX12_takePart_166 : decode cX12_takePart 166 = .ok (.aload_n 0, 1) := by decide +kernel
theorem dX12_takePart_167 : decode cX12_takePart 167 = .ok (.iload_n 1, 1) := by decide +kernel
theorem dX12_takePart_168 : decode cX12_takePart 168 = .ok (.iconst 1, 1) := by decide +kernel
theorem dX12_takePart_169 : decode cX12_takePart 169 = .ok (.iadd, 1) := by decide +kernel
theorem dX12_takePart_170 : decode cX12_takePart 170 = .ok (.invokevirtual 345, 3) := by decide +kernel
theorem dX12_takePart_173 : decode cX12_takePart 173 = .ok (.aload_n 0, 1) := by decide +kernel
theorem dX12_takePart_174 : decode cX12_takePart 174 = .ok (.iconst 4, 1) := by decide +kernel
theorem dX12_takePart_175 : decode cX12_takePart 175 = .ok (.iconst 0, 1) := by decide +kernel
theorem dX12_takePart_176 : decode cX12_takePart 176 = .ok (.invokevirtual 329, 3) := by decide +kernel
theorem dX12_takePart_179 : decode cX12_takePart 179 = .ok (.goto 88, 3) := by decide +kernel
theorem dX12_takePart_182 : decode cX12_takePart 182 = .ok (.aload_n 0, 1) := by decide +kernel
theorem dX12_takePart_183 : decode cX12_takePart 183 = .ok (.bipush 40, 2) := by decide +kernel
theorem dX12_takePart_185 : decode cX12_takePart 185 = .ok (.invokevirtual 339, 3) := by decide +kernel
theorem dX12_takePart_188 : decode cX12_takePart 188 = .ok (.ifCond .eq 19, 3) := by decide +kernel
theorem dX12_takePart_191 : decode cX12_takePart 191 = .ok (.aload_n 0, 1) := by decide +kernel
theorem dX12_takePart_192 : decode cX12_takePart 192 = .ok (.iload_n 1, 1) := by decide +kernel
theorem dX12_takePart_193 : decode cX12_takePart 193 = .ok (.iconst 1, 1) := by decide +kernel
theorem dX12_takePart_194 : decode cX12_takePart 194 = .ok (.iadd, 1) := by decide +kernel
theorem dX12_takePart_195 : decode cX12_takePart 195 = .ok (.invokevirtual 326, 3) := by decide +kernel
theorem dX12_takePart_198 : decode cX12_takePart 198 = .ok (.aload_n 0, 1) := by decide +kernel
theorem dX12_takePart_199 : decode cX12_takePart 199 = .ok (.bipush 41, 2) := by decide +kernel
theorem dX12_takePart_201 : decode cX12_takePart 201 = .ok (.invokevirtual 316, 3) := by decide +kernel
theorem dX12_takePart_204 : decode cX12_takePart 204 = .ok (.goto 63, 3) := by decide +kernel
theorem dX12_takePart_207 : decode cX12_takePart 207 = .ok (.aload_n 0, 1) := by decide +kernel
theorem dX12_takePart_208 : decode cX12_takePart 208 = .ok (.iload_n 3, 1) := by decide +kernel
theorem dX12_takePart_209 : decode cX12_takePart 209 = .ok (.ifCond .eq 7, 3) := by decide +kernel
theorem dX12_takePart_212 : decode cX12_takePart 212 = .ok (.iconst 1, 1) := by decide +kernel
theorem dX12_takePart_213 : decode cX12_takePart 213 = .ok (.goto 13, 3) := by decide +kernel
theorem dX12_takePart_216 : decode cX12_takePart 216 = .ok (.iload 4, 2) := by decide +kernel
theorem dX12_takePart_218 : decode cX12_takePart 218 = .ok (.ifCond .lt 7, 3) := by decide +kernel
theorem dX12_takePart_221 : decode cX12_takePart 221 = .ok (.iconst 3, 1) := by decide +kernel
theorem dX12_takePart_222 : decode cX12_takePart 222 = .ok (.goto 4, 3) := by decide +kernel
theorem dX12_takePart_225 : decode cX12_takePart 225 = .ok (.iconst 2, 1) := by decide +kernel
theorem dX12_takePart_226 : decode cX12_takePart 226 = .ok (.iload_n 3, 1) := by decide +kernel
theorem dX12_takePart_227 : decode cX12_takePart 227 = .ok (.ifCond .eq 16, 3) := by decide +kernel
theorem dX12_takePart_230 : decode cX12_takePart 230 = .ok (.aload_n 0, 1) := by decide +kernel
theorem dX12_takePart_231 : decode cX12_takePart 231 = .ok (.getfield 30, 3) := by decide +kernel
theorem dX12_takePart_234 : decode cX12_takePart 234 = .ok (.aload_n 0, 1) := by decide +kernel
theorem dX12_takePart_235 : decode cX12_takePart 235 = .ok (.getfield 259, 3) := by decide +kernel
theorem dX12_takePart_238 : decode cX12_takePart 238 = .ok (.laload, 1) := by decide +kernel
theorem dX12_takePart_239 : decode cX12_takePart 239 = .ok (.l2i, 1) := by decide +kernel
theorem dX12_takePart_240 : decode cX12_takePart 240 = .ok (.goto 14, 3) := by decide +kernel
theorem dX12_takePart_243 : decode cX12_takePart 243 = .ok (.iload 4, 2) := by decide +kernel
theorem dX12_takePart_245 : decode cX12_takePart 245 = .ok (.ifCond .lt 8, 3) := by decide +kernel
theorem dX12_takePart_248 : decode cX12_takePart 248 = .ok (.iload 4, 2) := by decide +kernel
theorem dX12_takePart_250 : decode cX12_takePart 250 = .ok (.goto 4, 3) := by decide +kernel
theorem dX12_takePart_253 : decode cX12_takePart 253 = .ok (.iload_n 2, 1) := by decide +kernel
theorem dX12_takePart_254 : decode cX12_takePart 254 = .ok (.invokevirtual 329, 3) := by decide +kernel
theorem dX12_takePart_257 : decode cX12_takePart 257 = .ok (.aload_n 0, 1) := by decide +kernel
theorem dX12_takePart_258 : decode cX12_takePart 258 = .ok (.dup, 1) := by decide +kernel
theorem dX12_takePart_259 : decode cX12_takePart 259 = .ok (.getfield 259, 3) := by decide +kernel
theorem dX12_takePart_262 : decode cX12_takePart 262 = .ok (.iconst 1, 1) := by decide +kernel
theorem dX12_takePart_263 : decode cX12_takePart 263 = .ok (.iadd, 1) := by decide +kernel
theorem dX12_takePart_264 : decode cX12_takePart 264 = .ok (.putfield 259, 3) := by decide +kernel
theorem dX12_takePart_267 : decode cX12_takePart 267 = .ok (.return_, 1) := by decide +kernel
theorem dX12_worth_0 : decode cX12_worth 0 = .ok (.iconst 0, 1) := by decide +kernel
theorem dX12_worth_1 : decode cX12_worth 1 = .ok (.istore_n 2, 1) := by decide +kernel
theorem dX12_worth_2 : decode cX12_worth 2 = .ok (.iload_n 1, 1) := by decide +kernel
theorem dX12_worth_3 : decode cX12_worth 3 = .ok (.istore_n 3, 1) := by decide +kernel
theorem dX12_worth_4 : decode cX12_worth 4 = .ok (.aload_n 0, 1) := by decide +kernel
theorem dX12_worth_5 : decode cX12_worth 5 = .ok (.getfield 100, 3) := by decide +kernel
theorem dX12_worth_8 : decode cX12_worth 8 = .ok (.iload_n 3, 1) := by decide +kernel
theorem dX12_worth_9 : decode cX12_worth 9 = .ok (.iaload, 1) := by decide +kernel
theorem dX12_worth_10 : decode cX12_worth 10 = .ok (.ifCond .eq 144, 3) := by decide +kernel
theorem dX12_worth_13 : decode cX12_worth 13 = .ok (.aload_n 0, 1) := by decide +kernel
theorem dX12_worth_14 : decode cX12_worth 14 = .ok (.getfield 100, 3) := by decide +kernel
theorem dX12_worth_17 : decode cX12_worth 17 = .ok (.iload_n 3, 1) := by decide +kernel
theorem dX12_worth_18 : decode cX12_worth 18 = .ok (.iaload, 1) := by decide +kernel
theorem dX12_worth_19 : decode cX12_worth 19 = .ok (.istore 4, 2) := by decide +kernel
theorem dX12_worth_21 : decode cX12_worth 21 = .ok (.iload 4, 2) := by decide +kernel
theorem dX12_worth_23 : decode cX12_worth 23 = .ok (.iconst 3, 1) := by decide +kernel
theorem dX12_worth_24 : decode cX12_worth 24 = .ok (.if_icmp .gt 61, 3) := by decide +kernel
theorem dX12_worth_27 : decode cX12_worth 27 = .ok (.aload_n 0, 1) := by decide +kernel
theorem dX12_worth_28 : decode cX12_worth 28 = .ok (.getfield 112, 3) := by decide +kernel
theorem dX12_worth_31 : decode cX12_worth 31 = .ok (.iload_n 2, 1) := by decide +kernel
theorem dX12_worth_32 : decode cX12_worth 32 = .ok (.iload 4, 2) := by decide +kernel
theorem dX12_worth_34 : decode cX12_worth 34 = .ok (.iconst 1, 1) := by decide +kernel
theorem dX12_worth_35 : decode cX12_worth 35 = .ok (.if_icmp .ne 12, 3) := by decide +kernel
theorem dX12_worth_38 : decode cX12_worth 38 = .ok (.aload_n 0, 1) := by decide +kernel
theorem dX12_worth_39 : decode cX12_worth 39 = .ok (.getfield 103, 3) := by decide +kernel
theorem dX12_worth_42 : decode cX12_worth 42 = .ok (.iload_n 3, 1) := by decide +kernel
theorem dX12_worth_43 : decode cX12_worth 43 = .ok (.iaload, 1) := by decide +kernel
theorem dX12_worth_44 : decode cX12_worth 44 = .ok (.goto 34, 3) := by decide +kernel
theorem dX12_worth_47 : decode cX12_worth 47 = .ok (.iload 4, 2) := by decide +kernel
theorem dX12_worth_49 : decode cX12_worth 49 = .ok (.iconst 2, 1) := by decide +kernel
theorem dX12_worth_50 : decode cX12_worth 50 = .ok (.if_icmp .ne 17, 3) := by decide +kernel
theorem dX12_worth_53 : decode cX12_worth 53 = .ok (.aload_n 0, 1) := by decide +kernel
theorem dX12_worth_54 : decode cX12_worth 54 = .ok (.getfield 106, 3) := by decide +kernel
theorem dX12_worth_57 : decode cX12_worth 57 = .ok (.aload_n 0, 1) := by decide +kernel
theorem dX12_worth_58 : decode cX12_worth 58 = .ok (.getfield 103, 3) := by decide +kernel
theorem dX12_worth_61 : decode cX12_worth 61 = .ok (.iload_n 3, 1) := by decide +kernel
theorem dX12_worth_62 : decode cX12_worth 62 = .ok (.iaload, 1) := by decide +kernel
theorem dX12_worth_63 : decode cX12_worth 63 = .ok (.iaload, 1) := by decide +kernel
theorem dX12_worth_64 : decode cX12_worth 64 = .ok (.goto 14, 3) := by decide +kernel
theorem dX12_worth_67 : decode cX12_worth 67 = .ok (.aload_n 0, 1) := by decide +kernel
theorem dX12_worth_68 : decode cX12_worth 68 = .ok (.getfield 109, 3) := by decide +kernel
theorem dX12_worth_71 : decode cX12_worth 71 = .ok (.aload_n 0, 1) := by decide +kernel
theorem dX12_worth_72 : decode cX12_worth 72 = .ok (.getfield 103, 3) := by decide +kernel
theorem dX12_worth_75 : decode cX12_worth 75 = .ok (.iload_n 3, 1) := by decide +kernel
theorem dX12_worth_76 : decode cX12_worth 76 = .ok (.iaload, 1) := by decide +kernel
theorem dX12_worth_77 : decode cX12_worth 77 = .ok (.iaload, 1) := by decide +kernel
theorem dX12_worth_78 : decode cX12_worth 78 = .ok (.iastore, 1) := by decide +kernel
theorem dX12_worth_79 : decode cX12_worth 79 = .ok (.iinc 2 1, 3) := by decide +kernel
theorem dX12_worth_82 : decode cX12_worth 82 = .ok (.goto 66, 3) := by decide +kernel
theorem dX12_worth_85 : decode cX12_worth 85 = .ok (.iload 4, 2) := by decide +kernel
theorem dX12_worth_87 : decode cX12_worth 87 = .ok (.iconst 4, 1) := by decide +kernel
theorem dX12_worth_88 : decode cX12_worth 88 = .ok (.if_icmp .ne 30, 3) := by decide +kernel
theorem dX12_worth_91 : decode cX12_worth 91 = .ok (.aload_n 0, 1) := by decide +kernel
theorem dX12_worth_92 : decode cX12_worth 92 = .ok (.getfield 112, 3) := by decide +kernel
theorem dX12_worth_95 : decode cX12_worth 95 = .ok (.iload_n 2, 1) := by decide +kernel
theorem dX12_worth_96 : decode cX12_worth 96 = .ok (.iconst 1, 1) := by decide +kernel
theorem dX12_worth_97 : decode cX12_worth 97 = .ok (.isub, 1) := by decide +kernel
theorem dX12_worth_98 : decode cX12_worth 98 = .ok (.aload_n 0, 1) := by decide +kernel
theorem dX12_worth_99 : decode cX12_worth 99 = .ok (.getfield 112, 3) := by decide +kernel
theorem dX12_worth_102 : decode cX12_worth 102 = .ok (.iload_n 2, 1) := by decide +kernel
theorem dX12_worth_103 : decode cX12_worth 103 = .ok (.iconst 1, 1) := by decide +kernel
theorem dX12_worth_104 : decode cX12_worth 104 = .ok (.isub, 1) := by decide +kernel
theorem dX12_worth_105 : decode cX12_worth 105 = .ok (.iaload, 1) := by decide +kernel
theorem dX12_worth_106 : decode cX12_worth 106 = .ok (.ifCond .ne 7, 3) := by decide +kernel
theorem dX12_worth_109 : decode cX12_worth 109 = .ok (.iconst 1, 1) := by decide +kernel
theorem dX12_worth_110 : decode cX12_worth 110 = .ok (.goto 4, 3) := by decide +kernel
theorem dX12_worth_113 : decode cX12_worth 113 = .ok (.iconst 0, 1) := by decide +kernel
theorem dX12_worth_114 : decode cX12_worth 114 = .ok (.iastore, 1) := by decide +kernel
theorem dX12_worth_115 : decode cX12_worth 115 = .ok (.goto 33, 3) := by decide +kernel
theorem dX12_worth_118 : decode cX12_worth 118 = .ok (.iinc 2 (-1), 3) := by decide +kernel
theorem dX12_worth_121 : decode cX12_worth 121 = .ok (.aload_n 0, 1) := by decide +kernel
theorem dX12_worth_122 : decode cX12_worth 122 = .ok (.getfield 112, 3) := by decide +kernel
theorem dX12_worth_125 : decode cX12_worth 125 = .ok (.iload_n 2, 1) := by decide +kernel
theorem dX12_worth_126 : decode cX12_worth 126 = .ok (.iconst 1, 1) := by decide +kernel
theorem dX12_worth_127 : decode cX12_worth 127 = .ok (.isub, 1) := by decide +kernel
theorem dX12_worth_128 : decode cX12_worth 128 = .ok (.iload 4, 2) := by decide +kernel
theorem dX12_worth_130 : decode cX12_worth 130 = .ok (.aload_n 0, 1) := by decide +kernel
theorem dX12_worth_131 : decode cX12_worth 131 = .ok (.getfield 112, 3) := by decide +kernel
theorem dX12_worth_134 : decode cX12_worth 134 = .ok (.iload_n 2, 1) := by decide +kernel
theorem dX12_worth_135 : decode cX12_worth 135 = .ok (.iconst 1, 1) := by decide +kernel
theorem dX12_worth_136 : decode cX12_worth 136 = .ok (.isub, 1) := by decide +kernel
theorem dX12_worth_137 : decode cX12_worth 137 = .ok (.iaload, 1) := by decide +kernel
theorem dX12_worth_138 : decode cX12_worth 138 = .ok (.aload_n 0, 1) := by decide +kernel
theorem dX12_worth_139 : decode cX12_worth 139 = .ok (.getfield 112, 3) := by decide +kernel
theorem dX12_worth_142 : decode cX12_worth 142 = .ok (.iload_n 2, 1) := by decide +kernel
theorem dX12_worth_143 : decode cX12_worth 143 = .ok (.iaload, 1) := by decide +kernel
theorem dX12_worth_144 : decode cX12_worth 144 = .ok (.invokestatic 348, 3) := by decide +kernel
theorem dX12_worth_147 : decode cX12_worth 147 = .ok (.iastore, 1) := by decide +kernel
theorem dX12_worth_148 : decode cX12_worth 148 = .ok (.iinc 3 1, 3) := by decide +kernel
theorem dX12_worth_151 : decode cX12_worth 151 = .ok (.goto (-147), 3) := by decide +kernel
theorem dX12_worth_154 : decode cX12_worth 154 = .ok (.aload_n 0, 1) := by decide +kernel
theorem dX12_worth_155 : decode cX12_worth 155 = .ok (.getfield 112, 3) := by decide +kernel
theorem dX12_worth_158 : decode cX12_worth 158 = .ok (.iconst 0, 1) := by decide +kernel
theorem dX12_worth_159 : decode cX12_worth 159 = .ok (.iaload, 1) := by decide +kernel
theorem dX12_worth_160 : decode cX12_worth 160 = .ok (.ireturn, 1) := by decide +kernel
theorem dX12_both_0 : decode cX12_both 0 = .ok (.iload_n 0, 1) := by decide +kernel
theorem dX12_both_1 : decode cX12_both 1 = .ok (.tableswitch 87 5 10 #[39, 43, 47, 51, 62, 73], 39) := by decide +kernel
theorem dX12_both_40 : decode cX12_both 40 = .ok (.iload_n 1, 1) := by decide +kernel
theorem dX12_both_41 : decode cX12_both 41 = .ok (.iload_n 2, 1) := by decide +kernel
theorem dX12_both_42 : decode cX12_both 42 = .ok (.iadd, 1) := by decide +kernel
theorem dX12_both_43 : decode cX12_both 43 = .ok (.ireturn, 1) := by decide +kernel
theorem dX12_both_44 : decode cX12_both 44 = .ok (.iload_n 1, 1) := by decide +kernel
theorem dX12_both_45 : decode cX12_both 45 = .ok (.iload_n 2, 1) := by decide +kernel
theorem dX12_both_46 : decode cX12_both 46 = .ok (.isub, 1) := by decide +kernel
theorem dX12_both_47 : decode cX12_both 47 = .ok (.ireturn, 1) := by decide +kernel
theorem dX12_both_48 : decode cX12_both 48 = .ok (.iload_n 1, 1) := by decide +kernel
theorem dX12_both_49 : decode cX12_both 49 = .ok (.iload_n 2, 1) := by decide +kernel
theorem dX12_both_50 : decode cX12_both 50 = .ok (.imul, 1) := by decide +kernel
theorem dX12_both_51 : decode cX12_both 51 = .ok (.ireturn, 1) := by decide +kernel
theorem dX12_both_52 : decode cX12_both 52 = .ok (.iload_n 1, 1) := by decide +kernel
theorem dX12_both_53 : decode cX12_both 53 = .ok (.iload_n 2, 1) := by decide +kernel
theorem dX12_both_54 : decode cX12_both 54 = .ok (.if_icmp .ge 7, 3) := by decide +kernel
theorem dX12_both_57 : decode cX12_both 57 = .ok (.iconst 1, 1) := by decide +kernel
theorem dX12_both_58 : decode cX12_both 58 = .ok (.goto 4, 3) := by decide +kernel
theorem dX12_both_61 : decode cX12_both 61 = .ok (.iconst 0, 1) := by decide +kernel
theorem dX12_both_62 : decode cX12_both 62 = .ok (.ireturn, 1) := by decide +kernel
theorem dX12_both_63 : decode cX12_both 63 = .ok (.iload_n 1, 1) := by decide +kernel
theorem dX12_both_64 : decode cX12_both 64 = .ok (.iload_n 2, 1) := by decide +kernel
theorem dX12_both_65 : decode cX12_both 65 = .ok (.if_icmp .ne 7, 3) := by decide +kernel
theorem dX12_both_68 : decode cX12_both 68 = .ok (.iconst 1, 1) := by decide +kernel
theorem dX12_both_69 : decode cX12_both 69 = .ok (.goto 4, 3) := by decide +kernel
theorem dX12_both_72 : decode cX12_both 72 = .ok (.iconst 0, 1) := by decide +kernel
theorem dX12_both_73 : decode cX12_both 73 = .ok (.ireturn, 1) := by decide +kernel
theorem dX12_both_74 : decode cX12_both 74 = .ok (.iload_n 1, 1) := by decide +kernel
theorem dX12_both_75 : decode cX12_both 75 = .ok (.ifCond .eq 11, 3) := by decide +kernel
theorem dX12_both_78 : decode cX12_both 78 = .ok (.iload_n 2, 1) := by decide +kernel
theorem dX12_both_79 : decode cX12_both 79 = .ok (.ifCond .eq 7, 3) := by decide +kernel
theorem dX12_both_82 : decode cX12_both 82 = .ok (.iconst 1, 1) := by decide +kernel
theorem dX12_both_83 : decode cX12_both 83 = .ok (.goto 4, 3) := by decide +kernel
theorem dX12_both_86 : decode cX12_both 86 = .ok (.iconst 0, 1) := by decide +kernel
theorem dX12_both_87 : decode cX12_both 87 = .ok (.ireturn, 1) := by decide +kernel
theorem dX12_both_88 : decode cX12_both 88 = .ok (.iload_n 1, 1) := by decide +kernel
theorem dX12_both_89 : decode cX12_both 89 = .ok (.ifCond .ne 7, 3) := by decide +kernel
theorem dX12_both_92 : decode cX12_both 92 = .ok (.iload_n 2, 1) := by decide +kernel
theorem dX12_both_93 : decode cX12_both 93 = .ok (.ifCond .eq 7, 3) := by decide +kernel
theorem dX12_both_96 : decode cX12_both 96 = .ok (.iconst 1, 1) := by decide +kernel
theorem dX12_both_97 : decode cX12_both 97 = .ok (.goto 4, 3) := by decide +kernel
theorem dX12_both_100 : decode cX12_both 100 = .ok (.iconst 0, 1) := by decide +kernel
theorem dX12_both_101 : decode cX12_both 101 = .ok (.ireturn, 1) := by decide +kernel
theorem dX12_within_0 : decode cX12_within 0 = .ok (.iload_n 0, 1) := by decide +kernel
theorem dX12_within_1 : decode cX12_within 1 = .ok (.iload_n 1, 1) := by decide +kernel
theorem dX12_within_2 : decode cX12_within 2 = .ok (.if_icmp .lt 12, 3) := by decide +kernel
theorem dX12_within_5 : decode cX12_within 5 = .ok (.iload_n 0, 1) := by decide +kernel
theorem dX12_within_6 : decode cX12_within 6 = .ok (.iload_n 2, 1) := by decide +kernel
theorem dX12_within_7 : decode cX12_within 7 = .ok (.if_icmp .gt 7, 3) := by decide +kernel
theorem dX12_within_10 : decode cX12_within 10 = .ok (.iconst 1, 1) := by decide +kernel
theorem dX12_within_11 : decode cX12_within 11 = .ok (.goto 4, 3) := by decide +kernel
theorem dX12_within_14 : decode cX12_within 14 = .ok (.iconst 0, 1) := by decide +kernel
theorem dX12_within_15 : decode cX12_within 15 = .ok (.ireturn, 1) := by decide +kernel
theorem dX12_isYear_0 : decode cX12_isYear 0 = .ok (.iload_n 0, 1) := by decide +kernel
theorem dX12_isYear_1 : decode cX12_isYear 1 = .ok (.iconst 0, 1) := by decide +kernel
theorem dX12_isYear_2 : decode cX12_isYear 2 = .ok (.bipush 30, 2) := by decide +kernel
theorem dX12_isYear_4 : decode cX12_isYear 4 = .ok (.invokestatic 352, 3) := by decide +kernel
theorem dX12_isYear_7 : decode cX12_isYear 7 = .ok (.ireturn, 1) := by decide +kernel
theorem dX12_years_0 : decode cX12_years 0 = .ok (.aload_n 0, 1) := by decide +kernel
theorem dX12_years_1 : decode cX12_years 1 = .ok (.iconst 0, 1) := by decide +kernel
theorem dX12_years_2 : decode cX12_years 2 = .ok (.putfield 1, 3) := by decide +kernel
theorem dX12_years_5 : decode cX12_years 5 = .ok (.iload_n 1, 1) := by decide +kernel
theorem dX12_years_6 : decode cX12_years 6 = .ok (.invokestatic 356, 3) := by decide +kernel
theorem dX12_years_9 : decode cX12_years 9 = .ok (.ifCond .eq 14, 3) := by decide +kernel
theorem dX12_years_12 : decode cX12_years 12 = .ok (.aload_n 0, 1) := by decide +kernel
theorem dX12_years_13 : decode cX12_years 13 = .ok (.getfield 296, 3) := by decide +kernel
theorem dX12_years_16 : decode cX12_years 16 = .ok (.iload_n 1, 1) := by decide +kernel
theorem dX12_years_17 : decode cX12_years 17 = .ok (.iadd, 1) := by decide +kernel
theorem dX12_years_18 : decode cX12_years 18 = .ok (.bipush 30, 2) := by decide +kernel
theorem dX12_years_20 : decode cX12_years 20 = .ok (.if_icmp .le 5, 3) := by decide +kernel
theorem dX12_years_23 : decode cX12_years 23 = .ok (.iconst (-1), 1) := by decide +kernel
theorem dX12_years_24 : decode cX12_years 24 = .ok (.ireturn, 1) := by decide +kernel
theorem dX12_years_25 : decode cX12_years 25 = .ok (.aload_n 0, 1) := by decide +kernel
theorem dX12_years_26 : decode cX12_years 26 = .ok (.dup, 1) := by decide +kernel
theorem dX12_years_27 : decode cX12_years 27 = .ok (.getfield 296, 3) := by decide +kernel
theorem dX12_years_30 : decode cX12_years 30 = .ok (.iload_n 1, 1) := by decide +kernel
theorem dX12_years_31 : decode cX12_years 31 = .ok (.iadd, 1) := by decide +kernel
theorem dX12_years_32 : decode cX12_years 32 = .ok (.putfield 296, 3) := by decide +kernel
theorem dX12_years_35 : decode cX12_years 35 = .ok (.aload_n 0, 1) := by decide +kernel
theorem dX12_years_36 : decode cX12_years 36 = .ok (.getfield 296, 3) := by decide +kernel
theorem dX12_years_39 : decode cX12_years 39 = .ok (.ireturn, 1) := by decide +kernel
theorem dX12_view_0 : decode cX12_view 0 = .ok (.aload_n 0, 1) := by decide +kernel
theorem dX12_view_1 : decode cX12_view 1 = .ok (.iconst 0, 1) := by decide +kernel
theorem dX12_view_2 : decode cX12_view 2 = .ok (.putfield 1, 3) := by decide +kernel
theorem dX12_view_5 : decode cX12_view 5 = .ok (.iload_n 1, 1) := by decide +kernel
theorem dX12_view_6 : decode cX12_view 6 = .ok (.iconst 0, 1) := by decide +kernel
theorem dX12_view_7 : decode cX12_view 7 = .ok (.aload_n 0, 1) := by decide +kernel
theorem dX12_view_8 : decode cX12_view 8 = .ok (.getfield 296, 3) := by decide +kernel
theorem dX12_view_11 : decode cX12_view 11 = .ok (.invokestatic 352, 3) := by decide +kernel
theorem dX12_view_14 : decode cX12_view 14 = .ok (.ifCond .ne 5, 3) := by decide +kernel
theorem dX12_view_17 : decode cX12_view 17 = .ok (.iconst 0, 1) := by decide +kernel
theorem dX12_view_18 : decode cX12_view 18 = .ok (.ireturn, 1) := by decide +kernel
theorem dX12_view_19 : decode cX12_view 19 = .ok (.aload_n 0, 1) := by decide +kernel
theorem dX12_view_20 : decode cX12_view 20 = .ok (.iload_n 1, 1) := by decide +kernel
theorem dX12_view_21 : decode cX12_view 21 = .ok (.aload_n 0, 1) := by decide +kernel
theorem dX12_view_22 : decode cX12_view 22 = .ok (.getfield 296, 3) := by decide +kernel
theorem dX12_view_25 : decode cX12_view 25 = .ok (.if_icmp .ne 7, 3) := by decide +kernel
theorem dX12_view_28 : decode cX12_view 28 = .ok (.iconst (-1), 1) := by decide +kernel
theorem dX12_view_29 : decode cX12_view 29 = .ok (.goto 4, 3) := by decide +kernel
theorem dX12_view_32 : decode cX12_view 32 = .ok (.iload_n 1, 1) := by decide +kernel
theorem dX12_view_33 : decode cX12_view 33 = .ok (.putfield 233, 3) := by decide +kernel
theorem dX12_view_36 : decode cX12_view 36 = .ok (.iconst 1, 1) := by decide +kernel
theorem dX12_view_37 : decode cX12_view 37 = .ok (.ireturn, 1) := by decide +kernel
theorem dX12_viewYear_0 : decode cX12_viewYear 0 = .ok (.aload_n 0, 1) := by decide +kernel
theorem dX12_viewYear_1 : decode cX12_viewYear 1 = .ok (.getfield 233, 3) := by decide +kernel
theorem dX12_viewYear_4 : decode cX12_viewYear 4 = .ok (.ifCond .ge 10, 3) := by decide +kernel
theorem dX12_viewYear_7 : decode cX12_viewYear 7 = .ok (.aload_n 0, 1) := by decide +kernel
theorem dX12_viewYear_8 : decode cX12_viewYear 8 = .ok (.getfield 296, 3) := by decide +kernel
theorem dX12_viewYear_11 : decode cX12_viewYear 11 = .ok (.goto 7, 3) := by decide +kernel
theorem dX12_viewYear_14 : decode cX12_viewYear 14 = .ok (.aload_n 0, 1) := by decide +kernel
theorem dX12_viewYear_15 : decode cX12_viewYear 15 = .ok (.getfield 233, 3) := by decide +kernel
theorem dX12_viewYear_18 : decode cX12_viewYear 18 = .ok (.ireturn, 1) := by decide +kernel
theorem dX12_isMeeting_0 : decode cX12_isMeeting 0 = .ok (.iload_n 1, 1) := by decide +kernel
theorem dX12_isMeeting_1 : decode cX12_isMeeting 1 = .ok (.ifCond .lt 15, 3) := by decide +kernel
theorem dX12_isMeeting_4 : decode cX12_isMeeting 4 = .ok (.iload_n 1, 1) := by decide +kernel
theorem dX12_isMeeting_5 : decode cX12_isMeeting 5 = .ok (.aload_n 0, 1) := by decide +kernel
theorem dX12_isMeeting_6 : decode cX12_isMeeting 6 = .ok (.getfield 359, 3) := by decide +kernel
theorem dX12_isMeeting_9 : decode cX12_isMeeting 9 = .ok (.if_icmp .ge 7, 3) := by decide +kernel
theorem dX12_isMeeting_12 : decode cX12_isMeeting 12 = .ok (.iconst 1, 1) := by decide +kernel
theorem dX12_isMeeting_13 : decode cX12_isMeeting 13 = .ok (.goto 4, 3) := by decide +kernel
theorem dX12_isMeeting_16 : decode cX12_isMeeting 16 = .ok (.iconst 0, 1) := by decide +kernel
theorem dX12_isMeeting_17 : decode cX12_isMeeting 17 = .ok (.ireturn, 1) := by decide +kernel
theorem dX12_meeting_0 : decode cX12_meeting 0 = .ok (.aload_n 0, 1) := by decide +kernel
theorem dX12_meeting_1 : decode cX12_meeting 1 = .ok (.iconst 0, 1) := by decide +kernel
theorem dX12_meeting_2 : decode cX12_meeting 2 = .ok (.putfield 1, 3) := by decide +kernel
theorem dX12_meeting_5 : decode cX12_meeting 5 = .ok (.iload_n 2, 1) := by decide +kernel
theorem dX12_meeting_6 : decode cX12_meeting 6 = .ok (.sipush (-9999), 3) := by decide +kernel
theorem dX12_meeting_9 : decode cX12_meeting 9 = .ok (.iconst (-1), 1) := by decide +kernel
theorem dX12_meeting_10 : decode cX12_meeting 10 = .ok (.invokestatic 352, 3) := by decide +kernel
theorem dX12_meeting_13 : decode cX12_meeting 13 = .ok (.ifCond .eq 28, 3) := by decide +kernel
theorem dX12_meeting_16 : decode cX12_meeting 16 = .ok (.iload_n 3, 1) := by decide +kernel
theorem dX12_meeting_17 : decode cX12_meeting 17 = .ok (.iconst 1, 1) := by decide +kernel
theorem dX12_meeting_18 : decode cX12_meeting 18 = .ok (.sipush 300, 3) := by decide +kernel
theorem dX12_meeting_21 : decode cX12_meeting 21 = .ok (.invokestatic 352, 3) := by decide +kernel
theorem dX12_meeting_24 : decode cX12_meeting 24 = .ok (.ifCond .eq 17, 3) := by decide +kernel
theorem dX12_meeting_27 : decode cX12_meeting 27 = .ok (.iload 4, 2) := by decide +kernel
theorem dX12_meeting_29 : decode cX12_meeting 29 = .ok (.iconst 0, 1) := by decide +kernel
theorem dX12_meeting_30 : decode cX12_meeting 30 = .ok (.iconst 5, 1) := by decide +kernel
theorem dX12_meeting_31 : decode cX12_meeting 31 = .ok (.invokestatic 352, 3) := by decide +kernel
theorem dX12_meeting_34 : decode cX12_meeting 34 = .ok (.ifCond .eq 7, 3) := by decide +kernel
theorem dX12_meeting_37 : decode cX12_meeting 37 = .ok (.iconst 1, 1) := by decide +kernel
theorem dX12_meeting_38 : decode cX12_meeting 38 = .ok (.goto 4, 3) := by decide +kernel
theorem dX12_meeting_41 : decode cX12_meeting 41 = .ok (.iconst 0, 1) := by decide +kernel
theorem dX12_meeting_42 : decode cX12_meeting 42 = .ok (.istore 8, 2) := by decide +kernel
theorem dX12_meeting_44 : decode cX12_meeting 44 = .ok (.iload 5, 2) := by decide +kernel
theorem dX12_meeting_46 : decode cX12_meeting 46 = .ok (.sipush (-999), 3) := by decide +kernel
theorem dX12_meeting_49 : decode cX12_meeting 49 = .ok (.iconst (-1), 1) := by decide +kernel
theorem dX12_meeting_50 : decode cX12_meeting 50 = .ok (.invokestatic 352, 3) := by decide +kernel
theorem dX12_meeting_53 : decode cX12_meeting 53 = .ok (.ifCond .eq 28, 3) := by decide +kernel
theorem dX12_meeting_56 : decode cX12_meeting 56 = .ok (.iload 6, 2) := by decide +kernel
theorem dX12_meeting_58 : decode cX12_meeting 58 = .ok (.iconst 1, 1) := by decide +kernel
theorem dX12_meeting_59 : decode cX12_meeting 59 = .ok (.bipush 60, 2) := by decide +kernel
theorem dX12_meeting_61 : decode cX12_meeting 61 = .ok (.invokestatic 352, 3) := by decide +kernel
theorem dX12_meeting_64 : decode cX12_meeting 64 = .ok (.ifCond .eq 17, 3) := by decide +kernel
theorem dX12_meeting_67 : decode cX12_meeting 67 = .ok (.iload 7, 2) := by decide +kernel
theorem dX12_meeting_69 : decode cX12_meeting 69 = .ok (.iconst 0, 1) := by decide +kernel
theorem dX12_meeting_70 : decode cX12_meeting 70 = .ok (.iconst 5, 1) := by decide +kernel
theorem dX12_meeting_71 : decode cX12_meeting 71 = .ok (.invokestatic 352, 3) := by decide +kernel
theorem dX12_meeting_74 : decode cX12_meeting 74 = .ok (.ifCond .eq 7, 3) := by decide +kernel
theorem dX12_meeting_77 : decode cX12_meeting 77 = .ok (.iconst 1, 1) := by decide +kernel
theorem dX12_meeting_78 : decode cX12_meeting 78 = .ok (.goto 4, 3) := by decide +kernel
theorem dX12_meeting_81 : decode cX12_meeting 81 = .ok (.iconst 0, 1) := by decide +kernel
theorem dX12_meeting_82 : decode cX12_meeting 82 = .ok (.istore 9, 2) := by decide +kernel
theorem dX12_meeting_84 : decode cX12_meeting 84 = .ok (.iload_n 1, 1) := by decide +kernel
theorem dX12_meeting_85 : decode cX12_meeting 85 = .ok (.iconst 0, 1) := by decide +kernel
theorem dX12_meeting_86 : decode cX12_meeting 86 = .ok (.aload_n 0, 1) := by decide +kernel
theorem dX12_meeting_87 : decode cX12_meeting 87 = .ok (.getfield 296, 3) := by decide +kernel
theorem dX12_meeting_90 : decode cX12_meeting 90 = .ok (.invokestatic 352, 3) := by decide +kernel
theorem dX12_meeting_93 : decode cX12_meeting 93 = .ok (.ifCond .eq 22, 3) := by decide +kernel
theorem dX12_meeting_96 : decode cX12_meeting 96 = .ok (.iload 8, 2) := by decide +kernel
theorem dX12_meeting_98 : decode cX12_meeting 98 = .ok (.ifCond .eq 17, 3) := by decide +kernel
theorem dX12_meeting_101 : decode cX12_meeting 101 = .ok (.iload 9, 2) := by decide +kernel
theorem dX12_meeting_103 : decode cX12_meeting 103 = .ok (.ifCond .eq 12, 3) := by decide +kernel
theorem dX12_meeting_106 : decode cX12_meeting 106 = .ok (.aload_n 0, 1) := by decide +kernel
theorem dX12_meeting_107 : decode cX12_meeting 107 = .ok (.getfield 359, 3) := by decide +kernel
theorem dX12_meeting_110 : decode cX12_meeting 110 = .ok (.bipush 40, 2) := by decide +kernel
theorem dX12_meeting_112 : decode cX12_meeting 112 = .ok (.if_icmp .ne 5, 3) := by decide +kernel
theorem dX12_meeting_115 : decode cX12_meeting 115 = .ok (.iconst (-1), 1) := by decide +kernel
theorem dX12_meeting_116 : decode cX12_meeting 116 = .ok (.ireturn, 1) := by decide +kernel
theorem dX12_meeting_117 : decode cX12_meeting 117 = .ok (.aload_n 0, 1) := by decide +kernel
theorem dX12_meeting_118 : decode cX12_meeting 118 = .ok (.getfield 115, 3) := by decide +kernel
theorem dX12_meeting_121 : decode cX12_meeting 121 = .ok (.aload_n 0, 1) := by decide +kernel
theorem dX12_meeting_122 : decode cX12_meeting 122 = .ok (.getfield 359, 3) := by decide +kernel
theorem dX12_meeting_125 : decode cX12_meeting 125 = .ok (.iload_n 1, 1) := by decide +kernel
theorem dX12_meeting_126 : decode cX12_meeting 126 = .ok (.iastore, 1) := by decide +kernel
theorem dX12_meeting_127 : decode cX12_meeting 127 = .ok (.aload_n 0, 1) := by decide +kernel
theorem dX12_meeting_128 : decode cX12_meeting 128 = .ok (.getfield 118, 3) := by decide +kernel
theorem dX12_meeting_131 : decode cX12_meeting 131 = .ok (.aload_n 0, 1) := by decide +kernel
theorem dX12_meeting_132 : decode cX12_meeting 132 = .ok (.getfield 359, 3) := by decide +kernel
theorem dX12_meeting_135 : decode cX12_meeting 135 = .ok (.iload_n 2, 1) := by decide +kernel
theorem dX12_meeting_136 : decode cX12_meeting 136 = .ok (.iastore, 1) := by decide +kernel
theorem dX12_meeting_137 : decode cX12_meeting 137 = .ok (.aload_n 0, 1) := by decide +kernel
theorem dX12_meeting_138 : decode cX12_meeting 138 = .ok (.getfield 121, 3) := by decide +kernel
theorem dX12_meeting_141 : decode cX12_meeting 141 = .ok (.aload_n 0, 1) := by decide +kernel
theorem dX12_meeting_142 : decode cX12_meeting 142 = .ok (.getfield 359, 3) := by decide +kernel
theorem dX12_meeting_145 : decode cX12_meeting 145 = .ok (.iload_n 3, 1) := by decide +kernel
theorem dX12_meeting_146 : decode cX12_meeting 146 = .ok (.iastore, 1) := by decide +kernel
theorem dX12_meeting_147 : decode cX12_meeting 147 = .ok (.aload_n 0, 1) := by decide +kernel
theorem dX12_meeting_148 : decode cX12_meeting 148 = .ok (.getfield 124, 3) := by decide +kernel
theorem dX12_meeting_151 : decode cX12_meeting 151 = .ok (.aload_n 0, 1) := by decide +kernel
theorem dX12_meeting_152 : decode cX12_meeting 152 = .ok (.getfield 359, 3) := by decide +kernel
theorem dX12_meeting_155 : decode cX12_meeting 155 = .ok (.iload 4, 2) := by decide +kernel
theorem dX12_meeting_157 : decode cX12_meeting 157 = .ok (.iastore, 1) := by decide +kernel
theorem dX12_meeting_158 : decode cX12_meeting 158 = .ok (.aload_n 0, 1) := by decide +kernel
theorem dX12_meeting_159 : decode cX12_meeting 159 = .ok (.getfield 127, 3) := by decide +kernel
theorem dX12_meeting_162 : decode cX12_meeting 162 = .ok (.aload_n 0, 1) := by decide +kernel
theorem dX12_meeting_163 : decode cX12_meeting 163 = .ok (.getfield 359, 3) := by decide +kernel
theorem dX12_meeting_166 : decode cX12_meeting 166 = .ok (.iload 5, 2) := by decide +kernel
theorem dX12_meeting_168 : decode cX12_meeting 168 = .ok (.iastore, 1) := by decide +kernel
theorem dX12_meeting_169 : decode cX12_meeting 169 = .ok (.aload_n 0, 1) := by decide +kernel
theorem dX12_meeting_170 : decode cX12_meeting 170 = .ok (.getfield 130, 3) := by decide +kernel
theorem dX12_meeting_173 : decode cX12_meeting 173 = .ok (.aload_n 0, 1) := by decide +kernel
theorem dX12_meeting_174 : decode cX12_meeting 174 = .ok (.getfield 359, 3) := by decide +kernel
theorem dX12_meeting_177 : decode cX12_meeting 177 = .ok (.iload 6, 2) := by decide +kernel
theorem dX12_meeting_179 : decode cX12_meeting 179 = .ok (.iastore, 1) := by decide +kernel
theorem dX12_meeting_180 : decode cX12_meeting 180 = .ok (.aload_n 0, 1) := by decide +kernel
theorem dX12_meeting_181 : decode cX12_meeting 181 = .ok (.getfield 133, 3) := by decide +kernel
theorem dX12_meeting_184 : decode cX12_meeting 184 = .ok (.aload_n 0, 1) := by decide +kernel
theorem dX12_meeting_185 : decode cX12_meeting 185 = .ok (.getfield 359, 3) := by decide +kernel
theorem dX12_meeting_188 : decode cX12_meeting 188 = .ok (.iload 7, 2) := by decide +kernel
theorem dX12_meeting_190 : decode cX12_meeting 190 = .ok (.iastore, 1) := by decide +kernel
theorem dX12_meeting_191 : decode cX12_meeting 191 = .ok (.aload_n 0, 1) := by decide +kernel
theorem dX12_meeting_192 : decode cX12_meeting 192 = .ok (.getfield 136, 3) := by decide +kernel
theorem dX12_meeting_195 : decode cX12_meeting 195 = .ok (.aload_n 0, 1) := by decide +kernel
theorem dX12_meeting_196 : decode cX12_meeting 196 = .ok (.getfield 359, 3) := by decide +kernel
theorem dX12_meeting_199 : decode cX12_meeting 199 = .ok (.iconst 0, 1) := by decide +kernel
theorem dX12_meeting_200 : decode cX12_meeting 200 = .ok (.iastore, 1) := by decide +kernel
theorem dX12_meeting_201 : decode cX12_meeting 201 = .ok (.aload_n 0, 1) := by decide +kernel
theorem dX12_meeting_202 : decode cX12_meeting 202 = .ok (.getfield 139, 3) := by decide +kernel
theorem dX12_meeting_205 : decode cX12_meeting 205 = .ok (.aload_n 0, 1) := by decide +kernel
theorem dX12_meeting_206 : decode cX12_meeting 206 = .ok (.getfield 359, 3) := by decide +kernel
theorem dX12_meeting_209 : decode cX12_meeting 209 = .ok (.iconst 0, 1) := by decide +kernel
theorem dX12_meeting_210 : decode cX12_meeting 210 = .ok (.iastore, 1) := by decide +kernel
theorem dX12_meeting_211 : decode cX12_meeting 211 = .ok (.aload_n 0, 1) := by decide +kernel
theorem dX12_meeting_212 : decode cX12_meeting 212 = .ok (.getfield 142, 3) := by decide +kernel
theorem dX12_meeting_215 : decode cX12_meeting 215 = .ok (.aload_n 0, 1) := by decide +kernel
theorem dX12_meeting_216 : decode cX12_meeting 216 = .ok (.getfield 359, 3) := by decide +kernel
theorem dX12_meeting_219 : decode cX12_meeting 219 = .ok (.iconst 0, 1) := by decide +kernel
theorem dX12_meeting_220 : decode cX12_meeting 220 = .ok (.iastore, 1) := by decide +kernel
theorem dX12_meeting_221 : decode cX12_meeting 221 = .ok (.aload_n 0, 1) := by decide +kernel
theorem dX12_meeting_222 : decode cX12_meeting 222 = .ok (.getfield 145, 3) := by decide +kernel
theorem dX12_meeting_225 : decode cX12_meeting 225 = .ok (.aload_n 0, 1) := by decide +kernel
theorem dX12_meeting_226 : decode cX12_meeting 226 = .ok (.getfield 359, 3) := by decide +kernel
theorem dX12_meeting_229 : decode cX12_meeting 229 = .ok (.bipush 50, 2) := by decide +kernel
theorem dX12_meeting_231 : decode cX12_meeting 231 = .ok (.iastore, 1) := by decide +kernel
theorem dX12_meeting_232 : decode cX12_meeting 232 = .ok (.aload_n 0, 1) := by decide +kernel
theorem dX12_meeting_233 : decode cX12_meeting 233 = .ok (.dup, 1) := by decide +kernel
theorem dX12_meeting_234 : decode cX12_meeting 234 = .ok (.getfield 359, 3) := by decide +kernel
theorem dX12_meeting_237 : decode cX12_meeting 237 = .ok (.iconst 1, 1) := by decide +kernel
theorem dX12_meeting_238 : decode cX12_meeting 238 = .ok (.iadd, 1) := by decide +kernel
theorem dX12_meeting_239 : decode cX12_meeting 239 = .ok (.putfield 359, 3) := by decide +kernel
theorem dX12_meeting_242 : decode cX12_meeting 242 = .ok (.aload_n 0, 1) := by decide +kernel
theorem dX12_meeting_243 : decode cX12_meeting 243 = .ok (.getfield 359, 3) := by decide +kernel
theorem dX12_meeting_246 : decode cX12_meeting 246 = .ok (.iconst 1, 1) := by decide +kernel
theorem dX12_meeting_247 : decode cX12_meeting 247 = .ok (.isub, 1) := by decide +kernel
theorem dX12_meeting_248 : decode cX12_meeting 248 = .ok (.ireturn, 1) := by decide +kernel
theorem dX12_stand_0 : decode cX12_stand 0 = .ok (.aload_n 0, 1) := by decide +kernel
theorem dX12_stand_1 : decode cX12_stand 1 = .ok (.iconst 0, 1) := by decide +kernel
theorem dX12_stand_2 : decode cX12_stand 2 = .ok (.putfield 1, 3) := by decide +kernel
theorem dX12_stand_5 : decode cX12_stand 5 = .ok (.iload_n 2, 1) := by decide +kernel
theorem dX12_stand_6 : decode cX12_stand 6 = .ok (.ifCond .eq 25, 3) := by decide +kernel
theorem dX12_stand_9 : decode cX12_stand 9 = .ok (.iload_n 2, 1) := by decide +kernel
theorem dX12_stand_10 : decode cX12_stand 10 = .ok (.sipush (-9999), 3) := by decide +kernel
theorem dX12_stand_13 : decode cX12_stand 13 = .ok (.iconst (-1), 1) := by decide +kernel
theorem dX12_stand_14 : decode cX12_stand 14 = .ok (.invokestatic 352, 3) := by decide +kernel
theorem dX12_stand_17 : decode cX12_stand 17 = .ok (.ifCond .eq 18, 3) := by decide +kernel
theorem dX12_stand_20 : decode cX12_stand 20 = .ok (.iload_n 3, 1) := by decide +kernel
theorem dX12_stand_21 : decode cX12_stand 21 = .ok (.sipush (-999), 3) := by decide +kernel
theorem dX12_stand_24 : decode cX12_stand 24 = .ok (.iconst (-1), 1) := by decide +kernel
theorem dX12_stand_25 : decode cX12_stand 25 = .ok (.invokestatic 352, 3) := by decide +kernel
theorem dX12_stand_28 : decode cX12_stand 28 = .ok (.ifCond .eq 7, 3) := by decide +kernel
theorem dX12_stand_31 : decode cX12_stand 31 = .ok (.iconst 1, 1) := by decide +kernel
theorem dX12_stand_32 : decode cX12_stand 32 = .ok (.goto 4, 3) := by decide +kernel
theorem dX12_stand_35 : decode cX12_stand 35 = .ok (.iconst 0, 1) := by decide +kernel
theorem dX12_stand_36 : decode cX12_stand 36 = .ok (.istore 6, 2) := by decide +kernel
theorem dX12_stand_38 : decode cX12_stand 38 = .ok (.aload_n 0, 1) := by decide +kernel
theorem dX12_stand_39 : decode cX12_stand 39 = .ok (.iload_n 1, 1) := by decide +kernel
theorem dX12_stand_40 : decode cX12_stand 40 = .ok (.invokevirtual 362, 3) := by decide +kernel
theorem dX12_stand_43 : decode cX12_stand 43 = .ok (.ifCond .eq 29, 3) := by decide +kernel
theorem dX12_stand_46 : decode cX12_stand 46 = .ok (.iload 6, 2) := by decide +kernel
theorem dX12_stand_48 : decode cX12_stand 48 = .ok (.ifCond .eq 24, 3) := by decide +kernel
theorem dX12_stand_51 : decode cX12_stand 51 = .ok (.iload 4, 2) := by decide +kernel
theorem dX12_stand_53 : decode cX12_stand 53 = .ok (.iconst 0, 1) := by decide +kernel
theorem dX12_stand_54 : decode cX12_stand 54 = .ok (.iconst 2, 1) := by decide +kernel
theorem dX12_stand_55 : decode cX12_stand 55 = .ok (.invokestatic 352, 3) := by decide +kernel
theorem dX12_stand_58 : decode cX12_stand 58 = .ok (.ifCond .eq 14, 3) := by decide +kernel
theorem dX12_stand_61 : decode cX12_stand 61 = .ok (.iload 5, 2) := by decide +kernel
theorem dX12_stand_63 : decode cX12_stand 63 = .ok (.iconst 0, 1) := by decide +kernel
theorem dX12_stand_64 : decode cX12_stand 64 = .ok (.bipush 99, 2) := by decide +kernel
theorem dX12_stand_66 : decode cX12_stand 66 = .ok (.invokestatic 352, 3) := by decide +kernel
theorem dX12_stand_69 : decode cX12_stand 69 = .ok (.ifCond .ne 5, 3) := by decide +kernel
theorem dX12_stand_72 : decode cX12_stand 72 = .ok (.iconst 0, 1) := by decide +kernel
theorem dX12_stand_73 : decode cX12_stand 73 = .ok (.ireturn, 1) := by decide +kernel
theorem dX12_stand_74 : decode cX12_stand 74 = .ok (.aload_n 0, 1) := by decide +kernel
theorem dX12_stand_75 : decode cX12_stand 75 = .ok (.getfield 136, 3) := by decide +kernel
theorem dX12_stand_78 : decode cX12_stand 78 = .ok (.iload_n 1, 1) := by decide +kernel
