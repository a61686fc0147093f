theorem dX8_init_0 : decode cX8_init 0 = .ok (.aload_n 0, 1) := by decide +kernel
theorem dX8_init_1 : decode cX8_init 1 = .ok (.invokespecial 3, 3) := by decide +kernel
theorem dX8_init_4 : decode cX8_init 4 = .ok (.return_, 1) := by decide +kernel
theorem dX8_sees_0 : decode cX8_sees 0 = .ok (.aload_n 1, 1) := by decide +kernel
theorem dX8_sees_1 : decode cX8_sees 1 = .ok (.getfield 103, 3) := by decide +kernel
theorem dX8_sees_4 : decode cX8_sees 4 = .ok (.ifCond .eq 60, 3) := by decide +kernel
theorem dX8_sees_7 : decode cX8_sees 7 = .ok (.aload_n 0, 1) := by decide +kernel
theorem dX8_sees_8 : decode cX8_sees 8 = .ok (.getfield 49, 3) := by decide +kernel
theorem dX8_sees_11 : decode cX8_sees 11 = .ok (.aload_n 1, 1) := by decide +kernel
theorem dX8_sees_12 : decode cX8_sees 12 = .ok (.getfield 103, 3) := by decide +kernel
theorem dX8_sees_15 : decode cX8_sees 15 = .ok (.if_icmp .ge 49, 3) := by decide +kernel
theorem dX8_sees_18 : decode cX8_sees 18 = .ok (.aload_n 0, 1) := by decide +kernel
theorem dX8_sees_19 : decode cX8_sees 19 = .ok (.getfield 53, 3) := by decide +kernel
theorem dX8_sees_22 : decode cX8_sees 22 = .ok (.aload_n 1, 1) := by decide +kernel
theorem dX8_sees_23 : decode cX8_sees 23 = .ok (.getfield 106, 3) := by decide +kernel
theorem dX8_sees_26 : decode cX8_sees 26 = .ok (.if_icmp .ge 38, 3) := by decide +kernel
theorem dX8_sees_29 : decode cX8_sees 29 = .ok (.aload_n 1, 1) := by decide +kernel
theorem dX8_sees_30 : decode cX8_sees 30 = .ok (.getfield 103, 3) := by decide +kernel
theorem dX8_sees_33 : decode cX8_sees 33 = .ok (.aload_n 0, 1) := by decide +kernel
theorem dX8_sees_34 : decode cX8_sees 34 = .ok (.getfield 53, 3) := by decide +kernel
theorem dX8_sees_37 : decode cX8_sees 37 = .ok (.imul, 1) := by decide +kernel
theorem dX8_sees_38 : decode cX8_sees 38 = .ok (.aload_n 1, 1) := by decide +kernel
theorem dX8_sees_39 : decode cX8_sees 39 = .ok (.getfield 106, 3) := by decide +kernel
theorem dX8_sees_42 : decode cX8_sees 42 = .ok (.aload_n 0, 1) := by decide +kernel
theorem dX8_sees_43 : decode cX8_sees 43 = .ok (.getfield 49, 3) := by decide +kernel
theorem dX8_sees_46 : decode cX8_sees 46 = .ok (.imul, 1) := by decide +kernel
theorem dX8_sees_47 : decode cX8_sees 47 = .ok (.iadd, 1) := by decide +kernel
theorem dX8_sees_48 : decode cX8_sees 48 = .ok (.aload_n 0, 1) := by decide +kernel
theorem dX8_sees_49 : decode cX8_sees 49 = .ok (.getfield 49, 3) := by decide +kernel
theorem dX8_sees_52 : decode cX8_sees 52 = .ok (.aload_n 0, 1) := by decide +kernel
theorem dX8_sees_53 : decode cX8_sees 53 = .ok (.getfield 53, 3) := by decide +kernel
theorem dX8_sees_56 : decode cX8_sees 56 = .ok (.imul, 1) := by decide +kernel
theorem dX8_sees_57 : decode cX8_sees 57 = .ok (.if_icmp .gt 7, 3) := by decide +kernel
theorem dX8_sees_60 : decode cX8_sees 60 = .ok (.iconst 1, 1) := by decide +kernel
theorem dX8_sees_61 : decode cX8_sees 61 = .ok (.goto 4, 3) := by decide +kernel
theorem dX8_sees_64 : decode cX8_sees 64 = .ok (.iconst 0, 1) := by decide +kernel
theorem dX8_sees_65 : decode cX8_sees 65 = .ok (.istore_n 2, 1) := by decide +kernel
theorem dX8_sees_66 : decode cX8_sees 66 = .ok (.aload_n 0, 1) := by decide +kernel
theorem dX8_sees_67 : decode cX8_sees 67 = .ok (.getfield 49, 3) := by decide +kernel
theorem dX8_sees_70 : decode cX8_sees 70 = .ok (.ifCond .ge 18, 3) := by decide +kernel
theorem dX8_sees_73 : decode cX8_sees 73 = .ok (.aload_n 0, 1) := by decide +kernel
theorem dX8_sees_74 : decode cX8_sees 74 = .ok (.getfield 53, 3) := by decide +kernel
theorem dX8_sees_77 : decode cX8_sees 77 = .ok (.ifCond .ge 11, 3) := by decide +kernel
theorem dX8_sees_80 : decode cX8_sees 80 = .ok (.iload_n 2, 1) := by decide +kernel
theorem dX8_sees_81 : decode cX8_sees 81 = .ok (.ifCond .ne 7, 3) := by decide +kernel
theorem dX8_sees_84 : decode cX8_sees 84 = .ok (.iconst 1, 1) := by decide +kernel
theorem dX8_sees_85 : decode cX8_sees 85 = .ok (.goto 4, 3) := by decide +kernel
theorem dX8_sees_88 : decode cX8_sees 88 = .ok (.iconst 0, 1) := by decide +kernel
theorem dX8_sees_89 : decode cX8_sees 89 = .ok (.ireturn, 1) := by decide +kernel
theorem dX8_notice_0 : decode cX8_notice 0 = .ok (.iload_n 1, 1) := by decide +kernel
theorem dX8_notice_1 : decode cX8_notice 1 = .ok (.ifCond .eq 19, 3) := by decide +kernel
theorem dX8_notice_4 : decode cX8_notice 4 = .ok (.aload_n 0, 1) := by decide +kernel
theorem dX8_notice_5 : decode cX8_notice 5 = .ok (.getfield 25, 3) := by decide +kernel
theorem dX8_notice_8 : decode cX8_notice 8 = .ok (.iconst (-1), 1) := by decide +kernel
theorem dX8_notice_9 : decode cX8_notice 9 = .ok (.if_icmp .ne 11, 3) := by decide +kernel
theorem dX8_notice_12 : decode cX8_notice 12 = .ok (.aload_n 0, 1) := by decide +kernel
theorem dX8_notice_13 : decode cX8_notice 13 = .ok (.aload_n 0, 1) := by decide +kernel
theorem dX8_notice_14 : decode cX8_notice 14 = .ok (.getfield 54, 3) := by decide +kernel
theorem dX8_notice_17 : decode cX8_notice 17 = .ok (.putfield 25, 3) := by decide +kernel
theorem dX8_notice_20 : decode cX8_notice 20 = .ok (.return_, 1) := by decide +kernel
theorem dX11_up_0 : decode cX11_up 0 = .ok (.iload_n 1, 1) := by decide +kernel
theorem dX11_up_1 : decode cX11_up 1 = .ok (.ifCond .gt 7, 3) := by decide +kernel
theorem dX11_up_4 : decode cX11_up 4 = .ok (.iconst 0, 1) := by decide +kernel
theorem dX11_up_5 : decode cX11_up 5 = .ok (.goto 10, 3) := by decide +kernel
theorem dX11_up_8 : decode cX11_up 8 = .ok (.iload_n 0, 1) := by decide +kernel
theorem dX11_up_9 : decode cX11_up 9 = .ok (.iload_n 1, 1) := by decide +kernel
theorem dX11_up_10 : decode cX11_up 10 = .ok (.iadd, 1) := by decide +kernel
theorem dX11_up_11 : decode cX11_up 11 = .ok (.iconst 1, 1) := by decide +kernel
theorem dX11_up_12 : decode cX11_up 12 = .ok (.isub, 1) := by decide +kernel
theorem dX11_up_13 : decode cX11_up 13 = .ok (.iload_n 1, 1) := by decide +kernel
theorem dX11_up_14 : decode cX11_up 14 = .ok (.idiv, 1) := by decide +kernel
theorem dX11_up_15 : decode cX11_up 15 = .ok (.ireturn, 1) := by decide +kernel
theorem dX8_brake_0 : decode cX8_brake 0 = .ok (.iload_n 1, 1) := by decide +kernel
theorem dX8_brake_1 : decode cX8_brake 1 = .ok (.ifCond .lt 29, 3) := by decide +kernel
theorem dX8_brake_4 : decode cX8_brake 4 = .ok (.iload_n 1, 1) := by decide +kernel
theorem dX8_brake_5 : decode cX8_brake 5 = .ok (.getstatic 94, 3) := by decide +kernel
theorem dX8_brake_8 : decode cX8_brake 8 = .ok (.arraylength, 1) := by decide +kernel
theorem dX8_brake_9 : decode cX8_brake 9 = .ok (.if_icmp .ge 21, 3) := by decide +kernel
theorem dX8_brake_12 : decode cX8_brake 12 = .ok (.aload_n 0, 1) := by decide +kernel
theorem dX8_brake_13 : decode cX8_brake 13 = .ok (.iconst 0, 1) := by decide +kernel
theorem dX8_brake_14 : decode cX8_brake 14 = .ok (.aload_n 0, 1) := by decide +kernel
theorem dX8_brake_15 : decode cX8_brake 15 = .ok (.getfield 33, 3) := by decide +kernel
theorem dX8_brake_18 : decode cX8_brake 18 = .ok (.getstatic 94, 3) := by decide +kernel
theorem dX8_brake_21 : decode cX8_brake 21 = .ok (.iload_n 1, 1) := by decide +kernel
theorem dX8_brake_22 : decode cX8_brake 22 = .ok (.iaload, 1) := by decide +kernel
theorem dX8_brake_23 : decode cX8_brake 23 = .ok (.isub, 1) := by decide +kernel
theorem dX8_brake_24 : decode cX8_brake 24 = .ok (.invokestatic 98, 3) := by decide +kernel
theorem dX8_brake_27 : decode cX8_brake 27 = .ok (.putfield 33, 3) := by decide +kernel
theorem dX8_brake_30 : decode cX8_brake 30 = .ok (.return_, 1) := by decide +kernel
theorem dX11_within_0 : decode cX11_within 0 = .ok (.iload_n 0, 1) := by decide +kernel
theorem dX11_within_1 : decode cX11_within 1 = .ok (.iload_n 1, 1) := by decide +kernel
theorem dX11_within_2 : decode cX11_within 2 = .ok (.if_icmp .lt 12, 3) := by decide +kernel
theorem dX11_within_5 : decode cX11_within 5 = .ok (.iload_n 0, 1) := by decide +kernel
theorem dX11_within_6 : decode cX11_within 6 = .ok (.iload_n 2, 1) := by decide +kernel
theorem dX11_within_7 : decode cX11_within 7 = .ok (.if_icmp .gt 7, 3) := by decide +kernel
theorem dX11_within_10 : decode cX11_within 10 = .ok (.iconst 1, 1) := by decide +kernel
theorem dX11_within_11 : decode cX11_within 11 = .ok (.goto 4, 3) := by decide +kernel
theorem dX11_within_14 : decode cX11_within 14 = .ok (.iconst 0, 1) := by decide +kernel
theorem dX11_within_15 : decode cX11_within 15 = .ok (.ireturn, 1) := by decide +kernel
theorem dX8_goOn_0 : decode cX8_goOn 0 = .ok (.aload_n 0, 1) := by decide +kernel
theorem dX8_goOn_1 : decode cX8_goOn 1 = .ok (.aload_n 1, 1) := by decide +kernel
theorem dX8_goOn_2 : decode cX8_goOn 2 = .ok (.invokevirtual 61, 3) := by decide +kernel
theorem dX8_goOn_5 : decode cX8_goOn 5 = .ok (.istore_n 2, 1) := by decide +kernel
theorem dX8_goOn_6 : decode cX8_goOn 6 = .ok (.aload_n 0, 1) := by decide +kernel
theorem dX8_goOn_7 : decode cX8_goOn 7 = .ok (.iload_n 2, 1) := by decide +kernel
theorem dX8_goOn_8 : decode cX8_goOn 8 = .ok (.invokevirtual 65, 3) := by decide +kernel
theorem dX8_goOn_11 : decode cX8_goOn 11 = .ok (.aload_n 1, 1) := by decide +kernel
theorem dX8_goOn_12 : decode cX8_goOn 12 = .ok (.getfield 69, 3) := by decide +kernel
theorem dX8_goOn_15 : decode cX8_goOn 15 = .ok (.ifCond .eq 45, 3) := by decide +kernel
theorem dX8_goOn_18 : decode cX8_goOn 18 = .ok (.iload_n 2, 1) := by decide +kernel
theorem dX8_goOn_19 : decode cX8_goOn 19 = .ok (.ifCond .eq 41, 3) := by decide +kernel
theorem dX8_goOn_22 : decode cX8_goOn 22 = .ok (.aload_n 0, 1) := by decide +kernel
theorem dX8_goOn_23 : decode cX8_goOn 23 = .ok (.getfield 33, 3) := by decide +kernel
theorem dX8_goOn_26 : decode cX8_goOn 26 = .ok (.ifCond .le 34, 3) := by decide +kernel
theorem dX8_goOn_29 : decode cX8_goOn 29 = .ok (.aload_n 0, 1) := by decide +kernel
theorem dX8_goOn_30 : decode cX8_goOn 30 = .ok (.getfield 49, 3) := by decide +kernel
theorem dX8_goOn_33 : decode cX8_goOn 33 = .ok (.ineg, 1) := by decide +kernel
theorem dX8_goOn_34 : decode cX8_goOn 34 = .ok (.aload_n 0, 1) := by decide +kernel
theorem dX8_goOn_35 : decode cX8_goOn 35 = .ok (.getfield 33, 3) := by decide +kernel
theorem dX8_goOn_38 : decode cX8_goOn 38 = .ok (.invokestatic 73, 3) := by decide +kernel
theorem dX8_goOn_41 : decode cX8_goOn 41 = .ok (.aload_n 0, 1) := by decide +kernel
theorem dX8_goOn_42 : decode cX8_goOn 42 = .ok (.getfield 53, 3) := by decide +kernel
theorem dX8_goOn_45 : decode cX8_goOn 45 = .ok (.ineg, 1) := by decide +kernel
theorem dX8_goOn_46 : decode cX8_goOn 46 = .ok (.aload_n 1, 1) := by decide +kernel
theorem dX8_goOn_47 : decode cX8_goOn 47 = .ok (.getfield 77, 3) := by decide +kernel
theorem dX8_goOn_50 : decode cX8_goOn 50 = .ok (.invokestatic 73, 3) := by decide +kernel
theorem dX8_goOn_53 : decode cX8_goOn 53 = .ok (.if_icmp .gt 7, 3) := by decide +kernel
theorem dX8_goOn_56 : decode cX8_goOn 56 = .ok (.iconst 1, 1) := by decide +kernel
theorem dX8_goOn_57 : decode cX8_goOn 57 = .ok (.goto 4, 3) := by decide +kernel
theorem dX8_goOn_60 : decode cX8_goOn 60 = .ok (.iconst 0, 1) := by decide +kernel
theorem dX8_goOn_61 : decode cX8_goOn 61 = .ok (.istore_n 3, 1) := by decide +kernel
theorem dX8_goOn_62 : decode cX8_goOn 62 = .ok (.aload_n 0, 1) := by decide +kernel
theorem dX8_goOn_63 : decode cX8_goOn 63 = .ok (.getfield 25, 3) := by decide +kernel
theorem dX8_goOn_66 : decode cX8_goOn 66 = .ok (.iconst (-1), 1) := by decide +kernel
theorem dX8_goOn_67 : decode cX8_goOn 67 = .ok (.if_icmp .eq 27, 3) := by decide +kernel
theorem dX8_goOn_70 : decode cX8_goOn 70 = .ok (.aload_n 0, 1) := by decide +kernel
theorem dX8_goOn_71 : decode cX8_goOn 71 = .ok (.getfield 54, 3) := by decide +kernel
theorem dX8_goOn_74 : decode cX8_goOn 74 = .ok (.aload_n 0, 1) := by decide +kernel
theorem dX8_goOn_75 : decode cX8_goOn 75 = .ok (.getfield 25, 3) := by decide +kernel
theorem dX8_goOn_78 : decode cX8_goOn 78 = .ok (.aload_n 1, 1) := by decide +kernel
theorem dX8_goOn_79 : decode cX8_goOn 79 = .ok (.getfield 80, 3) := by decide +kernel
theorem dX8_goOn_82 : decode cX8_goOn 82 = .ok (.iadd, 1) := by decide +kernel
theorem dX8_goOn_83 : decode cX8_goOn 83 = .ok (.if_icmp .lt 11, 3) := by decide +kernel
theorem dX8_goOn_86 : decode cX8_goOn 86 = .ok (.aload_n 0, 1) := by decide +kernel
theorem dX8_goOn_87 : decode cX8_goOn 87 = .ok (.aload_n 1, 1) := by decide +kernel
theorem dX8_goOn_88 : decode cX8_goOn 88 = .ok (.getfield 83, 3) := by decide +kernel
theorem dX8_goOn_91 : decode cX8_goOn 91 = .ok (.invokevirtual 86, 3) := by decide +kernel
theorem dX8_goOn_94 : decode cX8_goOn 94 = .ok (.aload_n 0, 1) := by decide +kernel
theorem dX8_goOn_95 : decode cX8_goOn 95 = .ok (.getfield 33, 3) := by decide +kernel
theorem dX8_goOn_98 : decode cX8_goOn 98 = .ok (.ifCond .ne 19, 3) := by decide +kernel
theorem dX8_goOn_101 : decode cX8_goOn 101 = .ok (.aload_n 0, 1) := by decide +kernel
theorem dX8_goOn_102 : decode cX8_goOn 102 = .ok (.getfield 29, 3) := by decide +kernel
theorem dX8_goOn_105 : decode cX8_goOn 105 = .ok (.iconst (-1), 1) := by decide +kernel
theorem dX8_goOn_106 : decode cX8_goOn 106 = .ok (.if_icmp .ne 11, 3) := by decide +kernel
theorem dX8_goOn_109 : decode cX8_goOn 109 = .ok (.aload_n 0, 1) := by decide +kernel
theorem dX8_goOn_110 : decode cX8_goOn 110 = .ok (.aload_n 0, 1) := by decide +kernel
theorem dX8_goOn_111 : decode cX8_goOn 111 = .ok (.getfield 54, 3) := by decide +kernel
theorem dX8_goOn_114 : decode cX8_goOn 114 = .ok (.putfield 29, 3) := by decide +kernel
theorem dX8_goOn_117 : decode cX8_goOn 117 = .ok (.aload_n 0, 1) := by decide +kernel
theorem dX8_goOn_118 : decode cX8_goOn 118 = .ok (.dup, 1) := by decide +kernel
theorem dX8_goOn_119 : decode cX8_goOn 119 = .ok (.getfield 49, 3) := by decide +kernel
theorem dX8_goOn_122 : decode cX8_goOn 122 = .ok (.aload_n 0, 1) := by decide +kernel
theorem dX8_goOn_123 : decode cX8_goOn 123 = .ok (.getfield 33, 3) := by decide +kernel
theorem dX8_goOn_126 : decode cX8_goOn 126 = .ok (.iadd, 1) := by decide +kernel
theorem dX8_goOn_127 : decode cX8_goOn 127 = .ok (.putfield 49, 3) := by decide +kernel
theorem dX8_goOn_130 : decode cX8_goOn 130 = .ok (.iload_n 3, 1) := by decide +kernel
theorem dX8_goOn_131 : decode cX8_goOn 131 = .ok (.ifCond .ne 16, 3) := by decide +kernel
theorem dX8_goOn_134 : decode cX8_goOn 134 = .ok (.aload_n 0, 1) := by decide +kernel
theorem dX8_goOn_135 : decode cX8_goOn 135 = .ok (.dup, 1) := by decide +kernel
theorem dX8_goOn_136 : decode cX8_goOn 136 = .ok (.getfield 53, 3) := by decide +kernel
theorem dX8_goOn_139 : decode cX8_goOn 139 = .ok (.aload_n 1, 1) := by decide +kernel
theorem dX8_goOn_140 : decode cX8_goOn 140 = .ok (.getfield 77, 3) := by decide +kernel
theorem dX8_goOn_143 : decode cX8_goOn 143 = .ok (.iadd, 1) := by decide +kernel
theorem dX8_goOn_144 : decode cX8_goOn 144 = .ok (.putfield 53, 3) := by decide +kernel
theorem dX8_goOn_147 : decode cX8_goOn 147 = .ok (.aload_n 0, 1) := by decide +kernel
theorem dX8_goOn_148 : decode cX8_goOn 148 = .ok (.dup, 1) := by decide +kernel
theorem dX8_goOn_149 : decode cX8_goOn 149 = .ok (.getfield 54, 3) := by decide +kernel
theorem dX8_goOn_152 : decode cX8_goOn 152 = .ok (.iconst 1, 1) := by decide +kernel
theorem dX8_goOn_153 : decode cX8_goOn 153 = .ok (.iadd, 1) := by decide +kernel
theorem dX8_goOn_154 : decode cX8_goOn 154 = .ok (.putfield 54, 3) := by decide +kernel
theorem dX8_goOn_157 : decode cX8_goOn 157 = .ok (.aload_n 0, 1) := by decide +kernel
theorem dX8_goOn_158 : decode cX8_goOn 158 = .ok (.getfield 33, 3) := by decide +kernel
theorem dX8_goOn_161 : decode cX8_goOn 161 = .ok (.ifCond .le 38, 3) := by decide +kernel
theorem dX8_goOn_164 : decode cX8_goOn 164 = .ok (.aload_n 0, 1) := by decide +kernel
theorem dX8_goOn_165 : decode cX8_goOn 165 = .ok (.getfield 49, 3) := by decide +kernel
theorem dX8_goOn_168 : decode cX8_goOn 168 = .ok (.iconst 0, 1) := by decide +kernel
theorem dX8_goOn_169 : decode cX8_goOn 169 = .ok (.bipush 40, 2) := by decide +kernel
theorem dX8_goOn_171 : decode cX8_goOn 171 = .ok (.invokestatic 90, 3) := by decide +kernel
theorem dX8_goOn_174 : decode cX8_goOn 174 = .ok (.ifCond .eq 25, 3) := by decide +kernel
theorem dX8_goOn_177 : decode cX8_goOn 177 = .ok (.aload_n 0, 1) := by decide +kernel
theorem dX8_goOn_178 : decode cX8_goOn 178 = .ok (.getfield 53, 3) := by decide +kernel
theorem dX8_goOn_181 : decode cX8_goOn 181 = .ok (.bipush (-8), 2) := by decide +kernel
theorem dX8_goOn_183 : decode cX8_goOn 183 = .ok (.bipush 8, 2) := by decide +kernel
theorem dX8_goOn_185 : decode cX8_goOn 185 = .ok (.invokestatic 90, 3) := by decide +kernel
theorem dX8_goOn_188 : decode cX8_goOn 188 = .ok (.ifCond .eq 11, 3) := by decide +kernel
theorem dX8_goOn_191 : decode cX8_goOn 191 = .ok (.aload_n 0, 1) := by decide +kernel
theorem dX8_goOn_192 : decode cX8_goOn 192 = .ok (.aload_n 0, 1) := by decide +kernel
theorem dX8_goOn_193 : decode cX8_goOn 193 = .ok (.getfield 54, 3) := by decide +kernel
theorem dX8_goOn_196 : decode cX8_goOn 196 = .ok (.putfield 21, 3) := by decide +kernel
theorem dX8_goOn_199 : decode cX8_goOn 199 = .ok (.return_, 1) := by decide +kernel
theorem dX8_go_0 : decode cX8_go 0 = .ok (.aload_n 0, 1) := by decide +kernel
theorem dX8_go_1 : decode cX8_go 1 = .ok (.aload_n 1, 1) := by decide +kernel
theorem dX8_go_2 : decode cX8_go 2 = .ok (.getfield 46, 3) := by decide +kernel
theorem dX8_go_5 : decode cX8_go 5 = .ok (.putfield 49, 3) := by decide +kernel
theorem dX8_go_8 : decode cX8_go 8 = .ok (.aload_n 0, 1) := by decide +kernel
theorem dX8_go_9 : decode cX8_go 9 = .ok (.aload_n 1, 1) := by decide +kernel
theorem dX8_go_10 : decode cX8_go 10 = .ok (.getfield 50, 3) := by decide +kernel
theorem dX8_go_13 : decode cX8_go 13 = .ok (.putfield 53, 3) := by decide +kernel
theorem dX8_go_16 : decode cX8_go 16 = .ok (.aload_n 0, 1) := by decide +kernel
theorem dX8_go_17 : decode cX8_go 17 = .ok (.iload_n 2, 1) := by decide +kernel
theorem dX8_go_18 : decode cX8_go 18 = .ok (.putfield 33, 3) := by decide +kernel
theorem dX8_go_21 : decode cX8_go 21 = .ok (.aload_n 0, 1) := by decide +kernel
theorem dX8_go_22 : decode cX8_go 22 = .ok (.iconst 0, 1) := by decide +kernel
theorem dX8_go_23 : decode cX8_go 23 = .ok (.putfield 54, 3) := by decide +kernel
theorem dX8_go_26 : decode cX8_go 26 = .ok (.aload_n 0, 1) := by decide +kernel
theorem dX8_go_27 : decode cX8_go 27 = .ok (.iconst (-1), 1) := by decide +kernel
theorem dX8_go_28 : decode cX8_go 28 = .ok (.putfield 25, 3) := by decide +kernel
theorem dX8_go_31 : decode cX8_go 31 = .ok (.aload_n 0, 1) := by decide +kernel
theorem dX8_go_32 : decode cX8_go 32 = .ok (.iconst (-1), 1) := by decide +kernel
theorem dX8_go_33 : decode cX8_go 33 = .ok (.putfield 29, 3) := by decide +kernel
theorem dX8_go_36 : decode cX8_go 36 = .ok (.aload_n 0, 1) := by decide +kernel
theorem dX8_go_37 : decode cX8_go 37 = .ok (.iconst (-1), 1) := by decide +kernel
theorem dX8_go_38 : decode cX8_go 38 = .ok (.putfield 21, 3) := by decide +kernel
theorem dX8_go_41 : decode cX8_go 41 = .ok (.iconst 0, 1) := by decide +kernel
theorem dX8_go_42 : decode cX8_go 42 = .ok (.istore 4, 2) := by decide +kernel
theorem dX8_go_44 : decode cX8_go 44 = .ok (.iload 4, 2) := by decide +kernel
theorem dX8_go_46 : decode cX8_go 46 = .ok (.iload_n 3, 1) := by decide +kernel
theorem dX8_go_47 : decode cX8_go 47 = .ok (.if_icmp .ge 22, 3) := by decide +kernel
theorem dX8_go_50 : decode cX8_go 50 = .ok (.aload_n 0, 1) := by decide +kernel
theorem dX8_go_51 : decode cX8_go 51 = .ok (.getfield 21, 3) := by decide +kernel
theorem dX8_go_54 : decode cX8_go 54 = .ok (.iconst (-1), 1) := by decide +kernel
theorem dX8_go_55 : decode cX8_go 55 = .ok (.if_icmp .ne 14, 3) := by decide +kernel
theorem dX8_go_58 : decode cX8_go 58 = .ok (.aload_n 0, 1) := by decide +kernel
theorem dX8_go_59 : decode cX8_go 59 = .ok (.aload_n 1, 1) := by decide +kernel
theorem dX8_go_60 : decode cX8_go 60 = .ok (.invokevirtual 57, 3) := by decide +kernel
theorem dX8_go_63 : decode cX8_go 63 = .ok (.iinc 4 1, 3) := by decide +kernel
theorem dX8_go_66 : decode cX8_go 66 = .ok (.goto (-22), 3) := by decide +kernel
theorem dX8_go_69 : decode cX8_go 69 = .ok (.aload_n 0, 1) := by decide +kernel
theorem dX8_go_70 : decode cX8_go 70 = .ok (.aload_n 0, 1) := by decide +kernel
theorem dX8_go_71 : decode cX8_go 71 = .ok (.aload_n 1, 1) := by decide +kernel
theorem dX8_go_72 : decode cX8_go 72 = .ok (.invokevirtual 61, 3) := by decide +kernel
theorem dX8_go_75 : decode cX8_go 75 = .ok (.invokevirtual 65, 3) := by decide +kernel
theorem dX8_go_78 : decode cX8_go 78 = .ok (.return_, 1) := by decide +kernel
theorem dX8_settle_0 : decode cX8_settle 0 = .ok (.aload_n 0, 1) := by decide +kernel
theorem dX8_settle_1 : decode cX8_settle 1 = .ok (.aload_n 1, 1) := by decide +kernel
theorem dX8_settle_2 : decode cX8_settle 2 = .ok (.aload_n 1, 1) := by decide +kernel
theorem dX8_settle_3 : decode cX8_settle 3 = .ok (.getfield 9, 3) := by decide +kernel
theorem dX8_settle_6 : decode cX8_settle 6 = .ok (.bipush 60, 2) := by decide +kernel
theorem dX8_settle_8 : decode cX8_settle 8 = .ok (.invokevirtual 17, 3) := by decide +kernel
theorem dX8_settle_11 : decode cX8_settle 11 = .ok (.aload_n 1, 1) := by decide +kernel
theorem dX8_settle_12 : decode cX8_settle 12 = .ok (.aload_n 0, 1) := by decide +kernel
theorem dX8_settle_13 : decode cX8_settle 13 = .ok (.getfield 21, 3) := by decide +kernel
theorem dX8_settle_16 : decode cX8_settle 16 = .ok (.putfield 24, 3) := by decide +kernel
theorem dX8_settle_19 : decode cX8_settle 19 = .ok (.aload_n 1, 1) := by decide +kernel
theorem dX8_settle_20 : decode cX8_settle 20 = .ok (.aload_n 0, 1) := by decide +kernel
theorem dX8_settle_21 : decode cX8_settle 21 = .ok (.getfield 25, 3) := by decide +kernel
theorem dX8_settle_24 : decode cX8_settle 24 = .ok (.putfield 28, 3) := by decide +kernel
theorem dX8_settle_27 : decode cX8_settle 27 = .ok (.aload_n 1, 1) := by decide +kernel
theorem dX8_settle_28 : decode cX8_settle 28 = .ok (.aload_n 0, 1) := by decide +kernel
theorem dX8_settle_29 : decode cX8_settle 29 = .ok (.getfield 29, 3) := by decide +kernel
theorem dX8_settle_32 : decode cX8_settle 32 = .ok (.putfield 32, 3) := by decide +kernel
theorem dX8_settle_35 : decode cX8_settle 35 = .ok (.aload_n 1, 1) := by decide +kernel
theorem dX8_settle_36 : decode cX8_settle 36 = .ok (.aload_n 0, 1) := by decide +kernel
theorem dX8_settle_37 : decode cX8_settle 37 = .ok (.getfield 21, 3) := by decide +kernel
theorem dX8_settle_40 : decode cX8_settle 40 = .ok (.iconst (-1), 1) := by decide +kernel
theorem dX8_settle_41 : decode cX8_settle 41 = .ok (.if_icmp .ne 7, 3) := by decide +kernel
theorem dX8_settle_44 : decode cX8_settle 44 = .ok (.iconst (-1), 1) := by decide +kernel
theorem dX8_settle_45 : decode cX8_settle 45 = .ok (.goto 7, 3) := by decide +kernel
theorem dX8_settle_48 : decode cX8_settle 48 = .ok (.aload_n 0, 1) := by decide +kernel
theorem dX8_settle_49 : decode cX8_settle 49 = .ok (.getfield 33, 3) := by decide +kernel
theorem dX8_settle_52 : decode cX8_settle 52 = .ok (.putfield 36, 3) := by decide +kernel
theorem dX8_settle_55 : decode cX8_settle 55 = .ok (.aload_n 1, 1) := by decide +kernel
theorem dX8_settle_56 : decode cX8_settle 56 = .ok (.iconst (-1), 1) := by decide +kernel
theorem dX8_settle_57 : decode cX8_settle 57 = .ok (.putfield 39, 3) := by decide +kernel
theorem dX8_settle_60 : decode cX8_settle 60 = .ok (.return_, 1) := by decide +kernel
theorem dX8_findSafeSpeed_0 : decode cX8_findSafeSpeed 0 = .ok (.aload_n 1, 1) := by decide +kernel
theorem dX8_findSafeSpeed_1 : decode cX8_findSafeSpeed 1 = .ok (.getfield 9, 3) := by decide +kernel
theorem dX8_findSafeSpeed_4 : decode cX8_findSafeSpeed 4 = .ok (.istore_n 2, 1) := by decide +kernel
theorem dX8_findSafeSpeed_5 : decode cX8_findSafeSpeed 5 = .ok (.iload_n 2, 1) := by decide +kernel
theorem dX8_findSafeSpeed_6 : decode cX8_findSafeSpeed 6 = .ok (.ifCond .le 27, 3) := by decide +kernel
theorem dX8_findSafeSpeed_9 : decode cX8_findSafeSpeed 9 = .ok (.aload_n 0, 1) := by decide +kernel
theorem dX8_findSafeSpeed_10 : decode cX8_findSafeSpeed 10 = .ok (.aload_n 1, 1) := by decide +kernel
theorem dX8_findSafeSpeed_11 : decode cX8_findSafeSpeed 11 = .ok (.iload_n 2, 1) := by decide +kernel
theorem dX8_findSafeSpeed_12 : decode cX8_findSafeSpeed 12 = .ok (.bipush 60, 2) := by decide +kernel
theorem dX8_findSafeSpeed_14 : decode cX8_findSafeSpeed 14 = .ok (.invokevirtual 17, 3) := by decide +kernel
theorem dX8_findSafeSpeed_17 : decode cX8_findSafeSpeed 17 = .ok (.aload_n 0, 1) := by decide +kernel
theorem dX8_findSafeSpeed_18 : decode cX8_findSafeSpeed 18 = .ok (.getfield 21, 3) := by decide +kernel
theorem dX8_findSafeSpeed_21 : decode cX8_findSafeSpeed 21 = .ok (.iconst (-1), 1) := by decide +kernel
theorem dX8_findSafeSpeed_22 : decode cX8_findSafeSpeed 22 = .ok (.if_icmp .ne 5, 3) := by decide +kernel
theorem dX8_findSafeSpeed_25 : decode cX8_findSafeSpeed 25 = .ok (.iload_n 2, 1) := by decide +kernel
theorem dX8_findSafeSpeed_26 : decode cX8_findSafeSpeed 26 = .ok (.ireturn, 1) := by decide +kernel
theorem dX8_findSafeSpeed_27 : decode cX8_findSafeSpeed 27 = .ok (.iinc 2 (-1), 3) := by decide +kernel
theorem dX8_findSafeSpeed_30 : decode cX8_findSafeSpeed 30 = .ok (.goto (-25), 3) := by decide +kernel
theorem dX8_findSafeSpeed_33 : decode cX8_findSafeSpeed 33 = .ok (.iconst 0, 1) := by decide +kernel
theorem dX8_findSafeSpeed_34 : decode cX8_findSafeSpeed 34 = .ok (.ireturn, 1) := by decide +kernel
theorem dX8_safeSpeed_0 : decode cX8_safeSpeed 0 = .ok (.aload_n 1, 1) := by decide +kernel
theorem dX8_safeSpeed_1 : decode cX8_safeSpeed 1 = .ok (.getfield 39, 3) := by decide +kernel
theorem dX8_safeSpeed_4 : decode cX8_safeSpeed 4 = .ok (.iconst (-1), 1) := by decide +kernel
theorem dX8_safeSpeed_5 : decode cX8_safeSpeed 5 = .ok (.if_icmp .ne 12, 3) := by decide +kernel
theorem dX8_safeSpeed_8 : decode cX8_safeSpeed 8 = .ok (.aload_n 1, 1) := by decide +kernel
theorem dX8_safeSpeed_9 : decode cX8_safeSpeed 9 = .ok (.aload_n 0, 1) := by decide +kernel
theorem dX8_safeSpeed_10 : decode cX8_safeSpeed 10 = .ok (.aload_n 1, 1) := by decide +kernel
theorem dX8_safeSpeed_11 : decode cX8_safeSpeed 11 = .ok (.invokevirtual 42, 3) := by decide +kernel
theorem dX8_safeSpeed_14 : decode cX8_safeSpeed 14 = .ok (.putfield 39, 3) := by decide +kernel
theorem dX8_safeSpeed_17 : decode cX8_safeSpeed 17 = .ok (.aload_n 1, 1) := by decide +kernel
theorem dX8_safeSpeed_18 : decode cX8_safeSpeed 18 = .ok (.getfield 39, 3) := by decide +kernel
theorem dX8_safeSpeed_21 : decode cX8_safeSpeed 21 = .ok (.ireturn, 1) := by decide +kernel
