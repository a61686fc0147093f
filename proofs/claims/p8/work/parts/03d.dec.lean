theorem dX12_stand_79 : decode cX12_stand 79 = .ok (.iload_n 2, 1) := by decide +kernel
theorem dX12_stand_80 : decode cX12_stand 80 = .ok (.iastore, 1) := by decide +kernel
theorem dX12_stand_81 : decode cX12_stand 81 = .ok (.aload_n 0, 1) := by decide +kernel
theorem dX12_stand_82 : decode cX12_stand 82 = .ok (.getfield 139, 3) := by decide +kernel
theorem dX12_stand_85 : decode cX12_stand 85 = .ok (.iload_n 1, 1) := by decide +kernel
theorem dX12_stand_86 : decode cX12_stand 86 = .ok (.iload_n 2, 1) := by decide +kernel
theorem dX12_stand_87 : decode cX12_stand 87 = .ok (.ifCond .ne 7, 3) := by decide +kernel
theorem dX12_stand_90 : decode cX12_stand 90 = .ok (.iconst 0, 1) := by decide +kernel
theorem dX12_stand_91 : decode cX12_stand 91 = .ok (.goto 4, 3) := by decide +kernel
theorem dX12_stand_94 : decode cX12_stand 94 = .ok (.iload_n 3, 1) := by decide +kernel
theorem dX12_stand_95 : decode cX12_stand 95 = .ok (.iastore, 1) := by decide +kernel
theorem dX12_stand_96 : decode cX12_stand 96 = .ok (.aload_n 0, 1) := by decide +kernel
theorem dX12_stand_97 : decode cX12_stand 97 = .ok (.getfield 142, 3) := by decide +kernel
theorem dX12_stand_100 : decode cX12_stand 100 = .ok (.iload_n 1, 1) := by decide +kernel
theorem dX12_stand_101 : decode cX12_stand 101 = .ok (.iload 4, 2) := by decide +kernel
theorem dX12_stand_103 : decode cX12_stand 103 = .ok (.iastore, 1) := by decide +kernel
theorem dX12_stand_104 : decode cX12_stand 104 = .ok (.aload_n 0, 1) := by decide +kernel
theorem dX12_stand_105 : decode cX12_stand 105 = .ok (.getfield 145, 3) := by decide +kernel
theorem dX12_stand_108 : decode cX12_stand 108 = .ok (.iload_n 1, 1) := by decide +kernel
theorem dX12_stand_109 : decode cX12_stand 109 = .ok (.iload 5, 2) := by decide +kernel
theorem dX12_stand_111 : decode cX12_stand 111 = .ok (.iastore, 1) := by decide +kernel
theorem dX12_stand_112 : decode cX12_stand 112 = .ok (.iconst 1, 1) := by decide +kernel
theorem dX12_stand_113 : decode cX12_stand 113 = .ok (.ireturn, 1) := by decide +kernel
theorem dX12_isHidden_0 : decode cX12_isHidden 0 = .ok (.aload_n 0, 1) := by decide +kernel
theorem dX12_isHidden_1 : decode cX12_isHidden 1 = .ok (.getfield 136, 3) := by decide +kernel
theorem dX12_isHidden_4 : decode cX12_isHidden 4 = .ok (.iload_n 1, 1) := by decide +kernel
theorem dX12_isHidden_5 : decode cX12_isHidden 5 = .ok (.iaload, 1) := by decide +kernel
theorem dX12_isHidden_6 : decode cX12_isHidden 6 = .ok (.istore 4, 2) := by decide +kernel
theorem dX12_isHidden_8 : decode cX12_isHidden 8 = .ok (.aload_n 0, 1) := by decide +kernel
theorem dX12_isHidden_9 : decode cX12_isHidden 9 = .ok (.getfield 139, 3) := by decide +kernel
theorem dX12_isHidden_12 : decode cX12_isHidden 12 = .ok (.iload_n 1, 1) := by decide +kernel
theorem dX12_isHidden_13 : decode cX12_isHidden 13 = .ok (.iaload, 1) := by decide +kernel
theorem dX12_isHidden_14 : decode cX12_isHidden 14 = .ok (.istore 5, 2) := by decide +kernel
theorem dX12_isHidden_16 : decode cX12_isHidden 16 = .ok (.iload 4, 2) := by decide +kernel
theorem dX12_isHidden_18 : decode cX12_isHidden 18 = .ok (.ifCond .ge 34, 3) := by decide +kernel
theorem dX12_isHidden_21 : decode cX12_isHidden 21 = .ok (.iload_n 2, 1) := by decide +kernel
theorem dX12_isHidden_22 : decode cX12_isHidden 22 = .ok (.iload 4, 2) := by decide +kernel
theorem dX12_isHidden_24 : decode cX12_isHidden 24 = .ok (.if_icmp .ge 28, 3) := by decide +kernel
theorem dX12_isHidden_27 : decode cX12_isHidden 27 = .ok (.iload_n 3, 1) := by decide +kernel
theorem dX12_isHidden_28 : decode cX12_isHidden 28 = .ok (.iload 5, 2) := by decide +kernel
theorem dX12_isHidden_30 : decode cX12_isHidden 30 = .ok (.if_icmp .ge 22, 3) := by decide +kernel
theorem dX12_isHidden_33 : decode cX12_isHidden 33 = .ok (.iload 4, 2) := by decide +kernel
theorem dX12_isHidden_35 : decode cX12_isHidden 35 = .ok (.iload_n 3, 1) := by decide +kernel
theorem dX12_isHidden_36 : decode cX12_isHidden 36 = .ok (.imul, 1) := by decide +kernel
theorem dX12_isHidden_37 : decode cX12_isHidden 37 = .ok (.iload 5, 2) := by decide +kernel
theorem dX12_isHidden_39 : decode cX12_isHidden 39 = .ok (.iload_n 2, 1) := by decide +kernel
theorem dX12_isHidden_40 : decode cX12_isHidden 40 = .ok (.imul, 1) := by decide +kernel
theorem dX12_isHidden_41 : decode cX12_isHidden 41 = .ok (.iadd, 1) := by decide +kernel
theorem dX12_isHidden_42 : decode cX12_isHidden 42 = .ok (.iload_n 2, 1) := by decide +kernel
theorem dX12_isHidden_43 : decode cX12_isHidden 43 = .ok (.iload_n 3, 1) := by decide +kernel
theorem dX12_isHidden_44 : decode cX12_isHidden 44 = .ok (.imul, 1) := by decide +kernel
theorem dX12_isHidden_45 : decode cX12_isHidden 45 = .ok (.if_icmp .gt 7, 3) := by decide +kernel
theorem dX12_isHidden_48 : decode cX12_isHidden 48 = .ok (.iconst 1, 1) := by decide +kernel
theorem dX12_isHidden_49 : decode cX12_isHidden 49 = .ok (.goto 4, 3) := by decide +kernel
theorem dX12_isHidden_52 : decode cX12_isHidden 52 = .ok (.iconst 0, 1) := by decide +kernel
theorem dX12_isHidden_53 : decode cX12_isHidden 53 = .ok (.ireturn, 1) := by decide +kernel
theorem dX12_upwards_0 : decode cX12_upwards 0 = .ok (.iload_n 0, 1) := by decide +kernel
theorem dX12_upwards_1 : decode cX12_upwards 1 = .ok (.iload_n 1, 1) := by decide +kernel
theorem dX12_upwards_2 : decode cX12_upwards 2 = .ok (.iadd, 1) := by decide +kernel
theorem dX12_upwards_3 : decode cX12_upwards 3 = .ok (.iconst 1, 1) := by decide +kernel
theorem dX12_upwards_4 : decode cX12_upwards 4 = .ok (.isub, 1) := by decide +kernel
theorem dX12_upwards_5 : decode cX12_upwards 5 = .ok (.iload_n 1, 1) := by decide +kernel
theorem dX12_upwards_6 : decode cX12_upwards 6 = .ok (.idiv, 1) := by decide +kernel
theorem dX12_upwards_7 : decode cX12_upwards 7 = .ok (.ireturn, 1) := by decide +kernel
theorem dX12_goesThrough_0 : decode cX12_goesThrough 0 = .ok (.aload_n 0, 1) := by decide +kernel
theorem dX12_goesThrough_1 : decode cX12_goesThrough 1 = .ok (.getfield 118, 3) := by decide +kernel
theorem dX12_goesThrough_4 : decode cX12_goesThrough 4 = .ok (.iload_n 1, 1) := by decide +kernel
theorem dX12_goesThrough_5 : decode cX12_goesThrough 5 = .ok (.iaload, 1) := by decide +kernel
theorem dX12_goesThrough_6 : decode cX12_goesThrough 6 = .ok (.istore_n 3, 1) := by decide +kernel
theorem dX12_goesThrough_7 : decode cX12_goesThrough 7 = .ok (.aload_n 0, 1) := by decide +kernel
theorem dX12_goesThrough_8 : decode cX12_goesThrough 8 = .ok (.getfield 127, 3) := by decide +kernel
theorem dX12_goesThrough_11 : decode cX12_goesThrough 11 = .ok (.iload_n 1, 1) := by decide +kernel
theorem dX12_goesThrough_12 : decode cX12_goesThrough 12 = .ok (.iaload, 1) := by decide +kernel
theorem dX12_goesThrough_13 : decode cX12_goesThrough 13 = .ok (.istore 4, 2) := by decide +kernel
theorem dX12_goesThrough_15 : decode cX12_goesThrough 15 = .ok (.iload_n 2, 1) := by decide +kernel
theorem dX12_goesThrough_16 : decode cX12_goesThrough 16 = .ok (.istore 5, 2) := by decide +kernel
theorem dX12_goesThrough_18 : decode cX12_goesThrough 18 = .ok (.aload_n 0, 1) := by decide +kernel
theorem dX12_goesThrough_19 : decode cX12_goesThrough 19 = .ok (.getfield 142, 3) := by decide +kernel
theorem dX12_goesThrough_22 : decode cX12_goesThrough 22 = .ok (.iload_n 1, 1) := by decide +kernel
theorem dX12_goesThrough_23 : decode cX12_goesThrough 23 = .ok (.iaload, 1) := by decide +kernel
theorem dX12_goesThrough_24 : decode cX12_goesThrough 24 = .ok (.ifCond .ne 8, 3) := by decide +kernel
theorem dX12_goesThrough_27 : decode cX12_goesThrough 27 = .ok (.bipush 60, 2) := by decide +kernel
theorem dX12_goesThrough_29 : decode cX12_goesThrough 29 = .ok (.goto 20, 3) := by decide +kernel
theorem dX12_goesThrough_32 : decode cX12_goesThrough 32 = .ok (.aload_n 0, 1) := by decide +kernel
theorem dX12_goesThrough_33 : decode cX12_goesThrough 33 = .ok (.getfield 142, 3) := by decide +kernel
theorem dX12_goesThrough_36 : decode cX12_goesThrough 36 = .ok (.iload_n 1, 1) := by decide +kernel
theorem dX12_goesThrough_37 : decode cX12_goesThrough 37 = .ok (.iaload, 1) := by decide +kernel
theorem dX12_goesThrough_38 : decode cX12_goesThrough 38 = .ok (.iconst 1, 1) := by decide +kernel
theorem dX12_goesThrough_39 : decode cX12_goesThrough 39 = .ok (.if_icmp .ne 8, 3) := by decide +kernel
theorem dX12_goesThrough_42 : decode cX12_goesThrough 42 = .ok (.bipush 35, 2) := by decide +kernel
theorem dX12_goesThrough_44 : decode cX12_goesThrough 44 = .ok (.goto 5, 3) := by decide +kernel
theorem dX12_goesThrough_47 : decode cX12_goesThrough 47 = .ok (.bipush 10, 2) := by decide +kernel
theorem dX12_goesThrough_49 : decode cX12_goesThrough 49 = .ok (.istore 6, 2) := by decide +kernel
theorem dX12_goesThrough_51 : decode cX12_goesThrough 51 = .ok (.iconst 0, 1) := by decide +kernel
theorem dX12_goesThrough_52 : decode cX12_goesThrough 52 = .ok (.istore 7, 2) := by decide +kernel
theorem dX12_goesThrough_54 : decode cX12_goesThrough 54 = .ok (.aload_n 0, 1) := by decide +kernel
theorem dX12_goesThrough_55 : decode cX12_goesThrough 55 = .ok (.iconst (-1), 1) := by decide +kernel
theorem dX12_goesThrough_56 : decode cX12_goesThrough 56 = .ok (.putfield 365, 3) := by decide +kernel
theorem dX12_goesThrough_59 : decode cX12_goesThrough 59 = .ok (.aload_n 0, 1) := by decide +kernel
theorem dX12_goesThrough_60 : decode cX12_goesThrough 60 = .ok (.iconst (-1), 1) := by decide +kernel
theorem dX12_goesThrough_61 : decode cX12_goesThrough 61 = .ok (.putfield 368, 3) := by decide +kernel
theorem dX12_goesThrough_64 : decode cX12_goesThrough 64 = .ok (.aload_n 0, 1) := by decide +kernel
theorem dX12_goesThrough_65 : decode cX12_goesThrough 65 = .ok (.iconst 0, 1) := by decide +kernel
theorem dX12_goesThrough_66 : decode cX12_goesThrough 66 = .ok (.putfield 371, 3) := by decide +kernel
theorem dX12_goesThrough_69 : decode cX12_goesThrough 69 = .ok (.aload_n 0, 1) := by decide +kernel
theorem dX12_goesThrough_70 : decode cX12_goesThrough 70 = .ok (.getfield 148, 3) := by decide +kernel
theorem dX12_goesThrough_73 : decode cX12_goesThrough 73 = .ok (.iconst 0, 1) := by decide +kernel
theorem dX12_goesThrough_74 : decode cX12_goesThrough 74 = .ok (.iload_n 3, 1) := by decide +kernel
theorem dX12_goesThrough_75 : decode cX12_goesThrough 75 = .ok (.iastore, 1) := by decide +kernel
theorem dX12_goesThrough_76 : decode cX12_goesThrough 76 = .ok (.aload_n 0, 1) := by decide +kernel
theorem dX12_goesThrough_77 : decode cX12_goesThrough 77 = .ok (.getfield 151, 3) := by decide +kernel
theorem dX12_goesThrough_80 : decode cX12_goesThrough 80 = .ok (.iconst 0, 1) := by decide +kernel
theorem dX12_goesThrough_81 : decode cX12_goesThrough 81 = .ok (.iload 4, 2) := by decide +kernel
theorem dX12_goesThrough_83 : decode cX12_goesThrough 83 = .ok (.iastore, 1) := by decide +kernel
theorem dX12_goesThrough_84 : decode cX12_goesThrough 84 = .ok (.iload 7, 2) := by decide +kernel
theorem dX12_goesThrough_86 : decode cX12_goesThrough 86 = .ok (.bipush 60, 2) := by decide +kernel
theorem dX12_goesThrough_88 : decode cX12_goesThrough 88 = .ok (.if_icmp .ge 272, 3) := by decide +kernel
theorem dX12_goesThrough_91 : decode cX12_goesThrough 91 = .ok (.aload_n 0, 1) := by decide +kernel
theorem dX12_goesThrough_92 : decode cX12_goesThrough 92 = .ok (.getfield 371, 3) := by decide +kernel
theorem dX12_goesThrough_95 : decode cX12_goesThrough 95 = .ok (.ifCond .ne 265, 3) := by decide +kernel
theorem dX12_goesThrough_98 : decode cX12_goesThrough 98 = .ok (.iload_n 3, 1) := by decide +kernel
theorem dX12_goesThrough_99 : decode cX12_goesThrough 99 = .ok (.ifCond .ge 23, 3) := by decide +kernel
theorem dX12_goesThrough_102 : decode cX12_goesThrough 102 = .ok (.iload 4, 2) := by decide +kernel
theorem dX12_goesThrough_104 : decode cX12_goesThrough 104 = .ok (.ifCond .ge 18, 3) := by decide +kernel
theorem dX12_goesThrough_107 : decode cX12_goesThrough 107 = .ok (.aload_n 0, 1) := by decide +kernel
theorem dX12_goesThrough_108 : decode cX12_goesThrough 108 = .ok (.iload_n 1, 1) := by decide +kernel
theorem dX12_goesThrough_109 : decode cX12_goesThrough 109 = .ok (.iload_n 3, 1) := by decide +kernel
theorem dX12_goesThrough_110 : decode cX12_goesThrough 110 = .ok (.iload 4, 2) := by decide +kernel
theorem dX12_goesThrough_112 : decode cX12_goesThrough 112 = .ok (.invokevirtual 375, 3) := by decide +kernel
theorem dX12_goesThrough_115 : decode cX12_goesThrough 115 = .ok (.ifCond .ne 7, 3) := by decide +kernel
theorem dX12_goesThrough_118 : decode cX12_goesThrough 118 = .ok (.iconst 1, 1) := by decide +kernel
theorem dX12_goesThrough_119 : decode cX12_goesThrough 119 = .ok (.goto 4, 3) := by decide +kernel
theorem dX12_goesThrough_122 : decode cX12_goesThrough 122 = .ok (.iconst 0, 1) := by decide +kernel
theorem dX12_goesThrough_123 : decode cX12_goesThrough 123 = .ok (.istore 8, 2) := by decide +kernel
theorem dX12_goesThrough_125 : decode cX12_goesThrough 125 = .ok (.aload_n 0, 1) := by decide +kernel
theorem dX12_goesThrough_126 : decode cX12_goesThrough 126 = .ok (.iload 8, 2) := by decide +kernel
theorem dX12_goesThrough_128 : decode cX12_goesThrough 128 = .ok (.ifCond .eq 15, 3) := by decide +kernel
theorem dX12_goesThrough_131 : decode cX12_goesThrough 131 = .ok (.aload_n 0, 1) := by decide +kernel
theorem dX12_goesThrough_132 : decode cX12_goesThrough 132 = .ok (.getfield 365, 3) := by decide +kernel
theorem dX12_goesThrough_135 : decode cX12_goesThrough 135 = .ok (.ifCond .ge 8, 3) := by decide +kernel
theorem dX12_goesThrough_138 : decode cX12_goesThrough 138 = .ok (.iload 7, 2) := by decide +kernel
theorem dX12_goesThrough_140 : decode cX12_goesThrough 140 = .ok (.goto 7, 3) := by decide +kernel
theorem dX12_goesThrough_143 : decode cX12_goesThrough 143 = .ok (.aload_n 0, 1) := by decide +kernel
theorem dX12_goesThrough_144 : decode cX12_goesThrough 144 = .ok (.getfield 365, 3) := by decide +kernel
theorem dX12_goesThrough_147 : decode cX12_goesThrough 147 = .ok (.putfield 365, 3) := by decide +kernel
theorem dX12_goesThrough_150 : decode cX12_goesThrough 150 = .ok (.iload 8, 2) := by decide +kernel
theorem dX12_goesThrough_152 : decode cX12_goesThrough 152 = .ok (.ifCond .eq 46, 3) := by decide +kernel
theorem dX12_goesThrough_155 : decode cX12_goesThrough 155 = .ok (.aload_n 0, 1) := by decide +kernel
theorem dX12_goesThrough_156 : decode cX12_goesThrough 156 = .ok (.getfield 133, 3) := by decide +kernel
theorem dX12_goesThrough_159 : decode cX12_goesThrough 159 = .ok (.iload_n 1, 1) := by decide +kernel
theorem dX12_goesThrough_160 : decode cX12_goesThrough 160 = .ok (.iaload, 1) := by decide +kernel
theorem dX12_goesThrough_161 : decode cX12_goesThrough 161 = .ok (.iconst 1, 1) := by decide +kernel
theorem dX12_goesThrough_162 : decode cX12_goesThrough 162 = .ok (.iand, 1) := by decide +kernel
theorem dX12_goesThrough_163 : decode cX12_goesThrough 163 = .ok (.iconst 1, 1) := by decide +kernel
theorem dX12_goesThrough_164 : decode cX12_goesThrough 164 = .ok (.if_icmp .ne 34, 3) := by decide +kernel
theorem dX12_goesThrough_167 : decode cX12_goesThrough 167 = .ok (.iload 5, 2) := by decide +kernel
theorem dX12_goesThrough_169 : decode cX12_goesThrough 169 = .ok (.ifCond .le 29, 3) := by decide +kernel
theorem dX12_goesThrough_172 : decode cX12_goesThrough 172 = .ok (.iload_n 3, 1) := by decide +kernel
theorem dX12_goesThrough_173 : decode cX12_goesThrough 173 = .ok (.ineg, 1) := by decide +kernel
theorem dX12_goesThrough_174 : decode cX12_goesThrough 174 = .ok (.iload 5, 2) := by decide +kernel
theorem dX12_goesThrough_176 : decode cX12_goesThrough 176 = .ok (.invokestatic 378, 3) := by decide +kernel
theorem dX12_goesThrough_179 : decode cX12_goesThrough 179 = .ok (.iload 4, 2) := by decide +kernel
theorem dX12_goesThrough_181 : decode cX12_goesThrough 181 = .ok (.ineg, 1) := by decide +kernel
theorem dX12_goesThrough_182 : decode cX12_goesThrough 182 = .ok (.aload_n 0, 1) := by decide +kernel
theorem dX12_goesThrough_183 : decode cX12_goesThrough 183 = .ok (.getfield 130, 3) := by decide +kernel
theorem dX12_goesThrough_186 : decode cX12_goesThrough 186 = .ok (.iload_n 1, 1) := by decide +kernel
theorem dX12_goesThrough_187 : decode cX12_goesThrough 187 = .ok (.iaload, 1) := by decide +kernel
theorem dX12_goesThrough_188 : decode cX12_goesThrough 188 = .ok (.invokestatic 378, 3) := by decide +kernel
theorem dX12_goesThrough_191 : decode cX12_goesThrough 191 = .ok (.if_icmp .gt 7, 3) := by decide +kernel
theorem dX12_goesThrough_194 : decode cX12_goesThrough 194 = .ok (.iconst 1, 1) := by decide +kernel
theorem dX12_goesThrough_195 : decode cX12_goesThrough 195 = .ok (.goto 4, 3) := by decide +kernel
theorem dX12_goesThrough_198 : decode cX12_goesThrough 198 = .ok (.iconst 0, 1) := by decide +kernel
theorem dX12_goesThrough_199 : decode cX12_goesThrough 199 = .ok (.istore 9, 2) := by decide +kernel
theorem dX12_goesThrough_201 : decode cX12_goesThrough 201 = .ok (.aload_n 0, 1) := by decide +kernel
theorem dX12_goesThrough_202 : decode cX12_goesThrough 202 = .ok (.getfield 365, 3) := by decide +kernel
theorem dX12_goesThrough_205 : decode cX12_goesThrough 205 = .ok (.ifCond .lt 37, 3) := by decide +kernel
theorem dX12_goesThrough_208 : decode cX12_goesThrough 208 = .ok (.iload 7, 2) := by decide +kernel
theorem dX12_goesThrough_210 : decode cX12_goesThrough 210 = .ok (.aload_n 0, 1) := by decide +kernel
theorem dX12_goesThrough_211 : decode cX12_goesThrough 211 = .ok (.getfield 365, 3) := by decide +kernel
theorem dX12_goesThrough_214 : decode cX12_goesThrough 214 = .ok (.aload_n 0, 1) := by decide +kernel
theorem dX12_goesThrough_215 : decode cX12_goesThrough 215 = .ok (.getfield 124, 3) := by decide +kernel
theorem dX12_goesThrough_218 : decode cX12_goesThrough 218 = .ok (.iload_n 1, 1) := by decide +kernel
theorem dX12_goesThrough_219 : decode cX12_goesThrough 219 = .ok (.iaload, 1) := by decide +kernel
theorem dX12_goesThrough_220 : decode cX12_goesThrough 220 = .ok (.iadd, 1) := by decide +kernel
theorem dX12_goesThrough_221 : decode cX12_goesThrough 221 = .ok (.if_icmp .lt 21, 3) := by decide +kernel
theorem dX12_goesThrough_224 : decode cX12_goesThrough 224 = .ok (.iload 5, 2) := by decide +kernel
theorem dX12_goesThrough_226 : decode cX12_goesThrough 226 = .ok (.iload 6, 2) := by decide +kernel
theorem dX12_goesThrough_228 : decode cX12_goesThrough 228 = .ok (.if_icmp .le 11, 3) := by decide +kernel
theorem dX12_goesThrough_231 : decode cX12_goesThrough 231 = .ok (.iload 5, 2) := by decide +kernel
theorem dX12_goesThrough_233 : decode cX12_goesThrough 233 = .ok (.iload 6, 2) := by decide +kernel
theorem dX12_goesThrough_235 : decode cX12_goesThrough 235 = .ok (.isub, 1) := by decide +kernel
theorem dX12_goesThrough_236 : decode cX12_goesThrough 236 = .ok (.goto 4, 3) := by decide +kernel
theorem dX12_goesThrough_239 : decode cX12_goesThrough 239 = .ok (.iconst 0, 1) := by decide +kernel
theorem dX12_goesThrough_240 : decode cX12_goesThrough 240 = .ok (.istore 5, 2) := by decide +kernel
theorem dX12_goesThrough_242 : decode cX12_goesThrough 242 = .ok (.aload_n 0, 1) := by decide +kernel
theorem dX12_goesThrough_243 : decode cX12_goesThrough 243 = .ok (.iload 5, 2) := by decide +kernel
theorem dX12_goesThrough_245 : decode cX12_goesThrough 245 = .ok (.ifCond .ne 15, 3) := by decide +kernel
theorem dX12_goesThrough_248 : decode cX12_goesThrough 248 = .ok (.aload_n 0, 1) := by decide +kernel
theorem dX12_goesThrough_249 : decode cX12_goesThrough 249 = .ok (.getfield 368, 3) := by decide +kernel
theorem dX12_goesThrough_252 : decode cX12_goesThrough 252 = .ok (.ifCond .ge 8, 3) := by decide +kernel
theorem dX12_goesThrough_255 : decode cX12_goesThrough 255 = .ok (.iload 7, 2) := by decide +kernel
theorem dX12_goesThrough_257 : decode cX12_goesThrough 257 = .ok (.goto 7, 3) := by decide +kernel
theorem dX12_goesThrough_260 : decode cX12_goesThrough 260 = .ok (.aload_n 0, 1) := by decide +kernel
theorem dX12_goesThrough_261 : decode cX12_goesThrough 261 = .ok (.getfield 368, 3) := by decide +kernel
theorem dX12_goesThrough_264 : decode cX12_goesThrough 264 = .ok (.putfield 368, 3) := by decide +kernel
theorem dX12_goesThrough_267 : decode cX12_goesThrough 267 = .ok (.aload_n 0, 1) := by decide +kernel
theorem dX12_goesThrough_268 : decode cX12_goesThrough 268 = .ok (.getfield 154, 3) := by decide +kernel
theorem dX12_goesThrough_271 : decode cX12_goesThrough 271 = .ok (.iload 7, 2) := by decide +kernel
theorem dX12_goesThrough_273 : decode cX12_goesThrough 273 = .ok (.iload 5, 2) := by decide +kernel
theorem dX12_goesThrough_275 : decode cX12_goesThrough 275 = .ok (.iastore, 1) := by decide +kernel
theorem dX12_goesThrough_276 : decode cX12_goesThrough 276 = .ok (.iload_n 3, 1) := by decide +kernel
theorem dX12_goesThrough_277 : decode cX12_goesThrough 277 = .ok (.iload 5, 2) := by decide +kernel
theorem dX12_goesThrough_279 : decode cX12_goesThrough 279 = .ok (.iadd, 1) := by decide +kernel
theorem dX12_goesThrough_280 : decode cX12_goesThrough 280 = .ok (.istore_n 3, 1) := by decide +kernel
theorem dX12_goesThrough_281 : decode cX12_goesThrough 281 = .ok (.iload 4, 2) := by decide +kernel
theorem dX12_goesThrough_283 : decode cX12_goesThrough 283 = .ok (.iload 9, 2) := by decide +kernel
theorem dX12_goesThrough_285 : decode cX12_goesThrough 285 = .ok (.ifCond .eq 7, 3) := by decide +kernel
theorem dX12_goesThrough_288 : decode cX12_goesThrough 288 = .ok (.iconst 0, 1) := by decide +kernel
theorem dX12_goesThrough_289 : decode cX12_goesThrough 289 = .ok (.goto 9, 3) := by decide +kernel
theorem dX12_goesThrough_292 : decode cX12_goesThrough 292 = .ok (.aload_n 0, 1) := by decide +kernel
theorem dX12_goesThrough_293 : decode cX12_goesThrough 293 = .ok (.getfield 130, 3) := by decide +kernel
theorem dX12_goesThrough_296 : decode cX12_goesThrough 296 = .ok (.iload_n 1, 1) := by decide +kernel
theorem dX12_goesThrough_297 : decode cX12_goesThrough 297 = .ok (.iaload, 1) := by decide +kernel
theorem dX12_goesThrough_298 : decode cX12_goesThrough 298 = .ok (.iadd, 1) := by decide +kernel
theorem dX12_goesThrough_299 : decode cX12_goesThrough 299 = .ok (.istore 4, 2) := by decide +kernel
theorem dX12_goesThrough_301 : decode cX12_goesThrough 301 = .ok (.iinc 7 1, 3) := by decide +kernel
theorem dX12_goesThrough_304 : decode cX12_goesThrough 304 = .ok (.aload_n 0, 1) := by decide +kernel
theorem dX12_goesThrough_305 : decode cX12_goesThrough 305 = .ok (.getfield 148, 3) := by decide +kernel
theorem dX12_goesThrough_308 : decode cX12_goesThrough 308 = .ok (.iload 7, 2) := by decide +kernel
theorem dX12_goesThrough_310 : decode cX12_goesThrough 310 = .ok (.iload_n 3, 1) := by decide +kernel
theorem dX12_goesThrough_311 : decode cX12_goesThrough 311 = .ok (.iastore, 1) := by decide +kernel
theorem dX12_goesThrough_312 : decode cX12_goesThrough 312 = .ok (.aload_n 0, 1) := by decide +kernel
theorem dX12_goesThrough_313 : decode cX12_goesThrough 313 = .ok (.getfield 151, 3) := by decide +kernel
theorem dX12_goesThrough_316 : decode cX12_goesThrough 316 = .ok (.iload 7, 2) := by decide +kernel
theorem dX12_goesThrough_318 : decode cX12_goesThrough 318 = .ok (.iload 4, 2) := by decide +kernel
theorem dX12_goesThrough_320 : decode cX12_goesThrough 320 = .ok (.iastore, 1) := by decide +kernel
theorem dX12_goesThrough_321 : decode cX12_goesThrough 321 = .ok (.aload_n 0, 1) := by decide +kernel
theorem dX12_goesThrough_322 : decode cX12_goesThrough 322 = .ok (.iload_n 3, 1) := by decide +kernel
theorem dX12_goesThrough_323 : decode cX12_goesThrough 323 = .ok (.iconst 0, 1) := by decide +kernel
theorem dX12_goesThrough_324 : decode cX12_goesThrough 324 = .ok (.bipush 40, 2) := by decide +kernel
theorem dX12_goesThrough_326 : decode cX12_goesThrough 326 = .ok (.invokestatic 352, 3) := by decide +kernel
theorem dX12_goesThrough_329 : decode cX12_goesThrough 329 = .ok (.ifCond .eq 24, 3) := by decide +kernel
theorem dX12_goesThrough_332 : decode cX12_goesThrough 332 = .ok (.iload 4, 2) := by decide +kernel
theorem dX12_goesThrough_334 : decode cX12_goesThrough 334 = .ok (.bipush (-8), 2) := by decide +kernel
theorem dX12_goesThrough_336 : decode cX12_goesThrough 336 = .ok (.bipush 8, 2) := by decide +kernel
theorem dX12_goesThrough_338 : decode cX12_goesThrough 338 = .ok (.invokestatic 352, 3) := by decide +kernel
theorem dX12_goesThrough_341 : decode cX12_goesThrough 341 = .ok (.ifCond .eq 12, 3) := by decide +kernel
theorem dX12_goesThrough_344 : decode cX12_goesThrough 344 = .ok (.iload 5, 2) := by decide +kernel
theorem dX12_goesThrough_346 : decode cX12_goesThrough 346 = .ok (.ifCond .le 7, 3) := by decide +kernel
theorem dX12_goesThrough_349 : decode cX12_goesThrough 349 = .ok (.iconst 1, 1) := by decide +kernel
theorem dX12_goesThrough_350 : decode cX12_goesThrough 350 = .ok (.goto 4, 3) := by decide +kernel
theorem dX12_goesThrough_353 : decode cX12_goesThrough 353 = .ok (.iconst 0, 1) := by decide +kernel
theorem dX12_goesThrough_354 : decode cX12_goesThrough 354 = .ok (.putfield 371, 3) := by decide +kernel
theorem dX12_goesThrough_357 : decode cX12_goesThrough 357 = .ok (.goto (-273), 3) := by decide +kernel
theorem dX12_goesThrough_360 : decode cX12_goesThrough 360 = .ok (.aload_n 0, 1) := by decide +kernel
theorem dX12_goesThrough_361 : decode cX12_goesThrough 361 = .ok (.iload 7, 2) := by decide +kernel
theorem dX12_goesThrough_363 : decode cX12_goesThrough 363 = .ok (.putfield 381, 3) := by decide +kernel
theorem dX12_goesThrough_366 : decode cX12_goesThrough 366 = .ok (.return_, 1) := by decide +kernel
theorem dX12_safeSpeed_0 : decode cX12_safeSpeed 0 = .ok (.aload_n 0, 1) := by decide +kernel
theorem dX12_safeSpeed_1 : decode cX12_safeSpeed 1 = .ok (.getfield 121, 3) := by decide +kernel
theorem dX12_safeSpeed_4 : decode cX12_safeSpeed 4 = .ok (.iload_n 1, 1) := by decide +kernel
theorem dX12_safeSpeed_5 : decode cX12_safeSpeed 5 = .ok (.iaload, 1) := by decide +kernel
theorem dX12_safeSpeed_6 : decode cX12_safeSpeed 6 = .ok (.istore_n 2, 1) := by decide +kernel
theorem dX12_safeSpeed_7 : decode cX12_safeSpeed 7 = .ok (.iload_n 2, 1) := by decide +kernel
theorem dX12_safeSpeed_8 : decode cX12_safeSpeed 8 = .ok (.ifCond .le 24, 3) := by decide +kernel
theorem dX12_safeSpeed_11 : decode cX12_safeSpeed 11 = .ok (.aload_n 0, 1) := by decide +kernel
theorem dX12_safeSpeed_12 : decode cX12_safeSpeed 12 = .ok (.iload_n 1, 1) := by decide +kernel
theorem dX12_safeSpeed_13 : decode cX12_safeSpeed 13 = .ok (.iload_n 2, 1) := by decide +kernel
theorem dX12_safeSpeed_14 : decode cX12_safeSpeed 14 = .ok (.invokevirtual 384, 3) := by decide +kernel
theorem dX12_safeSpeed_17 : decode cX12_safeSpeed 17 = .ok (.aload_n 0, 1) := by decide +kernel
theorem dX12_safeSpeed_18 : decode cX12_safeSpeed 18 = .ok (.getfield 371, 3) := by decide +kernel
theorem dX12_safeSpeed_21 : decode cX12_safeSpeed 21 = .ok (.ifCond .ne 5, 3) := by decide +kernel
theorem dX12_safeSpeed_24 : decode cX12_safeSpeed 24 = .ok (.iload_n 2, 1) := by decide +kernel
theorem dX12_safeSpeed_25 : decode cX12_safeSpeed 25 = .ok (.ireturn, 1) := by decide +kernel
theorem dX12_safeSpeed_26 : decode cX12_safeSpeed 26 = .ok (.iinc 2 (-1), 3) := by decide +kernel
theorem dX12_safeSpeed_29 : decode cX12_safeSpeed 29 = .ok (.goto (-22), 3) := by decide +kernel
theorem dX12_safeSpeed_32 : decode cX12_safeSpeed 32 = .ok (.iconst 0, 1) := by decide +kernel
theorem dX12_safeSpeed_33 : decode cX12_safeSpeed 33 = .ok (.ireturn, 1) := by decide +kernel
theorem dX12_seenOf_0 : decode cX12_seenOf 0 = .ok (.aload_n 0, 1) := by decide +kernel
theorem dX12_seenOf_1 : decode cX12_seenOf 1 = .ok (.getfield 365, 3) := by decide +kernel
theorem dX12_seenOf_4 : decode cX12_seenOf 4 = .ok (.ifCond .ge 7, 3) := by decide +kernel
theorem dX12_seenOf_7 : decode cX12_seenOf 7 = .ok (.iconst 0, 1) := by decide +kernel
theorem dX12_seenOf_8 : decode cX12_seenOf 8 = .ok (.goto 24, 3) := by decide +kernel
theorem dX12_seenOf_11 : decode cX12_seenOf 11 = .ok (.aload_n 0, 1) := by decide +kernel
theorem dX12_seenOf_12 : decode cX12_seenOf 12 = .ok (.getfield 371, 3) := by decide +kernel
theorem dX12_seenOf_15 : decode cX12_seenOf 15 = .ok (.ifCond .eq 10, 3) := by decide +kernel
theorem dX12_seenOf_18 : decode cX12_seenOf 18 = .ok (.aload_n 0, 1) := by decide +kernel
theorem dX12_seenOf_19 : decode cX12_seenOf 19 = .ok (.getfield 381, 3) := by decide +kernel
theorem dX12_seenOf_22 : decode cX12_seenOf 22 = .ok (.goto 5, 3) := by decide +kernel
theorem dX12_seenOf_25 : decode cX12_seenOf 25 = .ok (.bipush 60, 2) := by decide +kernel
theorem dX12_seenOf_27 : decode cX12_seenOf 27 = .ok (.aload_n 0, 1) := by decide +kernel
theorem dX12_seenOf_28 : decode cX12_seenOf 28 = .ok (.getfield 365, 3) := by decide +kernel
theorem dX12_seenOf_31 : decode cX12_seenOf 31 = .ok (.isub, 1) := by decide +kernel
theorem dX12_seenOf_32 : decode cX12_seenOf 32 = .ok (.ireturn, 1) := by decide +kernel
theorem dX12_signsOf_0 : decode cX12_signsOf 0 = .ok (.aload_n 0, 1) := by decide +kernel
theorem dX12_signsOf_1 : decode cX12_signsOf 1 = .ok (.iload_n 1, 1) := by decide +kernel
theorem dX12_signsOf_2 : decode cX12_signsOf 2 = .ok (.aload_n 0, 1) := by decide +kernel
theorem dX12_signsOf_3 : decode cX12_signsOf 3 = .ok (.getfield 121, 3) := by decide +kernel
theorem dX12_signsOf_6 : decode cX12_signsOf 6 = .ok (.iload_n 1, 1) := by decide +kernel
theorem dX12_signsOf_7 : decode cX12_signsOf 7 = .ok (.iaload, 1) := by decide +kernel
theorem dX12_signsOf_8 : decode cX12_signsOf 8 = .ok (.invokevirtual 384, 3) := by decide +kernel
theorem dX12_signsOf_11 : decode cX12_signsOf 11 = .ok (.aload_n 0, 1) := by decide +kernel
theorem dX12_signsOf_12 : decode cX12_signsOf 12 = .ok (.getfield 121, 3) := by decide +kernel
theorem dX12_signsOf_15 : decode cX12_signsOf 15 = .ok (.iload_n 1, 1) := by decide +kernel
theorem dX12_signsOf_16 : decode cX12_signsOf 16 = .ok (.iaload, 1) := by decide +kernel
theorem dX12_signsOf_17 : decode cX12_signsOf 17 = .ok (.bipush 100, 2) := by decide +kernel
theorem dX12_signsOf_19 : decode cX12_signsOf 19 = .ok (.if_icmp .le 7, 3) := by decide +kernel
theorem dX12_signsOf_22 : decode cX12_signsOf 22 = .ok (.iconst 1, 1) := by decide +kernel
theorem dX12_signsOf_23 : decode cX12_signsOf 23 = .ok (.goto 4, 3) := by decide +kernel
theorem dX12_signsOf_26 : decode cX12_signsOf 26 = .ok (.iconst 0, 1) := by decide +kernel
theorem dX12_signsOf_27 : decode cX12_signsOf 27 = .ok (.istore_n 2, 1) := by decide +kernel
theorem dX12_signsOf_28 : decode cX12_signsOf 28 = .ok (.iload_n 2, 1) := by decide +kernel
theorem dX12_signsOf_29 : decode cX12_signsOf 29 = .ok (.aload_n 0, 1) := by decide +kernel
theorem dX12_signsOf_30 : decode cX12_signsOf 30 = .ok (.getfield 133, 3) := by decide +kernel
theorem dX12_signsOf_33 : decode cX12_signsOf 33 = .ok (.iload_n 1, 1) := by decide +kernel
theorem dX12_signsOf_34 : decode cX12_signsOf 34 = .ok (.iaload, 1) := by decide +kernel
theorem dX12_signsOf_35 : decode cX12_signsOf 35 = .ok (.iconst 1, 1) := by decide +kernel
theorem dX12_signsOf_36 : decode cX12_signsOf 36 = .ok (.ishr, 1) := by decide +kernel
theorem dX12_signsOf_37 : decode cX12_signsOf 37 = .ok (.iconst 1, 1) := by decide +kernel
theorem dX12_signsOf_38 : decode cX12_signsOf 38 = .ok (.if_icmp .ne 7, 3) := by decide +kernel
theorem dX12_signsOf_41 : decode cX12_signsOf 41 = .ok (.iconst 2, 1) := by decide +kernel
theorem dX12_signsOf_42 : decode cX12_signsOf 42 = .ok (.goto 20, 3) := by decide +kernel
theorem dX12_signsOf_45 : decode cX12_signsOf 45 = .ok (.aload_n 0, 1) := by decide +kernel
theorem dX12_signsOf_46 : decode cX12_signsOf 46 = .ok (.getfield 133, 3) := by decide +kernel
theorem dX12_signsOf_49 : decode cX12_signsOf 49 = .ok (.iload_n 1, 1) := by decide +kernel
theorem dX12_signsOf_50 : decode cX12_signsOf 50 = .ok (.iaload, 1) := by decide +kernel
theorem dX12_signsOf_51 : decode cX12_signsOf 51 = .ok (.iconst 1, 1) := by decide +kernel
theorem dX12_signsOf_52 : decode cX12_signsOf 52 = .ok (.ishr, 1) := by decide +kernel
theorem dX12_signsOf_53 : decode cX12_signsOf 53 = .ok (.iconst 2, 1) := by decide +kernel
theorem dX12_signsOf_54 : decode cX12_signsOf 54 = .ok (.if_icmp .ne 7, 3) := by decide +kernel
theorem dX12_signsOf_57 : decode cX12_signsOf 57 = .ok (.iconst 4, 1) := by decide +kernel
theorem dX12_signsOf_58 : decode cX12_signsOf 58 = .ok (.goto 4, 3) := by decide +kernel
theorem dX12_signsOf_61 : decode cX12_signsOf 61 = .ok (.iconst 0, 1) := by decide +kernel
theorem dX12_signsOf_62 : decode cX12_signsOf 62 = .ok (.ior, 1) := by decide +kernel
theorem dX12_signsOf_63 : decode cX12_signsOf 63 = .ok (.istore_n 2, 1) := by decide +kernel
theorem dX12_signsOf_64 : decode cX12_signsOf 64 = .ok (.iload_n 2, 1) := by decide +kernel
theorem dX12_signsOf_65 : decode cX12_signsOf 65 = .ok (.aload_n 0, 1) := by decide +kernel
theorem dX12_signsOf_66 : decode cX12_signsOf 66 = .ok (.invokevirtual 387, 3) := by decide +kernel
theorem dX12_signsOf_69 : decode cX12_signsOf 69 = .ok (.iconst 2, 1) := by decide +kernel
theorem dX12_signsOf_70 : decode cX12_signsOf 70 = .ok (.if_icmp .lt 8, 3) := by decide +kernel
theorem dX12_signsOf_73 : decode cX12_signsOf 73 = .ok (.bipush 8, 2) := by decide +kernel
theorem dX12_signsOf_75 : decode cX12_signsOf 75 = .ok (.goto 4, 3) := by decide +kernel
theorem dX12_signsOf_78 : decode cX12_signsOf 78 = .ok (.iconst 0, 1) := by decide +kernel
theorem dX12_signsOf_79 : decode cX12_signsOf 79 = .ok (.ior, 1) := by decide +kernel
theorem dX12_signsOf_80 : decode cX12_signsOf 80 = .ok (.istore_n 2, 1) := by decide +kernel
theorem dX12_signsOf_81 : decode cX12_signsOf 81 = .ok (.iload_n 2, 1) := by decide +kernel
theorem dX12_signsOf_82 : decode cX12_signsOf 82 = .ok (.aload_n 0, 1) := by decide +kernel
theorem dX12_signsOf_83 : decode cX12_signsOf 83 = .ok (.getfield 133, 3) := by decide +kernel
theorem dX12_signsOf_86 : decode cX12_signsOf 86 = .ok (.iload_n 1, 1) := by decide +kernel
theorem dX12_signsOf_87 : decode cX12_signsOf 87 = .ok (.iaload, 1) := by decide +kernel
theorem dX12_signsOf_88 : decode cX12_signsOf 88 = .ok (.iconst 1, 1) := by decide +kernel
theorem dX12_signsOf_89 : decode cX12_signsOf 89 = .ok (.iand, 1) := by decide +kernel
theorem dX12_signsOf_90 : decode cX12_signsOf 90 = .ok (.iconst 1, 1) := by decide +kernel
theorem dX12_signsOf_91 : decode cX12_signsOf 91 = .ok (.if_icmp .ne 8, 3) := by decide +kernel
theorem dX12_signsOf_94 : decode cX12_signsOf 94 = .ok (.bipush 16, 2) := by decide +kernel
theorem dX12_signsOf_96 : decode cX12_signsOf 96 = .ok (.goto 4, 3) := by decide +kernel
theorem dX12_signsOf_99 : decode cX12_signsOf 99 = .ok (.iconst 0, 1) := by decide +kernel
theorem dX12_signsOf_100 : decode cX12_signsOf 100 = .ok (.ior, 1) := by decide +kernel
theorem dX12_signsOf_101 : decode cX12_signsOf 101 = .ok (.istore_n 2, 1) := by decide +kernel
theorem dX12_signsOf_102 : decode cX12_signsOf 102 = .ok (.iload_n 2, 1) := by decide +kernel
theorem dX12_signsOf_103 : decode cX12_signsOf 103 = .ok (.aload_n 0, 1) := by decide +kernel
theorem dX12_signsOf_104 : decode cX12_signsOf 104 = .ok (.getfield 136, 3) := by decide +kernel
theorem dX12_signsOf_107 : decode cX12_signsOf 107 = .ok (.iload_n 1, 1) := by decide +kernel
theorem dX12_signsOf_108 : decode cX12_signsOf 108 = .ok (.iaload, 1) := by decide +kernel
theorem dX12_signsOf_109 : decode cX12_signsOf 109 = .ok (.ifCond .ge 8, 3) := by decide +kernel
theorem dX12_signsOf_112 : decode cX12_signsOf 112 = .ok (.bipush 32, 2) := by decide +kernel
theorem dX12_signsOf_114 : decode cX12_signsOf 114 = .ok (.goto 4, 3) := by decide +kernel
theorem dX12_signsOf_117 : decode cX12_signsOf 117 = .ok (.iconst 0, 1) := by decide +kernel
theorem dX12_signsOf_118 : decode cX12_signsOf 118 = .ok (.ior, 1) := by decide +kernel
theorem dX12_signsOf_119 : decode cX12_signsOf 119 = .ok (.istore_n 2, 1) := by decide +kernel
theorem dX12_signsOf_120 : decode cX12_signsOf 120 = .ok (.iload_n 2, 1) := by decide +kernel
theorem dX12_signsOf_121 : decode cX12_signsOf 121 = .ok (.aload_n 0, 1) := by decide +kernel
theorem dX12_signsOf_122 : decode cX12_signsOf 122 = .ok (.getfield 142, 3) := by decide +kernel
theorem dX12_signsOf_125 : decode cX12_signsOf 125 = .ok (.iload_n 1, 1) := by decide +kernel
theorem dX12_signsOf_126 : decode cX12_signsOf 126 = .ok (.iaload, 1) := by decide +kernel
theorem dX12_signsOf_127 : decode cX12_signsOf 127 = .ok (.ifCond .le 8, 3) := by decide +kernel
theorem dX12_signsOf_130 : decode cX12_signsOf 130 = .ok (.bipush 64, 2) := by decide +kernel
theorem dX12_signsOf_132 : decode cX12_signsOf 132 = .ok (.goto 4, 3) := by decide +kernel
theorem dX12_signsOf_135 : decode cX12_signsOf 135 = .ok (.iconst 0, 1) := by decide +kernel
theorem dX12_signsOf_136 : decode cX12_signsOf 136 = .ok (.ior, 1) := by decide +kernel
theorem dX12_signsOf_137 : decode cX12_signsOf 137 = .ok (.istore_n 2, 1) := by decide +kernel
theorem dX12_signsOf_138 : decode cX12_signsOf 138 = .ok (.iload_n 2, 1) := by decide +kernel
theorem dX12_signsOf_139 : decode cX12_signsOf 139 = .ok (.aload_n 0, 1) := by decide +kernel
theorem dX12_signsOf_140 : decode cX12_signsOf 140 = .ok (.getfield 145, 3) := by decide +kernel
theorem dX12_signsOf_143 : decode cX12_signsOf 143 = .ok (.iload_n 1, 1) := by decide +kernel
theorem dX12_signsOf_144 : decode cX12_signsOf 144 = .ok (.iaload, 1) := by decide +kernel
theorem dX12_signsOf_145 : decode cX12_signsOf 145 = .ok (.bipush 10, 2) := by decide +kernel
theorem dX12_signsOf_147 : decode cX12_signsOf 147 = .ok (.if_icmp .ge 9, 3) := by decide +kernel
theorem dX12_signsOf_150 : decode cX12_signsOf 150 = .ok (.sipush 128, 3) := by decide +kernel
theorem dX12_signsOf_153 : decode cX12_signsOf 153 = .ok (.goto 4, 3) := by decide +kernel
theorem dX12_signsOf_156 : decode cX12_signsOf 156 = .ok (.iconst 0, 1) := by decide +kernel
theorem dX12_signsOf_157 : decode cX12_signsOf 157 = .ok (.ior, 1) := by decide +kernel
theorem dX12_signsOf_158 : decode cX12_signsOf 158 = .ok (.ireturn, 1) := by decide +kernel
theorem dX12_look_0 : decode cX12_look 0 = .ok (.aload_n 0, 1) := by decide +kernel
theorem dX12_look_1 : decode cX12_look 1 = .ok (.iconst 0, 1) := by decide +kernel
theorem dX12_look_2 : decode cX12_look 2 = .ok (.putfield 1, 3) := by decide +kernel
theorem dX12_look_5 : decode cX12_look 5 = .ok (.aload_n 0, 1) := by decide +kernel
theorem dX12_look_6 : decode cX12_look 6 = .ok (.iload_n 1, 1) := by decide +kernel
theorem dX12_look_7 : decode cX12_look 7 = .ok (.invokevirtual 362, 3) := by decide +kernel
theorem dX12_look_10 : decode cX12_look 10 = .ok (.ifCond .eq 13, 3) := by decide +kernel
theorem dX12_look_13 : decode cX12_look 13 = .ok (.iload_n 2, 1) := by decide +kernel
theorem dX12_look_14 : decode cX12_look 14 = .ok (.iconst 0, 1) := by decide +kernel
theorem dX12_look_15 : decode cX12_look 15 = .ok (.bipush 6, 2) := by decide +kernel
theorem dX12_look_17 : decode cX12_look 17 = .ok (.invokestatic 352, 3) := by decide +kernel
theorem dX12_look_20 : decode cX12_look 20 = .ok (.ifCond .ne 5, 3) := by decide +kernel
theorem dX12_look_23 : decode cX12_look 23 = .ok (.iconst (-1), 1) := by decide +kernel
theorem dX12_look_24 : decode cX12_look 24 = .ok (.ireturn, 1) := by decide +kernel
theorem dX12_look_25 : decode cX12_look 25 = .ok (.iload_n 2, 1) := by decide +kernel
theorem dX12_look_26 : decode cX12_look 26 = .ok (.iconst 2, 1) := by decide +kernel
theorem dX12_look_27 : decode cX12_look 27 = .ok (.if_icmp .ne 9, 3) := by decide +kernel
theorem dX12_look_30 : decode cX12_look 30 = .ok (.aload_n 0, 1) := by decide +kernel
theorem dX12_look_31 : decode cX12_look 31 = .ok (.iload_n 1, 1) := by decide +kernel
theorem dX12_look_32 : decode cX12_look 32 = .ok (.invokevirtual 390, 3) := by decide +kernel
theorem dX12_look_35 : decode cX12_look 35 = .ok (.ireturn, 1) := by decide +kernel
theorem dX12_look_36 : decode cX12_look 36 = .ok (.iload_n 2, 1) := by decide +kernel
theorem dX12_look_37 : decode cX12_look 37 = .ok (.iconst 5, 1) := by decide +kernel
theorem dX12_look_38 : decode cX12_look 38 = .ok (.if_icmp .ne 9, 3) := by decide +kernel
theorem dX12_look_41 : decode cX12_look 41 = .ok (.aload_n 0, 1) := by decide +kernel
theorem dX12_look_42 : decode cX12_look 42 = .ok (.iload_n 1, 1) := by decide +kernel
theorem dX12_look_43 : decode cX12_look 43 = .ok (.invokevirtual 393, 3) := by decide +kernel
theorem dX12_look_46 : decode cX12_look 46 = .ok (.ireturn, 1) := by decide +kernel
theorem dX12_look_47 : decode cX12_look 47 = .ok (.aload_n 0, 1) := by decide +kernel
theorem dX12_look_48 : decode cX12_look 48 = .ok (.iload_n 1, 1) := by decide +kernel
theorem dX12_look_49 : decode cX12_look 49 = .ok (.aload_n 0, 1) := by decide +kernel
theorem dX12_look_50 : decode cX12_look 50 = .ok (.getfield 121, 3) := by decide +kernel
theorem dX12_look_53 : decode cX12_look 53 = .ok (.iload_n 1, 1) := by decide +kernel
theorem dX12_look_54 : decode cX12_look 54 = .ok (.iaload, 1) := by decide +kernel
theorem dX12_look_55 : decode cX12_look 55 = .ok (.invokevirtual 384, 3) := by decide +kernel
theorem dX12_look_58 : decode cX12_look 58 = .ok (.iload_n 2, 1) := by decide +kernel
theorem dX12_look_59 : decode cX12_look 59 = .ok (.tableswitch 82 0 4 #[33, 49, 82, 54, 59], 33) := by decide +kernel
theorem dX12_look_92 : decode cX12_look 92 = .ok (.aload_n 0, 1) := by decide +kernel
theorem dX12_look_93 : decode cX12_look 93 = .ok (.getfield 371, 3) := by decide +kernel
theorem dX12_look_96 : decode cX12_look 96 = .ok (.ifCond .eq 10, 3) := by decide +kernel
theorem dX12_look_99 : decode cX12_look 99 = .ok (.aload_n 0, 1) := by decide +kernel
theorem dX12_look_100 : decode cX12_look 100 = .ok (.getfield 381, 3) := by decide +kernel
theorem dX12_look_103 : decode cX12_look 103 = .ok (.goto 4, 3) := by decide +kernel
theorem dX12_look_106 : decode cX12_look 106 = .ok (.iconst (-1), 1) := by decide +kernel
theorem dX12_look_107 : decode cX12_look 107 = .ok (.ireturn, 1) := by decide +kernel
theorem dX12_look_108 : decode cX12_look 108 = .ok (.aload_n 0, 1) := by decide +kernel
theorem dX12_look_109 : decode cX12_look 109 = .ok (.getfield 365, 3) := by decide +kernel
theorem dX12_look_112 : decode cX12_look 112 = .ok (.ireturn, 1) := by decide +kernel
theorem dX12_look_113 : decode cX12_look 113 = .ok (.aload_n 0, 1) := by decide +kernel
theorem dX12_look_114 : decode cX12_look 114 = .ok (.invokevirtual 387, 3) := by decide +kernel
theorem dX12_look_117 : decode cX12_look 117 = .ok (.ireturn, 1) := by decide +kernel
theorem dX12_look_118 : decode cX12_look 118 = .ok (.aload_n 0, 1) := by decide +kernel
theorem dX12_look_119 : decode cX12_look 119 = .ok (.getfield 371, 3) := by decide +kernel
theorem dX12_look_122 : decode cX12_look 122 = .ok (.ifCond .eq 17, 3) := by decide +kernel
theorem dX12_look_125 : decode cX12_look 125 = .ok (.aload_n 0, 1) := by decide +kernel
theorem dX12_look_126 : decode cX12_look 126 = .ok (.getfield 154, 3) := by decide +kernel
theorem dX12_look_129 : decode cX12_look 129 = .ok (.aload_n 0, 1) := by decide +kernel
theorem dX12_look_130 : decode cX12_look 130 = .ok (.getfield 381, 3) := by decide +kernel
theorem dX12_look_133 : decode cX12_look 133 = .ok (.iconst 1, 1) := by decide +kernel
theorem dX12_look_134 : decode cX12_look 134 = .ok (.isub, 1) := by decide +kernel
theorem dX12_look_135 : decode cX12_look 135 = .ok (.iaload, 1) := by decide +kernel
theorem dX12_look_136 : decode cX12_look 136 = .ok (.goto 4, 3) := by decide +kernel
theorem dX12_look_139 : decode cX12_look 139 = .ok (.iconst (-1), 1) := by decide +kernel
theorem dX12_look_140 : decode cX12_look 140 = .ok (.ireturn, 1) := by decide +kernel
theorem dX12_look_141 : decode cX12_look 141 = .ok (.aload_n 0, 1) := by decide +kernel
theorem dX12_look_142 : decode cX12_look 142 = .ok (.getfield 368, 3) := by decide +kernel
theorem dX12_look_145 : decode cX12_look 145 = .ok (.ireturn, 1) := by decide +kernel
theorem dX12_at_0 : decode cX12_at 0 = .ok (.aload_n 0, 1) := by decide +kernel
theorem dX12_at_1 : decode cX12_at 1 = .ok (.iconst 1, 1) := by decide +kernel
theorem dX12_at_2 : decode cX12_at 2 = .ok (.putfield 1, 3) := by decide +kernel
theorem dX12_at_5 : decode cX12_at 5 = .ok (.aload_n 0, 1) := by decide +kernel
theorem dX12_at_6 : decode cX12_at 6 = .ok (.iload_n 1, 1) := by decide +kernel
theorem dX12_at_7 : decode cX12_at 7 = .ok (.invokevirtual 362, 3) := by decide +kernel
theorem dX12_at_10 : decode cX12_at 10 = .ok (.ifCond .eq 12, 3) := by decide +kernel
theorem dX12_at_13 : decode cX12_at 13 = .ok (.iload_n 2, 1) := by decide +kernel
theorem dX12_at_14 : decode cX12_at 14 = .ok (.iconst 0, 1) := by decide +kernel
theorem dX12_at_15 : decode cX12_at 15 = .ok (.iconst 1, 1) := by decide +kernel
theorem dX12_at_16 : decode cX12_at 16 = .ok (.invokestatic 352, 3) := by decide +kernel
theorem dX12_at_19 : decode cX12_at 19 = .ok (.ifCond .ne 5, 3) := by decide +kernel
theorem dX12_at_22 : decode cX12_at 22 = .ok (.iconst 0, 1) := by decide +kernel
theorem dX12_at_23 : decode cX12_at 23 = .ok (.ireturn, 1) := by decide +kernel
theorem dX12_at_24 : decode cX12_at 24 = .ok (.aload_n 0, 1) := by decide +kernel
theorem dX12_at_25 : decode cX12_at 25 = .ok (.iload_n 1, 1) := by decide +kernel
theorem dX12_at_26 : decode cX12_at 26 = .ok (.aload_n 0, 1) := by decide +kernel
theorem dX12_at_27 : decode cX12_at 27 = .ok (.getfield 121, 3) := by decide +kernel
theorem dX12_at_30 : decode cX12_at 30 = .ok (.iload_n 1, 1) := by decide +kernel
theorem dX12_at_31 : decode cX12_at 31 = .ok (.iaload, 1) := by decide +kernel
theorem dX12_at_32 : decode cX12_at 32 = .ok (.invokevirtual 384, 3) := by decide +kernel
theorem dX12_at_35 : decode cX12_at 35 = .ok (.aload_n 0, 1) := by decide +kernel
theorem dX12_at_36 : decode cX12_at 36 = .ok (.iload_n 3, 1) := by decide +kernel
theorem dX12_at_37 : decode cX12_at 37 = .ok (.iconst 0, 1) := by decide +kernel
theorem dX12_at_38 : decode cX12_at 38 = .ok (.aload_n 0, 1) := by decide +kernel
theorem dX12_at_39 : decode cX12_at 39 = .ok (.getfield 381, 3) := by decide +kernel
theorem dX12_at_42 : decode cX12_at 42 = .ok (.invokestatic 352, 3) := by decide +kernel
theorem dX12_at_45 : decode cX12_at 45 = .ok (.ifCond .eq 7, 3) := by decide +kernel
theorem dX12_at_48 : decode cX12_at 48 = .ok (.iconst 0, 1) := by decide +kernel
theorem dX12_at_49 : decode cX12_at 49 = .ok (.goto 4, 3) := by decide +kernel
theorem dX12_at_52 : decode cX12_at 52 = .ok (.iconst 1, 1) := by decide +kernel
theorem dX12_at_53 : decode cX12_at 53 = .ok (.putfield 1, 3) := by decide +kernel
theorem dX12_at_56 : decode cX12_at 56 = .ok (.aload_n 0, 1) := by decide +kernel
theorem dX12_at_57 : decode cX12_at 57 = .ok (.getfield 1, 3) := by decide +kernel
theorem dX12_at_60 : decode cX12_at 60 = .ok (.ifCond .le 7, 3) := by decide +kernel
theorem dX12_at_63 : decode cX12_at 63 = .ok (.iconst 0, 1) := by decide +kernel
theorem dX12_at_64 : decode cX12_at 64 = .ok (.goto 22, 3) := by decide +kernel
theorem dX12_at_67 : decode cX12_at 67 = .ok (.iload_n 2, 1) := by decide +kernel
theorem dX12_at_68 : decode cX12_at 68 = .ok (.ifCond .ne 12, 3) := by decide +kernel
theorem dX12_at_71 : decode cX12_at 71 = .ok (.aload_n 0, 1) := by decide +kernel
theorem dX12_at_72 : decode cX12_at 72 = .ok (.getfield 148, 3) := by decide +kernel
theorem dX12_at_75 : decode cX12_at 75 = .ok (.iload_n 3, 1) := by decide +kernel
theorem dX12_at_76 : decode cX12_at 76 = .ok (.iaload, 1) := by decide +kernel
theorem dX12_at_77 : decode cX12_at 77 = .ok (.goto 9, 3) := by decide +kernel
theorem dX12_at_80 : decode cX12_at 80 = .ok (.aload_n 0, 1) := by decide +kernel
theorem dX12_at_81 : decode cX12_at 81 = .ok (.getfield 151, 3) := by decide +kernel
theorem dX12_at_84 : decode cX12_at 84 = .ok (.iload_n 3, 1) := by decide +kernel
theorem dX12_at_85 : decode cX12_at 85 = .ok (.iaload, 1) := by decide +kernel
theorem dX12_at_86 : decode cX12_at 86 = .ok (.ireturn, 1) := by decide +kernel
theorem dX12_lawIn_0 : decode cX12_lawIn 0 = .ok (.iconst (-1), 1) := by decide +kernel
theorem dX12_lawIn_1 : decode cX12_lawIn 1 = .ok (.istore_n 2, 1) := by decide +kernel
theorem dX12_lawIn_2 : decode cX12_lawIn 2 = .ok (.iconst 0, 1) := by decide +kernel
theorem dX12_lawIn_3 : decode cX12_lawIn 3 = .ok (.istore_n 3, 1) := by decide +kernel
theorem dX12_lawIn_4 : decode cX12_lawIn 4 = .ok (.iload_n 3, 1) := by decide +kernel
theorem dX12_lawIn_5 : decode cX12_lawIn 5 = .ok (.aload_n 0, 1) := by decide +kernel
theorem dX12_lawIn_6 : decode cX12_lawIn 6 = .ok (.getfield 281, 3) := by decide +kernel
theorem dX12_lawIn_9 : decode cX12_lawIn 9 = .ok (.if_icmp .ge 69, 3) := by decide +kernel
theorem dX12_lawIn_12 : decode cX12_lawIn 12 = .ok (.aload_n 0, 1) := by decide +kernel
theorem dX12_lawIn_13 : decode cX12_lawIn 13 = .ok (.getfield 82, 3) := by decide +kernel
theorem dX12_lawIn_16 : decode cX12_lawIn 16 = .ok (.iload_n 3, 1) := by decide +kernel
theorem dX12_lawIn_17 : decode cX12_lawIn 17 = .ok (.iaload, 1) := by decide +kernel
theorem dX12_lawIn_18 : decode cX12_lawIn 18 = .ok (.aload_n 0, 1) := by decide +kernel
theorem dX12_lawIn_19 : decode cX12_lawIn 19 = .ok (.invokevirtual 396, 3) := by decide +kernel
theorem dX12_lawIn_22 : decode cX12_lawIn 22 = .ok (.if_icmp .gt 17, 3) := by decide +kernel
theorem dX12_lawIn_25 : decode cX12_lawIn 25 = .ok (.aload_n 0, 1) := by decide +kernel
theorem dX12_lawIn_26 : decode cX12_lawIn 26 = .ok (.getfield 79, 3) := by decide +kernel
theorem dX12_lawIn_29 : decode cX12_lawIn 29 = .ok (.iload_n 3, 1) := by decide +kernel
theorem dX12_lawIn_30 : decode cX12_lawIn 30 = .ok (.iaload, 1) := by decide +kernel
theorem dX12_lawIn_31 : decode cX12_lawIn 31 = .ok (.iload_n 1, 1) := by decide +kernel
theorem dX12_lawIn_32 : decode cX12_lawIn 32 = .ok (.if_icmp .gt 7, 3) := by decide +kernel
theorem dX12_lawIn_35 : decode cX12_lawIn 35 = .ok (.iconst 1, 1) := by decide +kernel
theorem dX12_lawIn_36 : decode cX12_lawIn 36 = .ok (.goto 4, 3) := by decide +kernel
theorem dX12_lawIn_39 : decode cX12_lawIn 39 = .ok (.iconst 0, 1) := by decide +kernel
theorem dX12_lawIn_40 : decode cX12_lawIn 40 = .ok (.istore 4, 2) := by decide +kernel
theorem dX12_lawIn_42 : decode cX12_lawIn 42 = .ok (.iload 4, 2) := by decide +kernel
theorem dX12_lawIn_44 : decode cX12_lawIn 44 = .ok (.ifCond .eq 26, 3) := by decide +kernel
theorem dX12_lawIn_47 : decode cX12_lawIn 47 = .ok (.iload_n 2, 1) := by decide +kernel
theorem dX12_lawIn_48 : decode cX12_lawIn 48 = .ok (.ifCond .lt 18, 3) := by decide +kernel
theorem dX12_lawIn_51 : decode cX12_lawIn 51 = .ok (.aload_n 0, 1) := by decide +kernel
theorem dX12_lawIn_52 : decode cX12_lawIn 52 = .ok (.getfield 79, 3) := by decide +kernel
theorem dX12_lawIn_55 : decode cX12_lawIn 55 = .ok (.iload_n 3, 1) := by decide +kernel
theorem dX12_lawIn_56 : decode cX12_lawIn 56 = .ok (.iaload, 1) := by decide +kernel
theorem dX12_lawIn_57 : decode cX12_lawIn 57 = .ok (.aload_n 0, 1) := by decide +kernel
theorem dX12_lawIn_58 : decode cX12_lawIn 58 = .ok (.getfield 79, 3) := by decide +kernel
theorem dX12_lawIn_61 : decode cX12_lawIn 61 = .ok (.iload_n 2, 1) := by decide +kernel
theorem dX12_lawIn_62 : decode cX12_lawIn 62 = .ok (.iaload, 1) := by decide +kernel
theorem dX12_lawIn_63 : decode cX12_lawIn 63 = .ok (.if_icmp .lt 7, 3) := by decide +kernel
theorem dX12_lawIn_66 : decode cX12_lawIn 66 = .ok (.iload_n 3, 1) := by decide +kernel
theorem dX12_lawIn_67 : decode cX12_lawIn 67 = .ok (.goto 4, 3) := by decide +kernel
theorem dX12_lawIn_70 : decode cX12_lawIn 70 = .ok (.iload_n 2, 1) := by decide +kernel
theorem dX12_lawIn_71 : decode cX12_lawIn 71 = .ok (.istore_n 2, 1) := by decide +kernel
theorem dX12_lawIn_72 : decode cX12_lawIn 72 = .ok (.iinc 3 1, 3) := by decide +kernel
theorem dX12_lawIn_75 : decode cX12_lawIn 75 = .ok (.goto (-71), 3) := by decide +kernel
theorem dX12_lawIn_78 : decode cX12_lawIn 78 = .ok (.iload_n 2, 1) := by decide +kernel
theorem dX12_lawIn_79 : decode cX12_lawIn 79 = .ok (.ireturn, 1) := by decide +kernel
theorem dX12_knows_0 : decode cX12_knows 0 = .ok (.aload_n 0, 1) := by decide +kernel
theorem dX12_knows_1 : decode cX12_knows 1 = .ok (.iload_n 1, 1) := by decide +kernel
theorem dX12_knows_2 : decode cX12_knows 2 = .ok (.aload_n 0, 1) := by decide +kernel
theorem dX12_knows_3 : decode cX12_knows 3 = .ok (.getfield 121, 3) := by decide +kernel
theorem dX12_knows_6 : decode cX12_knows 6 = .ok (.iload_n 1, 1) := by decide +kernel
theorem dX12_knows_7 : decode cX12_knows 7 = .ok (.iaload, 1) := by decide +kernel
theorem dX12_knows_8 : decode cX12_knows 8 = .ok (.invokevirtual 384, 3) := by decide +kernel
theorem dX12_knows_11 : decode cX12_knows 11 = .ok (.aload_n 0, 1) := by decide +kernel
theorem dX12_knows_12 : decode cX12_knows 12 = .ok (.getfield 106, 3) := by decide +kernel
theorem dX12_knows_15 : decode cX12_knows 15 = .ok (.iconst 0, 1) := by decide +kernel
theorem dX12_knows_16 : decode cX12_knows 16 = .ok (.aload_n 0, 1) := by decide +kernel
theorem dX12_knows_17 : decode cX12_knows 17 = .ok (.getfield 121, 3) := by decide +kernel
theorem dX12_knows_20 : decode cX12_knows 20 = .ok (.iload_n 1, 1) := by decide +kernel
theorem dX12_knows_21 : decode cX12_knows 21 = .ok (.iaload, 1) := by decide +kernel
theorem dX12_knows_22 : decode cX12_knows 22 = .ok (.iastore, 1) := by decide +kernel
theorem dX12_knows_23 : decode cX12_knows 23 = .ok (.aload_n 0, 1) := by decide +kernel
theorem dX12_knows_24 : decode cX12_knows 24 = .ok (.getfield 106, 3) := by decide +kernel
theorem dX12_knows_27 : decode cX12_knows 27 = .ok (.iconst 1, 1) := by decide +kernel
theorem dX12_knows_28 : decode cX12_knows 28 = .ok (.aload_n 0, 1) := by decide +kernel
theorem dX12_knows_29 : decode cX12_knows 29 = .ok (.getfield 130, 3) := by decide +kernel
theorem dX12_knows_32 : decode cX12_knows 32 = .ok (.iload_n 1, 1) := by decide +kernel
theorem dX12_knows_33 : decode cX12_knows 33 = .ok (.iaload, 1) := by decide +kernel
theorem dX12_knows_34 : decode cX12_knows 34 = .ok (.iastore, 1) := by decide +kernel
theorem dX12_knows_35 : decode cX12_knows 35 = .ok (.aload_n 0, 1) := by decide +kernel
theorem dX12_knows_36 : decode cX12_knows 36 = .ok (.getfield 106, 3) := by decide +kernel
theorem dX12_knows_39 : decode cX12_knows 39 = .ok (.iconst 2, 1) := by decide +kernel
theorem dX12_knows_40 : decode cX12_knows 40 = .ok (.aload_n 0, 1) := by decide +kernel
theorem dX12_knows_41 : decode cX12_knows 41 = .ok (.invokevirtual 387, 3) := by decide +kernel
theorem dX12_knows_44 : decode cX12_knows 44 = .ok (.iastore, 1) := by decide +kernel
theorem dX12_knows_45 : decode cX12_knows 45 = .ok (.aload_n 0, 1) := by decide +kernel
theorem dX12_knows_46 : decode cX12_knows 46 = .ok (.getfield 106, 3) := by decide +kernel
theorem dX12_knows_49 : decode cX12_knows 49 = .ok (.iconst 3, 1) := by decide +kernel
theorem dX12_knows_50 : decode cX12_knows 50 = .ok (.aload_n 0, 1) := by decide +kernel
theorem dX12_knows_51 : decode cX12_knows 51 = .ok (.getfield 371, 3) := by decide +kernel
theorem dX12_knows_54 : decode cX12_knows 54 = .ok (.ifCond .eq 7, 3) := by decide +kernel
theorem dX12_knows_57 : decode cX12_knows 57 = .ok (.iconst 1, 1) := by decide +kernel
theorem dX12_knows_58 : decode cX12_knows 58 = .ok (.goto 4, 3) := by decide +kernel
theorem dX12_knows_61 : decode cX12_knows 61 = .ok (.iconst 0, 1) := by decide +kernel
theorem dX12_knows_62 : decode cX12_knows 62 = .ok (.iastore, 1) := by decide +kernel
theorem dX12_knows_63 : decode cX12_knows 63 = .ok (.aload_n 0, 1) := by decide +kernel
theorem dX12_knows_64 : decode cX12_knows 64 = .ok (.getfield 106, 3) := by decide +kernel
theorem dX12_knows_67 : decode cX12_knows 67 = .ok (.iconst 4, 1) := by decide +kernel
theorem dX12_knows_68 : decode cX12_knows 68 = .ok (.aload_n 0, 1) := by decide +kernel
theorem dX12_knows_69 : decode cX12_knows 69 = .ok (.getfield 133, 3) := by decide +kernel
theorem dX12_knows_72 : decode cX12_knows 72 = .ok (.iload_n 1, 1) := by decide +kernel
theorem dX12_knows_73 : decode cX12_knows 73 = .ok (.iaload, 1) := by decide +kernel
theorem dX12_knows_74 : decode cX12_knows 74 = .ok (.iconst 1, 1) := by decide +kernel
theorem dX12_knows_75 : decode cX12_knows 75 = .ok (.iand, 1) := by decide +kernel
theorem dX12_knows_76 : decode cX12_knows 76 = .ok (.iastore, 1) := by decide +kernel
theorem dX12_knows_77 : decode cX12_knows 77 = .ok (.aload_n 0, 1) := by decide +kernel
theorem dX12_knows_78 : decode cX12_knows 78 = .ok (.getfield 106, 3) := by decide +kernel
theorem dX12_knows_81 : decode cX12_knows 81 = .ok (.iconst 5, 1) := by decide +kernel
theorem dX12_knows_82 : decode cX12_knows 82 = .ok (.aload_n 0, 1) := by decide +kernel
theorem dX12_knows_83 : decode cX12_knows 83 = .ok (.getfield 133, 3) := by decide +kernel
theorem dX12_knows_86 : decode cX12_knows 86 = .ok (.iload_n 1, 1) := by decide +kernel
theorem dX12_knows_87 : decode cX12_knows 87 = .ok (.iaload, 1) := by decide +kernel
theorem dX12_knows_88 : decode cX12_knows 88 = .ok (.iconst 1, 1) := by decide +kernel
theorem dX12_knows_89 : decode cX12_knows 89 = .ok (.ishr, 1) := by decide +kernel
theorem dX12_knows_90 : decode cX12_knows 90 = .ok (.iastore, 1) := by decide +kernel
theorem dX12_knows_91 : decode cX12_knows 91 = .ok (.aload_n 0, 1) := by decide +kernel
theorem dX12_knows_92 : decode cX12_knows 92 = .ok (.getfield 106, 3) := by decide +kernel
theorem dX12_knows_95 : decode cX12_knows 95 = .ok (.bipush 6, 2) := by decide +kernel
theorem dX12_knows_97 : decode cX12_knows 97 = .ok (.aload_n 0, 1) := by decide +kernel
theorem dX12_knows_98 : decode cX12_knows 98 = .ok (.getfield 142, 3) := by decide +kernel
theorem dX12_knows_101 : decode cX12_knows 101 = .ok (.iload_n 1, 1) := by decide +kernel
theorem dX12_knows_102 : decode cX12_knows 102 = .ok (.iaload, 1) := by decide +kernel
theorem dX12_knows_103 : decode cX12_knows 103 = .ok (.iastore, 1) := by decide +kernel
theorem dX12_knows_104 : decode cX12_knows 104 = .ok (.aload_n 0, 1) := by decide +kernel
theorem dX12_knows_105 : decode cX12_knows 105 = .ok (.getfield 106, 3) := by decide +kernel
theorem dX12_knows_108 : decode cX12_knows 108 = .ok (.bipush 7, 2) := by decide +kernel
theorem dX12_knows_110 : decode cX12_knows 110 = .ok (.aload_n 0, 1) := by decide +kernel
theorem dX12_knows_111 : decode cX12_knows 111 = .ok (.getfield 145, 3) := by decide +kernel
theorem dX12_knows_114 : decode cX12_knows 114 = .ok (.iload_n 1, 1) := by decide +kernel
theorem dX12_knows_115 : decode cX12_knows 115 = .ok (.iaload, 1) := by decide +kernel
theorem dX12_knows_116 : decode cX12_knows 116 = .ok (.iastore, 1) := by decide +kernel
theorem dX12_knows_117 : decode cX12_knows 117 = .ok (.aload_n 0, 1) := by decide +kernel
theorem dX12_knows_118 : decode cX12_knows 118 = .ok (.getfield 106, 3) := by decide +kernel
theorem dX12_knows_121 : decode cX12_knows 121 = .ok (.bipush 8, 2) := by decide +kernel
theorem dX12_knows_123 : decode cX12_knows 123 = .ok (.aload_n 0, 1) := by decide +kernel
theorem dX12_knows_124 : decode cX12_knows 124 = .ok (.getfield 136, 3) := by decide +kernel
theorem dX12_knows_127 : decode cX12_knows 127 = .ok (.iload_n 1, 1) := by decide +kernel
theorem dX12_knows_128 : decode cX12_knows 128 = .ok (.iaload, 1) := by decide +kernel
theorem dX12_knows_129 : decode cX12_knows 129 = .ok (.ifCond .ge 7, 3) := by decide +kernel
theorem dX12_knows_132 : decode cX12_knows 132 = .ok (.iconst 1, 1) := by decide +kernel
theorem dX12_knows_133 : decode cX12_knows 133 = .ok (.goto 4, 3) := by decide +kernel
theorem dX12_knows_136 : decode cX12_knows 136 = .ok (.iconst 0, 1) := by decide +kernel
theorem dX12_knows_137 : decode cX12_knows 137 = .ok (.iastore, 1) := by decide +kernel
theorem dX12_knows_138 : decode cX12_knows 138 = .ok (.aload_n 0, 1) := by decide +kernel
theorem dX12_knows_139 : decode cX12_knows 139 = .ok (.getfield 106, 3) := by decide +kernel
theorem dX12_knows_142 : decode cX12_knows 142 = .ok (.bipush 9, 2) := by decide +kernel
theorem dX12_knows_144 : decode cX12_knows 144 = .ok (.iconst 0, 1) := by decide +kernel
theorem dX12_knows_145 : decode cX12_knows 145 = .ok (.iastore, 1) := by decide +kernel
theorem dX12_knows_146 : decode cX12_knows 146 = .ok (.aload_n 0, 1) := by decide +kernel
theorem dX12_knows_147 : decode cX12_knows 147 = .ok (.getfield 106, 3) := by decide +kernel
theorem dX12_knows_150 : decode cX12_knows 150 = .ok (.bipush 10, 2) := by decide +kernel
theorem dX12_knows_152 : decode cX12_knows 152 = .ok (.iload_n 2, 1) := by decide +kernel
theorem dX12_knows_153 : decode cX12_knows 153 = .ok (.iastore, 1) := by decide +kernel
theorem dX12_knows_154 : decode cX12_knows 154 = .ok (.return_, 1) := by decide +kernel
theorem dX12_says_0 : decode cX12_says 0 = .ok (.aload_n 0, 1) := by decide +kernel
theorem dX12_says_1 : decode cX12_says 1 = .ok (.iconst 0, 1) := by decide +kernel
theorem dX12_says_2 : decode cX12_says 2 = .ok (.putfield 399, 3) := by decide +kernel
theorem dX12_says_5 : decode cX12_says 5 = .ok (.aload_n 0, 1) := by decide +kernel
theorem dX12_says_6 : decode cX12_says 6 = .ok (.iconst (-1), 1) := by decide +kernel
theorem dX12_says_7 : decode cX12_says 7 = .ok (.putfield 402, 3) := by decide +kernel
theorem dX12_says_10 : decode cX12_says 10 = .ok (.aload_n 0, 1) := by decide +kernel
theorem dX12_says_11 : decode cX12_says 11 = .ok (.iconst 0, 1) := by decide +kernel
theorem dX12_says_12 : decode cX12_says 12 = .ok (.putfield 405, 3) := by decide +kernel
theorem dX12_says_15 : decode cX12_says 15 = .ok (.aload_n 0, 1) := by decide +kernel
theorem dX12_says_16 : decode cX12_says 16 = .ok (.iload_n 2, 1) := by decide +kernel
theorem dX12_says_17 : decode cX12_says 17 = .ok (.invokevirtual 408, 3) := by decide +kernel
theorem dX12_says_20 : decode cX12_says 20 = .ok (.istore_n 3, 1) := by decide +kernel
theorem dX12_says_21 : decode cX12_says 21 = .ok (.iload_n 3, 1) := by decide +kernel
theorem dX12_says_22 : decode cX12_says 22 = .ok (.ifCond .ge 4, 3) := by decide +kernel
theorem dX12_says_25 : decode cX12_says 25 = .ok (.return_, 1) := by decide +kernel
theorem dX12_says_26 : decode cX12_says 26 = .ok (.aload_n 0, 1) := by decide +kernel
theorem dX12_says_27 : decode cX12_says 27 = .ok (.iload_n 1, 1) := by decide +kernel
theorem dX12_says_28 : decode cX12_says 28 = .ok (.iload_n 2, 1) := by decide +kernel
theorem dX12_says_29 : decode cX12_says 29 = .ok (.invokevirtual 411, 3) := by decide +kernel
theorem dX12_says_32 : decode cX12_says 32 = .ok (.iconst 0, 1) := by decide +kernel
theorem dX12_says_33 : decode cX12_says 33 = .ok (.istore 4, 2) := by decide +kernel
theorem dX12_says_35 : decode cX12_says 35 = .ok (.iconst 0, 1) := by decide +kernel
theorem dX12_says_36 : decode cX12_says 36 = .ok (.istore 5, 2) := by decide +kernel
theorem dX12_says_38 : decode cX12_says 38 = .ok (.iload 5, 2) := by decide +kernel
theorem dX12_says_40 : decode cX12_says 40 = .ok (.aload_n 0, 1) := by decide +kernel
theorem dX12_says_41 : decode cX12_says 41 = .ok (.getfield 85, 3) := by decide +kernel
theorem dX12_says_44 : decode cX12_says 44 = .ok (.iload_n 3, 1) := by decide +kernel
theorem dX12_says_45 : decode cX12_says 45 = .ok (.iaload, 1) := by decide +kernel
theorem dX12_says_46 : decode cX12_says 46 = .ok (.if_icmp .ge 49, 3) := by decide +kernel
theorem dX12_says_49 : decode cX12_says 49 = .ok (.bipush 20, 2) := by decide +kernel
theorem dX12_says_51 : decode cX12_says 51 = .ok (.iload_n 3, 1) := by decide +kernel
theorem dX12_says_52 : decode cX12_says 52 = .ok (.imul, 1) := by decide +kernel
theorem dX12_says_53 : decode cX12_says 53 = .ok (.iload 5, 2) := by decide +kernel
theorem dX12_says_55 : decode cX12_says 55 = .ok (.iadd, 1) := by decide +kernel
theorem dX12_says_56 : decode cX12_says 56 = .ok (.istore 6, 2) := by decide +kernel
theorem dX12_says_58 : decode cX12_says 58 = .ok (.aload_n 0, 1) := by decide +kernel
theorem dX12_says_59 : decode cX12_says 59 = .ok (.getfield 88, 3) := by decide +kernel
theorem dX12_says_62 : decode cX12_says 62 = .ok (.iload 6, 2) := by decide +kernel
theorem dX12_says_64 : decode cX12_says 64 = .ok (.iaload, 1) := by decide +kernel
theorem dX12_says_65 : decode cX12_says 65 = .ok (.ifCond .ne 24, 3) := by decide +kernel
theorem dX12_says_68 : decode cX12_says 68 = .ok (.aload_n 0, 1) := by decide +kernel
theorem dX12_says_69 : decode cX12_says 69 = .ok (.getfield 109, 3) := by decide +kernel
theorem dX12_says_72 : decode cX12_says 72 = .ok (.iload 4, 2) := by decide +kernel
theorem dX12_says_74 : decode cX12_says 74 = .ok (.aload_n 0, 1) := by decide +kernel
theorem dX12_says_75 : decode cX12_says 75 = .ok (.aload_n 0, 1) := by decide +kernel
theorem dX12_says_76 : decode cX12_says 76 = .ok (.getfield 94, 3) := by decide +kernel
theorem dX12_says_79 : decode cX12_says 79 = .ok (.iload 6, 2) := by decide +kernel
theorem dX12_says_81 : decode cX12_says 81 = .ok (.iaload, 1) := by decide +kernel
theorem dX12_says_82 : decode cX12_says 82 = .ok (.invokevirtual 414, 3) := by decide +kernel
theorem dX12_says_85 : decode cX12_says 85 = .ok (.iastore, 1) := by decide +kernel
theorem dX12_says_86 : decode cX12_says 86 = .ok (.iinc 4 1, 3) := by decide +kernel
theorem dX12_says_89 : decode cX12_says 89 = .ok (.iinc 5 1, 3) := by decide +kernel
theorem dX12_says_92 : decode cX12_says 92 = .ok (.goto (-54), 3) := by decide +kernel
theorem dX12_says_95 : decode cX12_says 95 = .ok (.iconst 0, 1) := by decide +kernel
theorem dX12_says_96 : decode cX12_says 96 = .ok (.istore 5, 2) := by decide +kernel
theorem dX12_says_98 : decode cX12_says 98 = .ok (.iload 5, 2) := by decide +kernel
theorem dX12_says_100 : decode cX12_says 100 = .ok (.aload_n 0, 1) := by decide +kernel
theorem dX12_says_101 : decode cX12_says 101 = .ok (.getfield 85, 3) := by decide +kernel
theorem dX12_says_104 : decode cX12_says 104 = .ok (.iload_n 3, 1) := by decide +kernel
theorem dX12_says_105 : decode cX12_says 105 = .ok (.iaload, 1) := by decide +kernel
theorem dX12_says_106 : decode cX12_says 106 = .ok (.if_icmp .ge 62, 3) := by decide +kernel
theorem dX12_says_109 : decode cX12_says 109 = .ok (.bipush 20, 2) := by decide +kernel
theorem dX12_says_111 : decode cX12_says 111 = .ok (.iload_n 3, 1) := by decide +kernel
theorem dX12_says_112 : decode cX12_says 112 = .ok (.imul, 1) := by decide +kernel
theorem dX12_says_113 : decode cX12_says 113 = .ok (.iload 5, 2) := by decide +kernel
theorem dX12_says_115 : decode cX12_says 115 = .ok (.iadd, 1) := by decide +kernel
theorem dX12_says_116 : decode cX12_says 116 = .ok (.istore 6, 2) := by decide +kernel
theorem dX12_says_118 : decode cX12_says 118 = .ok (.aload_n 0, 1) := by decide +kernel
theorem dX12_says_119 : decode cX12_says 119 = .ok (.getfield 88, 3) := by decide +kernel
theorem dX12_says_122 : decode cX12_says 122 = .ok (.iload 6, 2) := by decide +kernel
theorem dX12_says_124 : decode cX12_says 124 = .ok (.iaload, 1) := by decide +kernel
theorem dX12_says_125 : decode cX12_says 125 = .ok (.bipush 19, 2) := by decide +kernel
theorem dX12_says_127 : decode cX12_says 127 = .ok (.if_icmp .ne 35, 3) := by decide +kernel
theorem dX12_says_130 : decode cX12_says 130 = .ok (.aload_n 0, 1) := by decide +kernel
theorem dX12_says_131 : decode cX12_says 131 = .ok (.getfield 405, 3) := by decide +kernel
theorem dX12_says_134 : decode cX12_says 134 = .ok (.ifCond .ne 28, 3) := by decide +kernel
theorem dX12_says_137 : decode cX12_says 137 = .ok (.aload_n 0, 1) := by decide +kernel
theorem dX12_says_138 : decode cX12_says 138 = .ok (.aload_n 0, 1) := by decide +kernel
theorem dX12_says_139 : decode cX12_says 139 = .ok (.getfield 94, 3) := by decide +kernel
theorem dX12_says_142 : decode cX12_says 142 = .ok (.iload 6, 2) := by decide +kernel
theorem dX12_says_144 : decode cX12_says 144 = .ok (.iaload, 1) := by decide +kernel
theorem dX12_says_145 : decode cX12_says 145 = .ok (.invokevirtual 414, 3) := by decide +kernel
theorem dX12_says_148 : decode cX12_says 148 = .ok (.ifCond .eq 14, 3) := by decide +kernel
theorem dX12_says_151 : decode cX12_says 151 = .ok (.aload_n 0, 1) := by decide +kernel
theorem dX12_says_152 : decode cX12_says 152 = .ok (.aload_n 0, 1) := by decide +kernel
theorem dX12_says_153 : decode cX12_says 153 = .ok (.getfield 91, 3) := by decide +kernel
theorem dX12_says_156 : decode cX12_says 156 = .ok (.iload 6, 2) := by decide +kernel
theorem dX12_says_158 : decode cX12_says 158 = .ok (.iaload, 1) := by decide +kernel
theorem dX12_says_159 : decode cX12_says 159 = .ok (.putfield 405, 3) := by decide +kernel
theorem dX12_says_162 : decode cX12_says 162 = .ok (.iinc 5 1, 3) := by decide +kernel
theorem dX12_says_165 : decode cX12_says 165 = .ok (.goto (-67), 3) := by decide +kernel
theorem dX12_says_168 : decode cX12_says 168 = .ok (.aload_n 0, 1) := by decide +kernel
theorem dX12_says_169 : decode cX12_says 169 = .ok (.getfield 106, 3) := by decide +kernel
theorem dX12_says_172 : decode cX12_says 172 = .ok (.bipush 9, 2) := by decide +kernel
theorem dX12_says_174 : decode cX12_says 174 = .ok (.aload_n 0, 1) := by decide +kernel
theorem dX12_says_175 : decode cX12_says 175 = .ok (.getfield 405, 3) := by decide +kernel
theorem dX12_says_178 : decode cX12_says 178 = .ok (.iastore, 1) := by decide +kernel
theorem dX12_says_179 : decode cX12_says 179 = .ok (.iconst 0, 1) := by decide +kernel
theorem dX12_says_180 : decode cX12_says 180 = .ok (.istore 5, 2) := by decide +kernel
theorem dX12_says_182 : decode cX12_says 182 = .ok (.iload 5, 2) := by decide +kernel
theorem dX12_says_184 : decode cX12_says 184 = .ok (.aload_n 0, 1) := by decide +kernel
theorem dX12_says_185 : decode cX12_says 185 = .ok (.getfield 85, 3) := by decide +kernel
theorem dX12_says_188 : decode cX12_says 188 = .ok (.iload_n 3, 1) := by decide +kernel
theorem dX12_says_189 : decode cX12_says 189 = .ok (.iaload, 1) := by decide +kernel
theorem dX12_says_190 : decode cX12_says 190 = .ok (.if_icmp .ge 67, 3) := by decide +kernel
theorem dX12_says_193 : decode cX12_says 193 = .ok (.aload_n 0, 1) := by decide +kernel
theorem dX12_says_194 : decode cX12_says 194 = .ok (.getfield 402, 3) := by decide +kernel
theorem dX12_says_197 : decode cX12_says 197 = .ok (.ifCond .ge 60, 3) := by decide +kernel
theorem dX12_says_200 : decode cX12_says 200 = .ok (.bipush 20, 2) := by decide +kernel
theorem dX12_says_202 : decode cX12_says 202 = .ok (.iload_n 3, 1) := by decide +kernel
theorem dX12_says_203 : decode cX12_says 203 = .ok (.imul, 1) := by decide +kernel
theorem dX12_says_204 : decode cX12_says 204 = .ok (.iload 5, 2) := by decide +kernel
theorem dX12_says_206 : decode cX12_says 206 = .ok (.iadd, 1) := by decide +kernel
theorem dX12_says_207 : decode cX12_says 207 = .ok (.istore 6, 2) := by decide +kernel
theorem dX12_says_209 : decode cX12_says 209 = .ok (.aload_n 0, 1) := by decide +kernel
theorem dX12_says_210 : decode cX12_says 210 = .ok (.getfield 88, 3) := by decide +kernel
theorem dX12_says_213 : decode cX12_says 213 = .ok (.iload 6, 2) := by decide +kernel
theorem dX12_says_215 : decode cX12_says 215 = .ok (.iaload, 1) := by decide +kernel
theorem dX12_says_216 : decode cX12_says 216 = .ok (.iconst 1, 1) := by decide +kernel
theorem dX12_says_217 : decode cX12_says 217 = .ok (.if_icmp .ne 34, 3) := by decide +kernel
theorem dX12_says_220 : decode cX12_says 220 = .ok (.aload_n 0, 1) := by decide +kernel
theorem dX12_says_221 : decode cX12_says 221 = .ok (.aload_n 0, 1) := by decide +kernel
theorem dX12_says_222 : decode cX12_says 222 = .ok (.getfield 94, 3) := by decide +kernel
theorem dX12_says_225 : decode cX12_says 225 = .ok (.iload 6, 2) := by decide +kernel
theorem dX12_says_227 : decode cX12_says 227 = .ok (.iaload, 1) := by decide +kernel
theorem dX12_says_228 : decode cX12_says 228 = .ok (.invokevirtual 414, 3) := by decide +kernel
theorem dX12_says_231 : decode cX12_says 231 = .ok (.ifCond .eq 20, 3) := by decide +kernel
theorem dX12_says_234 : decode cX12_says 234 = .ok (.aload_n 0, 1) := by decide +kernel
theorem dX12_says_235 : decode cX12_says 235 = .ok (.aload_n 0, 1) := by decide +kernel
theorem dX12_says_236 : decode cX12_says 236 = .ok (.getfield 91, 3) := by decide +kernel
theorem dX12_says_239 : decode cX12_says 239 = .ok (.iload 6, 2) := by decide +kernel
theorem dX12_says_241 : decode cX12_says 241 = .ok (.iaload, 1) := by decide +kernel
theorem dX12_says_242 : decode cX12_says 242 = .ok (.putfield 399, 3) := by decide +kernel
theorem dX12_says_245 : decode cX12_says 245 = .ok (.aload_n 0, 1) := by decide +kernel
theorem dX12_says_246 : decode cX12_says 246 = .ok (.iload 5, 2) := by decide +kernel
theorem dX12_says_248 : decode cX12_says 248 = .ok (.putfield 402, 3) := by decide +kernel
theorem dX12_says_251 : decode cX12_says 251 = .ok (.iinc 5 1, 3) := by decide +kernel
theorem dX12_says_254 : decode cX12_says 254 = .ok (.goto (-72), 3) := by decide +kernel
theorem dX12_says_257 : decode cX12_says 257 = .ok (.return_, 1) := by decide +kernel
theorem dX12_whose_0 : decode cX12_whose 0 = .ok (.aload_n 0, 1) := by decide +kernel
theorem dX12_whose_1 : decode cX12_whose 1 = .ok (.iconst 0, 1) := by decide +kernel
theorem dX12_whose_2 : decode cX12_whose 2 = .ok (.putfield 1, 3) := by decide +kernel
theorem dX12_whose_5 : decode cX12_whose 5 = .ok (.aload_n 0, 1) := by decide +kernel
theorem dX12_whose_6 : decode cX12_whose 6 = .ok (.iload_n 1, 1) := by decide +kernel
theorem dX12_whose_7 : decode cX12_whose 7 = .ok (.invokevirtual 362, 3) := by decide +kernel
theorem dX12_whose_10 : decode cX12_whose 10 = .ok (.ifCond .eq 19, 3) := by decide +kernel
theorem dX12_whose_13 : decode cX12_whose 13 = .ok (.iload_n 2, 1) := by decide +kernel
theorem dX12_whose_14 : decode cX12_whose 14 = .ok (.invokestatic 356, 3) := by decide +kernel
theorem dX12_whose_17 : decode cX12_whose 17 = .ok (.ifCond .eq 12, 3) := by decide +kernel
theorem dX12_whose_20 : decode cX12_whose 20 = .ok (.iload_n 3, 1) := by decide +kernel
theorem dX12_whose_21 : decode cX12_whose 21 = .ok (.iconst 0, 1) := by decide +kernel
theorem dX12_whose_22 : decode cX12_whose 22 = .ok (.iconst 3, 1) := by decide +kernel
theorem dX12_whose_23 : decode cX12_whose 23 = .ok (.invokestatic 352, 3) := by decide +kernel
theorem dX12_whose_26 : decode cX12_whose 26 = .ok (.ifCond .ne 5, 3) := by decide +kernel
theorem dX12_whose_29 : decode cX12_whose 29 = .ok (.iconst (-1), 1) := by decide +kernel
theorem dX12_whose_30 : decode cX12_whose 30 = .ok (.ireturn, 1) := by decide +kernel
theorem dX12_whose_31 : decode cX12_whose 31 = .ok (.aload_n 0, 1) := by decide +kernel
theorem dX12_whose_32 : decode cX12_whose 32 = .ok (.iload_n 1, 1) := by decide +kernel
theorem dX12_whose_33 : decode cX12_whose 33 = .ok (.iload_n 2, 1) := by decide +kernel
theorem dX12_whose_34 : decode cX12_whose 34 = .ok (.invokevirtual 417, 3) := by decide +kernel
theorem dX12_whose_37 : decode cX12_whose 37 = .ok (.iload_n 3, 1) := by decide +kernel
theorem dX12_whose_38 : decode cX12_whose 38 = .ok (.ifCond .ne 10, 3) := by decide +kernel
theorem dX12_whose_41 : decode cX12_whose 41 = .ok (.aload_n 0, 1) := by decide +kernel
theorem dX12_whose_42 : decode cX12_whose 42 = .ok (.getfield 399, 3) := by decide +kernel
theorem dX12_whose_45 : decode cX12_whose 45 = .ok (.goto 32, 3) := by decide +kernel
theorem dX12_whose_48 : decode cX12_whose 48 = .ok (.iload_n 3, 1) := by decide +kernel
theorem dX12_whose_49 : decode cX12_whose 49 = .ok (.iconst 1, 1) := by decide +kernel
theorem dX12_whose_50 : decode cX12_whose 50 = .ok (.if_icmp .ne 10, 3) := by decide +kernel
theorem dX12_whose_53 : decode cX12_whose 53 = .ok (.aload_n 0, 1) := by decide +kernel
theorem dX12_whose_54 : decode cX12_whose 54 = .ok (.getfield 402, 3) := by decide +kernel
theorem dX12_whose_57 : decode cX12_whose 57 = .ok (.goto 20, 3) := by decide +kernel
theorem dX12_whose_60 : decode cX12_whose 60 = .ok (.iload_n 3, 1) := by decide +kernel
theorem dX12_whose_61 : decode cX12_whose 61 = .ok (.iconst 2, 1) := by decide +kernel
theorem dX12_whose_62 : decode cX12_whose 62 = .ok (.if_icmp .ne 10, 3) := by decide +kernel
theorem dX12_whose_65 : decode cX12_whose 65 = .ok (.aload_n 0, 1) := by decide +kernel
theorem dX12_whose_66 : decode cX12_whose 66 = .ok (.getfield 405, 3) := by decide +kernel
theorem dX12_whose_69 : decode cX12_whose 69 = .ok (.goto 8, 3) := by decide +kernel
theorem dX12_whose_72 : decode cX12_whose 72 = .ok (.aload_n 0, 1) := by decide +kernel
theorem dX12_whose_73 : decode cX12_whose 73 = .ok (.iload_n 2, 1) := by decide +kernel
theorem dX12_whose_74 : decode cX12_whose 74 = .ok (.invokevirtual 408, 3) := by decide +kernel
theorem dX12_whose_77 : decode cX12_whose 77 = .ok (.ireturn, 1) := by decide +kernel
theorem dX12_changes_0 : decode cX12_changes 0 = .ok (.aload_n 0, 1) := by decide +kernel
theorem dX12_changes_1 : decode cX12_changes 1 = .ok (.iconst 0, 1) := by decide +kernel
theorem dX12_changes_2 : decode cX12_changes 2 = .ok (.putfield 1, 3) := by decide +kernel
theorem dX12_changes_5 : decode cX12_changes 5 = .ok (.aload_n 0, 1) := by decide +kernel
theorem dX12_changes_6 : decode cX12_changes 6 = .ok (.iload_n 1, 1) := by decide +kernel
theorem dX12_changes_7 : decode cX12_changes 7 = .ok (.invokevirtual 362, 3) := by decide +kernel
theorem dX12_changes_10 : decode cX12_changes 10 = .ok (.ifCond .eq 7, 3) := by decide +kernel
theorem dX12_changes_13 : decode cX12_changes 13 = .ok (.iload_n 2, 1) := by decide +kernel
theorem dX12_changes_14 : decode cX12_changes 14 = .ok (.ifCond .ge 5, 3) := by decide +kernel
theorem dX12_changes_17 : decode cX12_changes 17 = .ok (.iconst (-1), 1) := by decide +kernel
theorem dX12_changes_18 : decode cX12_changes 18 = .ok (.ireturn, 1) := by decide +kernel
theorem dX12_changes_19 : decode cX12_changes 19 = .ok (.iload_n 2, 1) := by decide +kernel
theorem dX12_changes_20 : decode cX12_changes 20 = .ok (.istore_n 3, 1) := by decide +kernel
theorem dX12_changes_21 : decode cX12_changes 21 = .ok (.aload_n 0, 1) := by decide +kernel
theorem dX12_changes_22 : decode cX12_changes 22 = .ok (.iload_n 1, 1) := by decide +kernel
theorem dX12_changes_23 : decode cX12_changes 23 = .ok (.iconst 0, 1) := by decide +kernel
theorem dX12_changes_24 : decode cX12_changes 24 = .ok (.invokevirtual 417, 3) := by decide +kernel
theorem dX12_changes_27 : decode cX12_changes 27 = .ok (.aload_n 0, 1) := by decide +kernel
theorem dX12_changes_28 : decode cX12_changes 28 = .ok (.getfield 399, 3) := by decide +kernel
theorem dX12_changes_31 : decode cX12_changes 31 = .ok (.istore 4, 2) := by decide +kernel
theorem dX12_changes_33 : decode cX12_changes 33 = .ok (.iconst 1, 1) := by decide +kernel
theorem dX12_changes_34 : decode cX12_changes 34 = .ok (.istore 5, 2) := by decide +kernel
theorem dX12_changes_36 : decode cX12_changes 36 = .ok (.iload 5, 2) := by decide +kernel
theorem dX12_changes_38 : decode cX12_changes 38 = .ok (.bipush 31, 2) := by decide +kernel
theorem dX12_changes_40 : decode cX12_changes 40 = .ok (.if_icmp .ge 41, 3) := by decide +kernel
theorem dX12_changes_43 : decode cX12_changes 43 = .ok (.aload_n 0, 1) := by decide +kernel
theorem dX12_changes_44 : decode cX12_changes 44 = .ok (.iload_n 1, 1) := by decide +kernel
theorem dX12_changes_45 : decode cX12_changes 45 = .ok (.iload 5, 2) := by decide +kernel
theorem dX12_changes_47 : decode cX12_changes 47 = .ok (.invokevirtual 417, 3) := by decide +kernel
theorem dX12_changes_50 : decode cX12_changes 50 = .ok (.aload_n 0, 1) := by decide +kernel
theorem dX12_changes_51 : decode cX12_changes 51 = .ok (.getfield 399, 3) := by decide +kernel
theorem dX12_changes_54 : decode cX12_changes 54 = .ok (.iload 4, 2) := by decide +kernel
theorem dX12_changes_56 : decode cX12_changes 56 = .ok (.if_icmp .eq 13, 3) := by decide +kernel
theorem dX12_changes_59 : decode cX12_changes 59 = .ok (.iload_n 3, 1) := by decide +kernel
theorem dX12_changes_60 : decode cX12_changes 60 = .ok (.ifCond .ne 6, 3) := by decide +kernel
theorem dX12_changes_63 : decode cX12_changes 63 = .ok (.iload 5, 2) := by decide +kernel
theorem dX12_changes_65 : decode cX12_changes 65 = .ok (.ireturn, 1) := by decide +kernel
theorem dX12_changes_66 : decode cX12_changes 66 = .ok (.iinc 3 (-1), 3) := by decide +kernel
theorem dX12_changes_69 : decode cX12_changes 69 = .ok (.aload_n 0, 1) := by decide +kernel
theorem dX12_changes_70 : decode cX12_changes 70 = .ok (.getfield 399, 3) := by decide +kernel
theorem dX12_changes_73 : decode cX12_changes 73 = .ok (.istore 4, 2) := by decide +kernel
theorem dX12_changes_75 : decode cX12_changes 75 = .ok (.iinc 5 1, 3) := by decide +kernel
theorem dX12_changes_78 : decode cX12_changes 78 = .ok (.goto (-42), 3) := by decide +kernel
theorem dX12_changes_81 : decode cX12_changes 81 = .ok (.iconst (-1), 1) := by decide +kernel
theorem dX12_changes_82 : decode cX12_changes 82 = .ok (.ireturn, 1) := by decide +kernel
theorem dX12_ruling_0 : decode cX12_ruling 0 = .ok (.aload_n 0, 1) := by decide +kernel
theorem dX12_ruling_1 : decode cX12_ruling 1 = .ok (.iconst 0, 1) := by decide +kernel
theorem dX12_ruling_2 : decode cX12_ruling 2 = .ok (.putfield 1, 3) := by decide +kernel
theorem dX12_ruling_5 : decode cX12_ruling 5 = .ok (.aload_n 0, 1) := by decide +kernel
theorem dX12_ruling_6 : decode cX12_ruling 6 = .ok (.iload_n 1, 1) := by decide +kernel
theorem dX12_ruling_7 : decode cX12_ruling 7 = .ok (.invokevirtual 362, 3) := by decide +kernel
theorem dX12_ruling_10 : decode cX12_ruling 10 = .ok (.ifCond .eq 12, 3) := by decide +kernel
theorem dX12_ruling_13 : decode cX12_ruling 13 = .ok (.aload_n 0, 1) := by decide +kernel
theorem dX12_ruling_14 : decode cX12_ruling 14 = .ok (.getfield 420, 3) := by decide +kernel
theorem dX12_ruling_17 : decode cX12_ruling 17 = .ok (.bipush 80, 2) := by decide +kernel
theorem dX12_ruling_19 : decode cX12_ruling 19 = .ok (.if_icmp .ne 5, 3) := by decide +kernel
theorem dX12_ruling_22 : decode cX12_ruling 22 = .ok (.iconst 0, 1) := by decide +kernel
theorem dX12_ruling_23 : decode cX12_ruling 23 = .ok (.ireturn, 1) := by decide +kernel
theorem dX12_ruling_24 : decode cX12_ruling 24 = .ok (.aload_n 0, 1) := by decide +kernel
theorem dX12_ruling_25 : decode cX12_ruling 25 = .ok (.getfield 157, 3) := by decide +kernel
theorem dX12_ruling_28 : decode cX12_ruling 28 = .ok (.aload_n 0, 1) := by decide +kernel
theorem dX12_ruling_29 : decode cX12_ruling 29 = .ok (.getfield 420, 3) := by decide +kernel
theorem dX12_ruling_32 : decode cX12_ruling 32 = .ok (.iload_n 1, 1) := by decide +kernel
theorem dX12_ruling_33 : decode cX12_ruling 33 = .ok (.iastore, 1) := by decide +kernel
theorem dX12_ruling_34 : decode cX12_ruling 34 = .ok (.aload_n 0, 1) := by decide +kernel
theorem dX12_ruling_35 : decode cX12_ruling 35 = .ok (.getfield 160, 3) := by decide +kernel
theorem dX12_ruling_38 : decode cX12_ruling 38 = .ok (.aload_n 0, 1) := by decide +kernel
theorem dX12_ruling_39 : decode cX12_ruling 39 = .ok (.getfield 420, 3) := by decide +kernel
theorem dX12_ruling_42 : decode cX12_ruling 42 = .ok (.iload_n 2, 1) := by decide +kernel
theorem dX12_ruling_43 : decode cX12_ruling 43 = .ok (.bastore, 1) := by decide +kernel
theorem dX12_ruling_44 : decode cX12_ruling 44 = .ok (.aload_n 0, 1) := by decide +kernel
theorem dX12_ruling_45 : decode cX12_ruling 45 = .ok (.getfield 164, 3) := by decide +kernel
theorem dX12_ruling_48 : decode cX12_ruling 48 = .ok (.aload_n 0, 1) := by decide +kernel
theorem dX12_ruling_49 : decode cX12_ruling 49 = .ok (.getfield 420, 3) := by decide +kernel
theorem dX12_ruling_52 : decode cX12_ruling 52 = .ok (.aload_n 0, 1) := by decide +kernel
theorem dX12_ruling_53 : decode cX12_ruling 53 = .ok (.getfield 296, 3) := by decide +kernel
theorem dX12_ruling_56 : decode cX12_ruling 56 = .ok (.iastore, 1) := by decide +kernel
theorem dX12_ruling_57 : decode cX12_ruling 57 = .ok (.aload_n 0, 1) := by decide +kernel
theorem dX12_ruling_58 : decode cX12_ruling 58 = .ok (.dup, 1) := by decide +kernel
theorem dX12_ruling_59 : decode cX12_ruling 59 = .ok (.getfield 420, 3) := by decide +kernel
theorem dX12_ruling_62 : decode cX12_ruling 62 = .ok (.iconst 1, 1) := by decide +kernel
theorem dX12_ruling_63 : decode cX12_ruling 63 = .ok (.iadd, 1) := by decide +kernel
theorem dX12_ruling_64 : decode cX12_ruling 64 = .ok (.putfield 420, 3) := by decide +kernel
theorem dX12_ruling_67 : decode cX12_ruling 67 = .ok (.iconst 1, 1) := by decide +kernel
theorem dX12_ruling_68 : decode cX12_ruling 68 = .ok (.ireturn, 1) := by decide +kernel
theorem dX12_has_0 : decode cX12_has 0 = .ok (.iload_n 0, 1) := by decide +kernel
theorem dX12_has_1 : decode cX12_has 1 = .ok (.iload_n 1, 1) := by decide +kernel
theorem dX12_has_2 : decode cX12_has 2 = .ok (.bipush 8, 2) := by decide +kernel
theorem dX12_has_4 : decode cX12_has 4 = .ok (.irem, 1) := by decide +kernel
theorem dX12_has_5 : decode cX12_has 5 = .ok (.ishr, 1) := by decide +kernel
theorem dX12_has_6 : decode cX12_has 6 = .ok (.iconst 1, 1) := by decide +kernel
theorem dX12_has_7 : decode cX12_has 7 = .ok (.iand, 1) := by decide +kernel
theorem dX12_has_8 : decode cX12_has 8 = .ok (.iload_n 1, 1) := by decide +kernel
theorem dX12_has_9 : decode cX12_has 9 = .ok (.bipush 8, 2) := by decide +kernel
theorem dX12_has_11 : decode cX12_has 11 = .ok (.if_icmp .ge 7, 3) := by decide +kernel
theorem dX12_has_14 : decode cX12_has 14 = .ok (.iconst 1, 1) := by decide +kernel
theorem dX12_has_15 : decode cX12_has 15 = .ok (.goto 4, 3) := by decide +kernel
theorem dX12_has_18 : decode cX12_has 18 = .ok (.iconst 0, 1) := by decide +kernel
theorem dX12_has_19 : decode cX12_has 19 = .ok (.if_icmp .ne 7, 3) := by decide +kernel
theorem dX12_has_22 : decode cX12_has 22 = .ok (.iconst 1, 1) := by decide +kernel
theorem dX12_has_23 : decode cX12_has 23 = .ok (.goto 4, 3) := by decide +kernel
theorem dX12_has_26 : decode cX12_has 26 = .ok (.iconst 0, 1) := by decide +kernel
theorem dX12_has_27 : decode cX12_has 27 = .ok (.ireturn, 1) := by decide +kernel
theorem dX12_isSo_0 : decode cX12_isSo 0 = .ok (.iload_n 2, 1) := by decide +kernel
theorem dX12_isSo_1 : decode cX12_isSo 1 = .ok (.aload_n 0, 1) := by decide +kernel
theorem dX12_isSo_2 : decode cX12_isSo 2 = .ok (.getfield 170, 3) := by decide +kernel
theorem dX12_isSo_5 : decode cX12_isSo 5 = .ok (.iload_n 1, 1) := by decide +kernel
theorem dX12_isSo_6 : decode cX12_isSo 6 = .ok (.iaload, 1) := by decide +kernel
theorem dX12_isSo_7 : decode cX12_isSo 7 = .ok (.invokestatic 423, 3) := by decide +kernel
theorem dX12_isSo_10 : decode cX12_isSo 10 = .ok (.ifCond .eq 20, 3) := by decide +kernel
theorem dX12_isSo_13 : decode cX12_isSo 13 = .ok (.iload_n 2, 1) := by decide +kernel
theorem dX12_isSo_14 : decode cX12_isSo 14 = .ok (.aload_n 0, 1) := by decide +kernel
theorem dX12_isSo_15 : decode cX12_isSo 15 = .ok (.getfield 173, 3) := by decide +kernel
theorem dX12_isSo_18 : decode cX12_isSo 18 = .ok (.iload_n 1, 1) := by decide +kernel
theorem dX12_isSo_19 : decode cX12_isSo 19 = .ok (.iaload, 1) := by decide +kernel
theorem dX12_isSo_20 : decode cX12_isSo 20 = .ok (.invokestatic 423, 3) := by decide +kernel
theorem dX12_isSo_23 : decode cX12_isSo 23 = .ok (.ifCond .eq 7, 3) := by decide +kernel
theorem dX12_isSo_26 : decode cX12_isSo 26 = .ok (.iconst 1, 1) := by decide +kernel
theorem dX12_isSo_27 : decode cX12_isSo 27 = .ok (.goto 4, 3) := by decide +kernel
theorem dX12_isSo_30 : decode cX12_isSo 30 = .ok (.iconst 0, 1) := by decide +kernel
theorem dX12_isSo_31 : decode cX12_isSo 31 = .ok (.ireturn, 1) := by decide +kernel
theorem dX12_findSigns_0 : decode cX12_findSigns 0 = .ok (.iconst 0, 1) := by decide +kernel
theorem dX12_findSigns_1 : decode cX12_findSigns 1 = .ok (.istore_n 1, 1) := by decide +kernel
theorem dX12_findSigns_2 : decode cX12_findSigns 2 = .ok (.iload_n 1, 1) := by decide +kernel
theorem dX12_findSigns_3 : decode cX12_findSigns 3 = .ok (.aload_n 0, 1) := by decide +kernel
theorem dX12_findSigns_4 : decode cX12_findSigns 4 = .ok (.getfield 359, 3) := by decide +kernel
theorem dX12_findSigns_7 : decode cX12_findSigns 7 = .ok (.if_icmp .ge 20, 3) := by decide +kernel
theorem dX12_findSigns_10 : decode cX12_findSigns 10 = .ok (.aload_n 0, 1) := by decide +kernel
theorem dX12_findSigns_11 : decode cX12_findSigns 11 = .ok (.getfield 167, 3) := by decide +kernel
theorem dX12_findSigns_14 : decode cX12_findSigns 14 = .ok (.iload_n 1, 1) := by decide +kernel
theorem dX12_findSigns_15 : decode cX12_findSigns 15 = .ok (.aload_n 0, 1) := by decide +kernel
theorem dX12_findSigns_16 : decode cX12_findSigns 16 = .ok (.iload_n 1, 1) := by decide +kernel
theorem dX12_findSigns_17 : decode cX12_findSigns 17 = .ok (.invokevirtual 393, 3) := by decide +kernel
theorem dX12_findSigns_20 : decode cX12_findSigns 20 = .ok (.iastore, 1) := by decide +kernel
theorem dX12_findSigns_21 : decode cX12_findSigns 21 = .ok (.iinc 1 1, 3) := by decide +kernel
theorem dX12_findSigns_24 : decode cX12_findSigns 24 = .ok (.goto (-22), 3) := by decide +kernel
theorem dX12_findSigns_27 : decode cX12_findSigns 27 = .ok (.iconst 0, 1) := by decide +kernel
theorem dX12_findSigns_28 : decode cX12_findSigns 28 = .ok (.istore_n 1, 1) := by decide +kernel
theorem dX12_findSigns_29 : decode cX12_findSigns 29 = .ok (.iconst 0, 1) := by decide +kernel
theorem dX12_findSigns_30 : decode cX12_findSigns 30 = .ok (.istore_n 2, 1) := by decide +kernel
theorem dX12_findSigns_31 : decode cX12_findSigns 31 = .ok (.iload_n 2, 1) := by decide +kernel
theorem dX12_findSigns_32 : decode cX12_findSigns 32 = .ok (.bipush 16, 2) := by decide +kernel
theorem dX12_findSigns_34 : decode cX12_findSigns 34 = .ok (.if_icmp .ge 56, 3) := by decide +kernel
theorem dX12_findSigns_37 : decode cX12_findSigns 37 = .ok (.iload_n 2, 1) := by decide +kernel
theorem dX12_findSigns_38 : decode cX12_findSigns 38 = .ok (.istore_n 3, 1) := by decide +kernel
theorem dX12_findSigns_39 : decode cX12_findSigns 39 = .ok (.iload_n 3, 1) := by decide +kernel
theorem dX12_findSigns_40 : decode cX12_findSigns 40 = .ok (.bipush 16, 2) := by decide +kernel
theorem dX12_findSigns_42 : decode cX12_findSigns 42 = .ok (.if_icmp .ge 42, 3) := by decide +kernel
theorem dX12_findSigns_45 : decode cX12_findSigns 45 = .ok (.iload_n 2, 1) := by decide +kernel
theorem dX12_findSigns_46 : decode cX12_findSigns 46 = .ok (.iload_n 3, 1) := by decide +kernel
theorem dX12_findSigns_47 : decode cX12_findSigns 47 = .ok (.if_icmp .eq 14, 3) := by decide +kernel
theorem dX12_findSigns_50 : decode cX12_findSigns 50 = .ok (.iload_n 2, 1) := by decide +kernel
theorem dX12_findSigns_51 : decode cX12_findSigns 51 = .ok (.bipush 8, 2) := by decide +kernel
theorem dX12_findSigns_53 : decode cX12_findSigns 53 = .ok (.irem, 1) := by decide +kernel
theorem dX12_findSigns_54 : decode cX12_findSigns 54 = .ok (.iload_n 3, 1) := by decide +kernel
theorem dX12_findSigns_55 : decode cX12_findSigns 55 = .ok (.bipush 8, 2) := by decide +kernel
theorem dX12_findSigns_57 : decode cX12_findSigns 57 = .ok (.irem, 1) := by decide +kernel
theorem dX12_findSigns_58 : decode cX12_findSigns 58 = .ok (.if_icmp .eq 20, 3) := by decide +kernel
theorem dX12_findSigns_61 : decode cX12_findSigns 61 = .ok (.aload_n 0, 1) := by decide +kernel
theorem dX12_findSigns_62 : decode cX12_findSigns 62 = .ok (.getfield 170, 3) := by decide +kernel
theorem dX12_findSigns_65 : decode cX12_findSigns 65 = .ok (.iload_n 1, 1) := by decide +kernel
theorem dX12_findSigns_66 : decode cX12_findSigns 66 = .ok (.iload_n 2, 1) := by decide +kernel
theorem dX12_findSigns_67 : decode cX12_findSigns 67 = .ok (.iastore, 1) := by decide +kernel
theorem dX12_findSigns_68 : decode cX12_findSigns 68 = .ok (.aload_n 0, 1) := by decide +kernel
theorem dX12_findSigns_69 : decode cX12_findSigns 69 = .ok (.getfield 173, 3) := by decide +kernel
theorem dX12_findSigns_72 : decode cX12_findSigns 72 = .ok (.iload_n 1, 1) := by decide +kernel
theorem dX12_findSigns_73 : decode cX12_findSigns 73 = .ok (.iload_n 3, 1) := by decide +kernel
theorem dX12_findSigns_74 : decode cX12_findSigns 74 = .ok (.iastore, 1) := by decide +kernel
theorem dX12_findSigns_75 : decode cX12_findSigns 75 = .ok (.iinc 1 1, 3) := by decide +kernel
theorem dX12_findSigns_78 : decode cX12_findSigns 78 = .ok (.iinc 3 1, 3) := by decide +kernel
theorem dX12_findSigns_81 : decode cX12_findSigns 81 = .ok (.goto (-42), 3) := by decide +kernel
theorem dX12_findSigns_84 : decode cX12_findSigns 84 = .ok (.iinc 2 1, 3) := by decide +kernel
theorem dX12_findSigns_87 : decode cX12_findSigns 87 = .ok (.goto (-56), 3) := by decide +kernel
theorem dX12_findSigns_90 : decode cX12_findSigns 90 = .ok (.return_, 1) := by decide +kernel
theorem dX12_findCustoms_0 : decode cX12_findCustoms 0 = .ok (.iconst 0, 1) := by decide +kernel
theorem dX12_findCustoms_1 : decode cX12_findCustoms 1 = .ok (.istore_n 2, 1) := by decide +kernel
theorem dX12_findCustoms_2 : decode cX12_findCustoms 2 = .ok (.iconst 0, 1) := by decide +kernel
theorem dX12_findCustoms_3 : decode cX12_findCustoms 3 = .ok (.istore_n 3, 1) := by decide +kernel
theorem dX12_findCustoms_4 : decode cX12_findCustoms 4 = .ok (.iload_n 3, 1) := by decide +kernel
theorem dX12_findCustoms_5 : decode cX12_findCustoms 5 = .ok (.sipush 128, 3) := by decide +kernel
theorem dX12_findCustoms_8 : decode cX12_findCustoms 8 = .ok (.if_icmp .ge 103, 3) := by decide +kernel
theorem dX12_findCustoms_11 : decode cX12_findCustoms 11 = .ok (.aload_n 0, 1) := by decide +kernel
theorem dX12_findCustoms_12 : decode cX12_findCustoms 12 = .ok (.getfield 176, 3) := by decide +kernel
theorem dX12_findCustoms_15 : decode cX12_findCustoms 15 = .ok (.iload_n 3, 1) := by decide +kernel
theorem dX12_findCustoms_16 : decode cX12_findCustoms 16 = .ok (.iconst 1, 1) := by decide +kernel
theorem dX12_findCustoms_17 : decode cX12_findCustoms 17 = .ok (.bastore, 1) := by decide +kernel
theorem dX12_findCustoms_18 : decode cX12_findCustoms 18 = .ok (.iconst 0, 1) := by decide +kernel
theorem dX12_findCustoms_19 : decode cX12_findCustoms 19 = .ok (.istore 4, 2) := by decide +kernel
theorem dX12_findCustoms_21 : decode cX12_findCustoms 21 = .ok (.iload 4, 2) := by decide +kernel
theorem dX12_findCustoms_23 : decode cX12_findCustoms 23 = .ok (.aload_n 0, 1) := by decide +kernel
theorem dX12_findCustoms_24 : decode cX12_findCustoms 24 = .ok (.getfield 420, 3) := by decide +kernel
theorem dX12_findCustoms_27 : decode cX12_findCustoms 27 = .ok (.if_icmp .ge 61, 3) := by decide +kernel
theorem dX12_findCustoms_30 : decode cX12_findCustoms 30 = .ok (.aload_n 0, 1) := by decide +kernel
theorem dX12_findCustoms_31 : decode cX12_findCustoms 31 = .ok (.getfield 164, 3) := by decide +kernel
theorem dX12_findCustoms_34 : decode cX12_findCustoms 34 = .ok (.iload 4, 2) := by decide +kernel
theorem dX12_findCustoms_36 : decode cX12_findCustoms 36 = .ok (.iaload, 1) := by decide +kernel
theorem dX12_findCustoms_37 : decode cX12_findCustoms 37 = .ok (.iload_n 1, 1) := by decide +kernel
theorem dX12_findCustoms_38 : decode cX12_findCustoms 38 = .ok (.aload_n 0, 1) := by decide +kernel
theorem dX12_findCustoms_39 : decode cX12_findCustoms 39 = .ok (.invokevirtual 396, 3) := by decide +kernel
theorem dX12_findCustoms_42 : decode cX12_findCustoms 42 = .ok (.invokestatic 352, 3) := by decide +kernel
theorem dX12_findCustoms_45 : decode cX12_findCustoms 45 = .ok (.ifCond .eq 37, 3) := by decide +kernel
theorem dX12_findCustoms_48 : decode cX12_findCustoms 48 = .ok (.aload_n 0, 1) := by decide +kernel
theorem dX12_findCustoms_49 : decode cX12_findCustoms 49 = .ok (.iload_n 3, 1) := by decide +kernel
theorem dX12_findCustoms_50 : decode cX12_findCustoms 50 = .ok (.aload_n 0, 1) := by decide +kernel
theorem dX12_findCustoms_51 : decode cX12_findCustoms 51 = .ok (.getfield 167, 3) := by decide +kernel
theorem dX12_findCustoms_54 : decode cX12_findCustoms 54 = .ok (.aload_n 0, 1) := by decide +kernel
theorem dX12_findCustoms_55 : decode cX12_findCustoms 55 = .ok (.getfield 157, 3) := by decide +kernel
theorem dX12_findCustoms_58 : decode cX12_findCustoms 58 = .ok (.iload 4, 2) := by decide +kernel
theorem dX12_findCustoms_60 : decode cX12_findCustoms 60 = .ok (.iaload, 1) := by decide +kernel
theorem dX12_findCustoms_61 : decode cX12_findCustoms 61 = .ok (.iaload, 1) := by decide +kernel
theorem dX12_findCustoms_62 : decode cX12_findCustoms 62 = .ok (.invokevirtual 427, 3) := by decide +kernel
theorem dX12_findCustoms_65 : decode cX12_findCustoms 65 = .ok (.aload_n 0, 1) := by decide +kernel
theorem dX12_findCustoms_66 : decode cX12_findCustoms 66 = .ok (.getfield 160, 3) := by decide +kernel
theorem dX12_findCustoms_69 : decode cX12_findCustoms 69 = .ok (.iload 4, 2) := by decide +kernel
theorem dX12_findCustoms_71 : decode cX12_findCustoms 71 = .ok (.baload, 1) := by decide +kernel
theorem dX12_findCustoms_72 : decode cX12_findCustoms 72 = .ok (.if_icmp .eq 10, 3) := by decide +kernel
theorem dX12_findCustoms_75 : decode cX12_findCustoms 75 = .ok (.aload_n 0, 1) := by decide +kernel
theorem dX12_findCustoms_76 : decode cX12_findCustoms 76 = .ok (.getfield 176, 3) := by decide +kernel
theorem dX12_findCustoms_79 : decode cX12_findCustoms 79 = .ok (.iload_n 3, 1) := by decide +kernel
theorem dX12_findCustoms_80 : decode cX12_findCustoms 80 = .ok (.iconst 0, 1) := by decide +kernel
theorem dX12_findCustoms_81 : decode cX12_findCustoms 81 = .ok (.bastore, 1) := by decide +kernel
theorem dX12_findCustoms_82 : decode cX12_findCustoms 82 = .ok (.iinc 4 1, 3) := by decide +kernel
theorem dX12_findCustoms_85 : decode cX12_findCustoms 85 = .ok (.goto (-64), 3) := by decide +kernel
theorem dX12_findCustoms_88 : decode cX12_findCustoms 88 = .ok (.iload_n 2, 1) := by decide +kernel
theorem dX12_findCustoms_89 : decode cX12_findCustoms 89 = .ok (.aload_n 0, 1) := by decide +kernel
theorem dX12_findCustoms_90 : decode cX12_findCustoms 90 = .ok (.getfield 176, 3) := by decide +kernel
theorem dX12_findCustoms_93 : decode cX12_findCustoms 93 = .ok (.iload_n 3, 1) := by decide +kernel
theorem dX12_findCustoms_94 : decode cX12_findCustoms 94 = .ok (.baload, 1) := by decide +kernel
theorem dX12_findCustoms_95 : decode cX12_findCustoms 95 = .ok (.ifCond .eq 7, 3) := by decide +kernel
theorem dX12_findCustoms_98 : decode cX12_findCustoms 98 = .ok (.iconst 1, 1) := by decide +kernel
theorem dX12_findCustoms_99 : decode cX12_findCustoms 99 = .ok (.goto 4, 3) := by decide +kernel
theorem dX12_findCustoms_102 : decode cX12_findCustoms 102 = .ok (.iconst 0, 1) := by decide +kernel
theorem dX12_findCustoms_103 : decode cX12_findCustoms 103 = .ok (.iadd, 1) := by decide +kernel
theorem dX12_findCustoms_104 : decode cX12_findCustoms 104 = .ok (.istore_n 2, 1) := by decide +kernel
theorem dX12_findCustoms_105 : decode cX12_findCustoms 105 = .ok (.iinc 3 1, 3) := by decide +kernel
theorem dX12_findCustoms_108 : decode cX12_findCustoms 108 = .ok (.goto (-104), 3) := by decide +kernel
theorem dX12_findCustoms_111 : decode cX12_findCustoms 111 = .ok (.iload_n 2, 1) := by decide +kernel
theorem dX12_findCustoms_112 : decode cX12_findCustoms 112 = .ok (.ireturn, 1) := by decide +kernel
theorem dX12_customs_0 : decode cX12_customs 0 = .ok (.aload_n 0, 1) := by decide +kernel
theorem dX12_customs_1 : decode cX12_customs 1 = .ok (.iconst 0, 1) := by decide +kernel
theorem dX12_customs_2 : decode cX12_customs 2 = .ok (.putfield 1, 3) := by decide +kernel
theorem dX12_customs_5 : decode cX12_customs 5 = .ok (.iload_n 1, 1) := by decide +kernel
theorem dX12_customs_6 : decode cX12_customs 6 = .ok (.invokestatic 356, 3) := by decide +kernel
theorem dX12_customs_9 : decode cX12_customs 9 = .ok (.ifCond .ne 5, 3) := by decide +kernel
theorem dX12_customs_12 : decode cX12_customs 12 = .ok (.iconst (-1), 1) := by decide +kernel
theorem dX12_customs_13 : decode cX12_customs 13 = .ok (.ireturn, 1) := by decide +kernel
theorem dX12_customs_14 : decode cX12_customs 14 = .ok (.aload_n 0, 1) := by decide +kernel
theorem dX12_customs_15 : decode cX12_customs 15 = .ok (.invokevirtual 430, 3) := by decide +kernel
theorem dX12_customs_18 : decode cX12_customs 18 = .ok (.aload_n 0, 1) := by decide +kernel
theorem dX12_customs_19 : decode cX12_customs 19 = .ok (.iload_n 1, 1) := by decide +kernel
theorem dX12_customs_20 : decode cX12_customs 20 = .ok (.invokevirtual 433, 3) := by decide +kernel
theorem dX12_customs_23 : decode cX12_customs 23 = .ok (.ireturn, 1) := by decide +kernel
theorem dX12_held_0 : decode cX12_held 0 = .ok (.aload_n 0, 1) := by decide +kernel
theorem dX12_held_1 : decode cX12_held 1 = .ok (.iconst 0, 1) := by decide +kernel
theorem dX12_held_2 : decode cX12_held 2 = .ok (.putfield 1, 3) := by decide +kernel
theorem dX12_held_5 : decode cX12_held 5 = .ok (.aload_n 0, 1) := by decide +kernel
theorem dX12_held_6 : decode cX12_held 6 = .ok (.iload_n 1, 1) := by decide +kernel
theorem dX12_held_7 : decode cX12_held 7 = .ok (.invokevirtual 362, 3) := by decide +kernel
theorem dX12_held_10 : decode cX12_held 10 = .ok (.ifCond .eq 10, 3) := by decide +kernel
theorem dX12_held_13 : decode cX12_held 13 = .ok (.iload_n 2, 1) := by decide +kernel
theorem dX12_held_14 : decode cX12_held 14 = .ok (.invokestatic 356, 3) := by decide +kernel
theorem dX12_held_17 : decode cX12_held 17 = .ok (.ifCond .ne 5, 3) := by decide +kernel
theorem dX12_held_20 : decode cX12_held 20 = .ok (.iconst (-1), 1) := by decide +kernel
theorem dX12_held_21 : decode cX12_held 21 = .ok (.ireturn, 1) := by decide +kernel
theorem dX12_held_22 : decode cX12_held 22 = .ok (.aload_n 0, 1) := by decide +kernel
theorem dX12_held_23 : decode cX12_held 23 = .ok (.invokevirtual 430, 3) := by decide +kernel
theorem dX12_held_26 : decode cX12_held 26 = .ok (.aload_n 0, 1) := by decide +kernel
theorem dX12_held_27 : decode cX12_held 27 = .ok (.iload_n 2, 1) := by decide +kernel
theorem dX12_held_28 : decode cX12_held 28 = .ok (.invokevirtual 433, 3) := by decide +kernel
theorem dX12_held_31 : decode cX12_held 31 = .ok (.ifCond .ne 5, 3) := by decide +kernel
theorem dX12_held_34 : decode cX12_held 34 = .ok (.iconst (-1), 1) := by decide +kernel
theorem dX12_held_35 : decode cX12_held 35 = .ok (.ireturn, 1) := by decide +kernel
theorem dX12_held_36 : decode cX12_held 36 = .ok (.iconst 1, 1) := by decide +kernel
theorem dX12_held_37 : decode cX12_held 37 = .ok (.istore_n 3, 1) := by decide +kernel
theorem dX12_held_38 : decode cX12_held 38 = .ok (.iconst 0, 1) := by decide +kernel
theorem dX12_held_39 : decode cX12_held 39 = .ok (.istore 4, 2) := by decide +kernel
theorem dX12_held_41 : decode cX12_held 41 = .ok (.iconst 0, 1) := by decide +kernel
theorem dX12_held_42 : decode cX12_held 42 = .ok (.istore 5, 2) := by decide +kernel
theorem dX12_held_44 : decode cX12_held 44 = .ok (.iload 5, 2) := by decide +kernel
theorem dX12_held_46 : decode cX12_held 46 = .ok (.sipush 128, 3) := by decide +kernel
theorem dX12_held_49 : decode cX12_held 49 = .ok (.if_icmp .ge 71, 3) := by decide +kernel
theorem dX12_held_52 : decode cX12_held 52 = .ok (.aload_n 0, 1) := by decide +kernel
theorem dX12_held_53 : decode cX12_held 53 = .ok (.getfield 176, 3) := by decide +kernel
theorem dX12_held_56 : decode cX12_held 56 = .ok (.iload 5, 2) := by decide +kernel
theorem dX12_held_58 : decode cX12_held 58 = .ok (.baload, 1) := by decide +kernel
theorem dX12_held_59 : decode cX12_held 59 = .ok (.ifCond .eq 55, 3) := by decide +kernel
theorem dX12_held_62 : decode cX12_held 62 = .ok (.iload_n 3, 1) := by decide +kernel
theorem dX12_held_63 : decode cX12_held 63 = .ok (.ifCond .eq 22, 3) := by decide +kernel
theorem dX12_held_66 : decode cX12_held 66 = .ok (.aload_n 0, 1) := by decide +kernel
theorem dX12_held_67 : decode cX12_held 67 = .ok (.iload 5, 2) := by decide +kernel
theorem dX12_held_69 : decode cX12_held 69 = .ok (.aload_n 0, 1) := by decide +kernel
theorem dX12_held_70 : decode cX12_held 70 = .ok (.getfield 167, 3) := by decide +kernel
theorem dX12_held_73 : decode cX12_held 73 = .ok (.iload_n 1, 1) := by decide +kernel
theorem dX12_held_74 : decode cX12_held 74 = .ok (.iaload, 1) := by decide +kernel
theorem dX12_held_75 : decode cX12_held 75 = .ok (.invokevirtual 427, 3) := by decide +kernel
theorem dX12_held_78 : decode cX12_held 78 = .ok (.ifCond .eq 7, 3) := by decide +kernel
theorem dX12_held_81 : decode cX12_held 81 = .ok (.iconst 1, 1) := by decide +kernel
theorem dX12_held_82 : decode cX12_held 82 = .ok (.goto 4, 3) := by decide +kernel
theorem dX12_held_85 : decode cX12_held 85 = .ok (.iconst 0, 1) := by decide +kernel
theorem dX12_held_86 : decode cX12_held 86 = .ok (.istore_n 3, 1) := by decide +kernel
theorem dX12_held_87 : decode cX12_held 87 = .ok (.iload 4, 2) := by decide +kernel
theorem dX12_held_89 : decode cX12_held 89 = .ok (.ifCond .ne 18, 3) := by decide +kernel
theorem dX12_held_92 : decode cX12_held 92 = .ok (.aload_n 0, 1) := by decide +kernel
theorem dX12_held_93 : decode cX12_held 93 = .ok (.iload 5, 2) := by decide +kernel
theorem dX12_held_95 : decode cX12_held 95 = .ok (.aload_n 0, 1) := by decide +kernel
theorem dX12_held_96 : decode cX12_held 96 = .ok (.getfield 167, 3) := by decide +kernel
theorem dX12_held_99 : decode cX12_held 99 = .ok (.iload_n 1, 1) := by decide +kernel
theorem dX12_held_100 : decode cX12_held 100 = .ok (.iaload, 1) := by decide +kernel
theorem dX12_held_101 : decode cX12_held 101 = .ok (.invokevirtual 427, 3) := by decide +kernel
theorem dX12_held_104 : decode cX12_held 104 = .ok (.ifCond .eq 7, 3) := by decide +kernel
theorem dX12_held_107 : decode cX12_held 107 = .ok (.iconst 1, 1) := by decide +kernel
theorem dX12_held_108 : decode cX12_held 108 = .ok (.goto 4, 3) := by decide +kernel
theorem dX12_held_111 : decode cX12_held 111 = .ok (.iconst 0, 1) := by decide +kernel
theorem dX12_held_112 : decode cX12_held 112 = .ok (.istore 4, 2) := by decide +kernel
theorem dX12_held_114 : decode cX12_held 114 = .ok (.iinc 5 1, 3) := by decide +kernel
theorem dX12_held_117 : decode cX12_held 117 = .ok (.goto (-73), 3) := by decide +kernel
theorem dX12_held_120 : decode cX12_held 120 = .ok (.iload_n 3, 1) := by decide +kernel
theorem dX12_held_121 : decode cX12_held 121 = .ok (.ifCond .eq 7, 3) := by decide +kernel
theorem dX12_held_124 : decode cX12_held 124 = .ok (.iconst 2, 1) := by decide +kernel
theorem dX12_held_125 : decode cX12_held 125 = .ok (.goto 13, 3) := by decide +kernel
theorem dX12_held_128 : decode cX12_held 128 = .ok (.iload 4, 2) := by decide +kernel
theorem dX12_held_130 : decode cX12_held 130 = .ok (.ifCond .eq 7, 3) := by decide +kernel
theorem dX12_held_133 : decode cX12_held 133 = .ok (.iconst 1, 1) := by decide +kernel
theorem dX12_held_134 : decode cX12_held 134 = .ok (.goto 4, 3) := by decide +kernel
theorem dX12_held_137 : decode cX12_held 137 = .ok (.iconst 0, 1) := by decide +kernel
theorem dX12_held_138 : decode cX12_held 138 = .ok (.ireturn, 1) := by decide +kernel
theorem dX12_since_0 : decode cX12_since 0 = .ok (.aload_n 0, 1) := by decide +kernel
theorem dX12_since_1 : decode cX12_since 1 = .ok (.iconst 0, 1) := by decide +kernel
theorem dX12_since_2 : decode cX12_since 2 = .ok (.putfield 1, 3) := by decide +kernel
theorem dX12_since_5 : decode cX12_since 5 = .ok (.iload_n 1, 1) := by decide +kernel
theorem dX12_since_6 : decode cX12_since 6 = .ok (.iconst 0, 1) := by decide +kernel
theorem dX12_since_7 : decode cX12_since 7 = .ok (.bipush 15, 2) := by decide +kernel
theorem dX12_since_9 : decode cX12_since 9 = .ok (.invokestatic 352, 3) := by decide +kernel
theorem dX12_since_12 : decode cX12_since 12 = .ok (.ifCond .ne 5, 3) := by decide +kernel
theorem dX12_since_15 : decode cX12_since 15 = .ok (.iconst (-1), 1) := by decide +kernel
theorem dX12_since_16 : decode cX12_since 16 = .ok (.ireturn, 1) := by decide +kernel
theorem dX12_since_17 : decode cX12_since 17 = .ok (.aload_n 0, 1) := by decide +kernel
theorem dX12_since_18 : decode cX12_since 18 = .ok (.invokevirtual 430, 3) := by decide +kernel
theorem dX12_since_21 : decode cX12_since 21 = .ok (.iconst 0, 1) := by decide +kernel
theorem dX12_since_22 : decode cX12_since 22 = .ok (.istore_n 2, 1) := by decide +kernel
theorem dX12_since_23 : decode cX12_since 23 = .ok (.iload_n 2, 1) := by decide +kernel
theorem dX12_since_24 : decode cX12_since 24 = .ok (.aload_n 0, 1) := by decide +kernel
theorem dX12_since_25 : decode cX12_since 25 = .ok (.invokevirtual 396, 3) := by decide +kernel
theorem dX12_since_28 : decode cX12_since 28 = .ok (.if_icmp .gt 144, 3) := by decide +kernel
theorem dX12_since_31 : decode cX12_since 31 = .ok (.iconst 0, 1) := by decide +kernel
theorem dX12_since_32 : decode cX12_since 32 = .ok (.istore_n 3, 1) := by decide +kernel
theorem dX12_since_33 : decode cX12_since 33 = .ok (.iconst 0, 1) := by decide +kernel
theorem dX12_since_34 : decode cX12_since 34 = .ok (.istore 4, 2) := by decide +kernel
theorem dX12_since_36 : decode cX12_since 36 = .ok (.iload 4, 2) := by decide +kernel
theorem dX12_since_38 : decode cX12_since 38 = .ok (.aload_n 0, 1) := by decide +kernel
theorem dX12_since_39 : decode cX12_since 39 = .ok (.getfield 420, 3) := by decide +kernel
theorem dX12_since_42 : decode cX12_since 42 = .ok (.if_icmp .ge 37, 3) := by decide +kernel
theorem dX12_since_45 : decode cX12_since 45 = .ok (.iload_n 3, 1) := by decide +kernel
theorem dX12_since_46 : decode cX12_since 46 = .ok (.ifCond .ne 21, 3) := by decide +kernel
theorem dX12_since_49 : decode cX12_since 49 = .ok (.aload_n 0, 1) := by decide +kernel
theorem dX12_since_50 : decode cX12_since 50 = .ok (.getfield 164, 3) := by decide +kernel
theorem dX12_since_53 : decode cX12_since 53 = .ok (.iload 4, 2) := by decide +kernel
theorem dX12_since_55 : decode cX12_since 55 = .ok (.iaload, 1) := by decide +kernel
theorem dX12_since_56 : decode cX12_since 56 = .ok (.iload_n 2, 1) := by decide +kernel
theorem dX12_since_57 : decode cX12_since 57 = .ok (.aload_n 0, 1) := by decide +kernel
theorem dX12_since_58 : decode cX12_since 58 = .ok (.invokevirtual 396, 3) := by decide +kernel
theorem dX12_since_61 : decode cX12_since 61 = .ok (.invokestatic 352, 3) := by decide +kernel
theorem dX12_since_64 : decode cX12_since 64 = .ok (.ifCond .eq 7, 3) := by decide +kernel
theorem dX12_since_67 : decode cX12_since 67 = .ok (.iconst 1, 1) := by decide +kernel
theorem dX12_since_68 : decode cX12_since 68 = .ok (.goto 4, 3) := by decide +kernel
theorem dX12_since_71 : decode cX12_since 71 = .ok (.iconst 0, 1) := by decide +kernel
theorem dX12_since_72 : decode cX12_since 72 = .ok (.istore_n 3, 1) := by decide +kernel
theorem dX12_since_73 : decode cX12_since 73 = .ok (.iinc 4 1, 3) := by decide +kernel
theorem dX12_since_76 : decode cX12_since 76 = .ok (.goto (-40), 3) := by decide +kernel
theorem dX12_since_79 : decode cX12_since 79 = .ok (.iload_n 3, 1) := by decide +kernel
theorem dX12_since_80 : decode cX12_since 80 = .ok (.ifCond .eq 15, 3) := by decide +kernel
theorem dX12_since_83 : decode cX12_since 83 = .ok (.aload_n 0, 1) := by decide +kernel
theorem dX12_since_84 : decode cX12_since 84 = .ok (.iload_n 2, 1) := by decide +kernel
theorem dX12_since_85 : decode cX12_since 85 = .ok (.invokevirtual 433, 3) := by decide +kernel
theorem dX12_since_88 : decode cX12_since 88 = .ok (.ifCond .le 7, 3) := by decide +kernel
theorem dX12_since_91 : decode cX12_since 91 = .ok (.iconst 1, 1) := by decide +kernel
theorem dX12_since_92 : decode cX12_since 92 = .ok (.goto 4, 3) := by decide +kernel
theorem dX12_since_95 : decode cX12_since 95 = .ok (.iconst 0, 1) := by decide +kernel
theorem dX12_since_96 : decode cX12_since 96 = .ok (.istore 4, 2) := by decide +kernel
theorem dX12_since_98 : decode cX12_since 98 = .ok (.iconst 0, 1) := by decide +kernel
theorem dX12_since_99 : decode cX12_since 99 = .ok (.istore 5, 2) := by decide +kernel
theorem dX12_since_101 : decode cX12_since 101 = .ok (.iload 5, 2) := by decide +kernel
theorem dX12_since_103 : decode cX12_since 103 = .ok (.sipush 128, 3) := by decide +kernel
theorem dX12_since_106 : decode cX12_since 106 = .ok (.if_icmp .ge 53, 3) := by decide +kernel
theorem dX12_since_109 : decode cX12_since 109 = .ok (.iload 4, 2) := by decide +kernel
theorem dX12_since_111 : decode cX12_since 111 = .ok (.ifCond .eq 48, 3) := by decide +kernel
theorem dX12_since_114 : decode cX12_since 114 = .ok (.aload_n 0, 1) := by decide +kernel
theorem dX12_since_115 : decode cX12_since 115 = .ok (.getfield 176, 3) := by decide +kernel
theorem dX12_since_118 : decode cX12_since 118 = .ok (.iload 5, 2) := by decide +kernel
theorem dX12_since_120 : decode cX12_since 120 = .ok (.baload, 1) := by decide +kernel
theorem dX12_since_121 : decode cX12_since 121 = .ok (.ifCond .eq 25, 3) := by decide +kernel
theorem dX12_since_124 : decode cX12_since 124 = .ok (.aload_n 0, 1) := by decide +kernel
theorem dX12_since_125 : decode cX12_since 125 = .ok (.getfield 170, 3) := by decide +kernel
theorem dX12_since_128 : decode cX12_since 128 = .ok (.iload 5, 2) := by decide +kernel
theorem dX12_since_130 : decode cX12_since 130 = .ok (.iaload, 1) := by decide +kernel
theorem dX12_since_131 : decode cX12_since 131 = .ok (.iload_n 1, 1) := by decide +kernel
theorem dX12_since_132 : decode cX12_since 132 = .ok (.if_icmp .eq 14, 3) := by decide +kernel
theorem dX12_since_135 : decode cX12_since 135 = .ok (.aload_n 0, 1) := by decide +kernel
theorem dX12_since_136 : decode cX12_since 136 = .ok (.getfield 173, 3) := by decide +kernel
theorem dX12_since_139 : decode cX12_since 139 = .ok (.iload 5, 2) := by decide +kernel
theorem dX12_since_141 : decode cX12_since 141 = .ok (.iaload, 1) := by decide +kernel
theorem dX12_since_142 : decode cX12_since 142 = .ok (.iload_n 1, 1) := by decide +kernel
theorem dX12_since_143 : decode cX12_since 143 = .ok (.if_icmp .ne 7, 3) := by decide +kernel
theorem dX12_since_146 : decode cX12_since 146 = .ok (.iconst 1, 1) := by decide +kernel
theorem dX12_since_147 : decode cX12_since 147 = .ok (.goto 4, 3) := by decide +kernel
theorem dX12_since_150 : decode cX12_since 150 = .ok (.iconst 0, 1) := by decide +kernel
theorem dX12_since_151 : decode cX12_since 151 = .ok (.istore 4, 2) := by decide +kernel
theorem dX12_since_153 : decode cX12_since 153 = .ok (.iinc 5 1, 3) := by decide +kernel
theorem dX12_since_156 : decode cX12_since 156 = .ok (.goto (-55), 3) := by decide +kernel
theorem dX12_since_159 : decode cX12_since 159 = .ok (.iload 4, 2) := by decide +kernel
theorem dX12_since_161 : decode cX12_since 161 = .ok (.ifCond .eq 5, 3) := by decide +kernel
theorem dX12_since_164 : decode cX12_since 164 = .ok (.iload_n 2, 1) := by decide +kernel
theorem dX12_since_165 : decode cX12_since 165 = .ok (.ireturn, 1) := by decide +kernel
theorem dX12_since_166 : decode cX12_since 166 = .ok (.iinc 2 1, 3) := by decide +kernel
theorem dX12_since_169 : decode cX12_since 169 = .ok (.goto (-146), 3) := by decide +kernel
theorem dX12_since_172 : decode cX12_since 172 = .ok (.iconst (-1), 1) := by decide +kernel
theorem dX12_since_173 : decode cX12_since 173 = .ok (.ireturn, 1) := by decide +kernel
theorem dX12_isStreamNumber_0 : decode cX12_isStreamNumber 0 = .ok (.iload_n 0, 1) := by decide +kernel
theorem dX12_isStreamNumber_1 : decode cX12_isStreamNumber 1 = .ok (.iconst 0, 1) := by decide +kernel
theorem dX12_isStreamNumber_2 : decode cX12_isStreamNumber 2 = .ok (.iconst 3, 1) := by decide +kernel
theorem dX12_isStreamNumber_3 : decode cX12_isStreamNumber 3 = .ok (.invokestatic 352, 3) := by decide +kernel
theorem dX12_isStreamNumber_6 : decode cX12_isStreamNumber 6 = .ok (.ireturn, 1) := by decide +kernel
theorem dX12_stream_0 : decode cX12_stream 0 = .ok (.aload_n 0, 1) := by decide +kernel
theorem dX12_stream_1 : decode cX12_stream 1 = .ok (.iconst 0, 1) := by decide +kernel
theorem dX12_stream_2 : decode cX12_stream 2 = .ok (.putfield 1, 3) := by decide +kernel
theorem dX12_stream_5 : decode cX12_stream 5 = .ok (.iload_n 2, 1) := by decide +kernel
theorem dX12_stream_6 : decode cX12_stream 6 = .ok (.ifCond .eq 23, 3) := by decide +kernel
theorem dX12_stream_9 : decode cX12_stream 9 = .ok (.iload_n 2, 1) := by decide +kernel
theorem dX12_stream_10 : decode cX12_stream 10 = .ok (.iconst 1, 1) := by decide +kernel
theorem dX12_stream_11 : decode cX12_stream 11 = .ok (.bipush 99, 2) := by decide +kernel
theorem dX12_stream_13 : decode cX12_stream 13 = .ok (.invokestatic 352, 3) := by decide +kernel
theorem dX12_stream_16 : decode cX12_stream 16 = .ok (.ifCond .eq 17, 3) := by decide +kernel
theorem dX12_stream_19 : decode cX12_stream 19 = .ok (.iload_n 3, 1) := by decide +kernel
theorem dX12_stream_20 : decode cX12_stream 20 = .ok (.iconst 1, 1) := by decide +kernel
theorem dX12_stream_21 : decode cX12_stream 21 = .ok (.bipush 60, 2) := by decide +kernel
theorem dX12_stream_23 : decode cX12_stream 23 = .ok (.invokestatic 352, 3) := by decide +kernel
theorem dX12_stream_26 : decode cX12_stream 26 = .ok (.ifCond .eq 7, 3) := by decide +kernel
theorem dX12_stream_29 : decode cX12_stream 29 = .ok (.iconst 1, 1) := by decide +kernel
theorem dX12_stream_30 : decode cX12_stream 30 = .ok (.goto 4, 3) := by decide +kernel
theorem dX12_stream_33 : decode cX12_stream 33 = .ok (.iconst 0, 1) := by decide +kernel
theorem dX12_stream_34 : decode cX12_stream 34 = .ok (.istore 6, 2) := by decide +kernel
theorem dX12_stream_36 : decode cX12_stream 36 = .ok (.iload_n 1, 1) := by decide +kernel
theorem dX12_stream_37 : decode cX12_stream 37 = .ok (.invokestatic 436, 3) := by decide +kernel
theorem dX12_stream_40 : decode cX12_stream 40 = .ok (.ifCond .eq 31, 3) := by decide +kernel
theorem dX12_stream_43 : decode cX12_stream 43 = .ok (.iload 6, 2) := by decide +kernel
theorem dX12_stream_45 : decode cX12_stream 45 = .ok (.ifCond .eq 26, 3) := by decide +kernel
theorem dX12_stream_48 : decode cX12_stream 48 = .ok (.iload 4, 2) := by decide +kernel
theorem dX12_stream_50 : decode cX12_stream 50 = .ok (.iconst 1, 1) := by decide +kernel
theorem dX12_stream_51 : decode cX12_stream 51 = .ok (.bipush 60, 2) := by decide +kernel
theorem dX12_stream_53 : decode cX12_stream 53 = .ok (.invokestatic 352, 3) := by decide +kernel
theorem dX12_stream_56 : decode cX12_stream 56 = .ok (.ifCond .eq 15, 3) := by decide +kernel
theorem dX12_stream_59 : decode cX12_stream 59 = .ok (.iload 5, 2) := by decide +kernel
theorem dX12_stream_61 : decode cX12_stream 61 = .ok (.iconst 0, 1) := by decide +kernel
theorem dX12_stream_62 : decode cX12_stream 62 = .ok (.sipush 999, 3) := by decide +kernel
theorem dX12_stream_65 : decode cX12_stream 65 = .ok (.invokestatic 352, 3) := by decide +kernel
theorem dX12_stream_68 : decode cX12_stream 68 = .ok (.ifCond .ne 5, 3) := by decide +kernel
theorem dX12_stream_71 : decode cX12_stream 71 = .ok (.iconst 0, 1) := by decide +kernel
theorem dX12_stream_72 : decode cX12_stream 72 = .ok (.ireturn, 1) := by decide +kernel
theorem dX12_stream_73 : decode cX12_stream 73 = .ok (.aload_n 0, 1) := by decide +kernel
theorem dX12_stream_74 : decode cX12_stream 74 = .ok (.getfield 179, 3) := by decide +kernel
theorem dX12_stream_77 : decode cX12_stream 77 = .ok (.iload_n 1, 1) := by decide +kernel
theorem dX12_stream_78 : decode cX12_stream 78 = .ok (.iconst 1, 1) := by decide +kernel
theorem dX12_stream_79 : decode cX12_stream 79 = .ok (.bastore, 1) := by decide +kernel
theorem dX12_stream_80 : decode cX12_stream 80 = .ok (.aload_n 0, 1) := by decide +kernel
theorem dX12_stream_81 : decode cX12_stream 81 = .ok (.getfield 182, 3) := by decide +kernel
theorem dX12_stream_84 : decode cX12_stream 84 = .ok (.iload_n 1, 1) := by decide +kernel
theorem dX12_stream_85 : decode cX12_stream 85 = .ok (.iload_n 2, 1) := by decide +kernel
theorem dX12_stream_86 : decode cX12_stream 86 = .ok (.iastore, 1) := by decide +kernel
theorem dX12_stream_87 : decode cX12_stream 87 = .ok (.aload_n 0, 1) := by decide +kernel
theorem dX12_stream_88 : decode cX12_stream 88 = .ok (.getfield 185, 3) := by decide +kernel
theorem dX12_stream_91 : decode cX12_stream 91 = .ok (.iload_n 1, 1) := by decide +kernel
theorem dX12_stream_92 : decode cX12_stream 92 = .ok (.iload_n 3, 1) := by decide +kernel
theorem dX12_stream_93 : decode cX12_stream 93 = .ok (.iastore, 1) := by decide +kernel
theorem dX12_stream_94 : decode cX12_stream 94 = .ok (.aload_n 0, 1) := by decide +kernel
theorem dX12_stream_95 : decode cX12_stream 95 = .ok (.getfield 188, 3) := by decide +kernel
theorem dX12_stream_98 : decode cX12_stream 98 = .ok (.iload_n 1, 1) := by decide +kernel
theorem dX12_stream_99 : decode cX12_stream 99 = .ok (.iload 4, 2) := by decide +kernel
theorem dX12_stream_101 : decode cX12_stream 101 = .ok (.iastore, 1) := by decide +kernel
theorem dX12_stream_102 : decode cX12_stream 102 = .ok (.aload_n 0, 1) := by decide +kernel
theorem dX12_stream_103 : decode cX12_stream 103 = .ok (.getfield 191, 3) := by decide +kernel
theorem dX12_stream_106 : decode cX12_stream 106 = .ok (.iload_n 1, 1) := by decide +kernel
theorem dX12_stream_107 : decode cX12_stream 107 = .ok (.iload 5, 2) := by decide +kernel
theorem dX12_stream_109 : decode cX12_stream 109 = .ok (.iastore, 1) := by decide +kernel
theorem dX12_stream_110 : decode cX12_stream 110 = .ok (.iconst 1, 1) := by decide +kernel
theorem dX12_stream_111 : decode cX12_stream 111 = .ok (.ireturn, 1) := by decide +kernel
theorem dX12_together_0 : decode cX12_together 0 = .ok (.aload_n 0, 1) := by decide +kernel
theorem dX12_together_1 : decode cX12_together 1 = .ok (.iconst 0, 1) := by decide +kernel
theorem dX12_together_2 : decode cX12_together 2 = .ok (.putfield 1, 3) := by decide +kernel
theorem dX12_together_5 : decode cX12_together 5 = .ok (.iload_n 1, 1) := by decide +kernel
theorem dX12_together_6 : decode cX12_together 6 = .ok (.invokestatic 436, 3) := by decide +kernel
theorem dX12_together_9 : decode cX12_together 9 = .ok (.ifCond .eq 15, 3) := by decide +kernel
theorem dX12_together_12 : decode cX12_together 12 = .ok (.iload_n 2, 1) := by decide +kernel
theorem dX12_together_13 : decode cX12_together 13 = .ok (.invokestatic 436, 3) := by decide +kernel
theorem dX12_together_16 : decode cX12_together 16 = .ok (.ifCond .eq 8, 3) := by decide +kernel
theorem dX12_together_19 : decode cX12_together 19 = .ok (.iload_n 1, 1) := by decide +kernel
theorem dX12_together_20 : decode cX12_together 20 = .ok (.iload_n 2, 1) := by decide +kernel
theorem dX12_together_21 : decode cX12_together 21 = .ok (.if_icmp .ne 5, 3) := by decide +kernel
theorem dX12_together_24 : decode cX12_together 24 = .ok (.iconst 0, 1) := by decide +kernel
theorem dX12_together_25 : decode cX12_together 25 = .ok (.ireturn, 1) := by decide +kernel
theorem dX12_together_26 : decode cX12_together 26 = .ok (.aload_n 0, 1) := by decide +kernel
theorem dX12_together_27 : decode cX12_together 27 = .ok (.getfield 194, 3) := by decide +kernel
theorem dX12_together_30 : decode cX12_together 30 = .ok (.iconst 4, 1) := by decide +kernel
theorem dX12_together_31 : decode cX12_together 31 = .ok (.iload_n 1, 1) := by decide +kernel
theorem dX12_together_32 : decode cX12_together 32 = .ok (.imul, 1) := by decide +kernel
theorem dX12_together_33 : decode cX12_together 33 = .ok (.iload_n 2, 1) := by decide +kernel
theorem dX12_together_34 : decode cX12_together 34 = .ok (.iadd, 1) := by decide +kernel
theorem dX12_together_35 : decode cX12_together 35 = .ok (.iload_n 3, 1) := by decide +kernel
theorem dX12_together_36 : decode cX12_together 36 = .ok (.bastore, 1) := by decide +kernel
theorem dX12_together_37 : decode cX12_together 37 = .ok (.aload_n 0, 1) := by decide +kernel
theorem dX12_together_38 : decode cX12_together 38 = .ok (.getfield 194, 3) := by decide +kernel
theorem dX12_together_41 : decode cX12_together 41 = .ok (.iconst 4, 1) := by decide +kernel
theorem dX12_together_42 : decode cX12_together 42 = .ok (.iload_n 2, 1) := by decide +kernel
theorem dX12_together_43 : decode cX12_together 43 = .ok (.imul, 1) := by decide +kernel
theorem dX12_together_44 : decode cX12_together 44 = .ok (.iload_n 1, 1) := by decide +kernel
theorem dX12_together_45 : decode cX12_together 45 = .ok (.iadd, 1) := by decide +kernel
theorem dX12_together_46 : decode cX12_together 46 = .ok (.iload_n 3, 1) := by decide +kernel
theorem dX12_together_47 : decode cX12_together 47 = .ok (.bastore, 1) := by decide +kernel
theorem dX12_together_48 : decode cX12_together 48 = .ok (.iconst 1, 1) := by decide +kernel
theorem dX12_together_49 : decode cX12_together 49 = .ok (.ireturn, 1) := by decide +kernel
theorem dX12_needOf_0 : decode cX12_needOf 0 = .ok (.aload_n 0, 1) := by decide +kernel
theorem dX12_needOf_1 : decode cX12_needOf 1 = .ok (.getfield 182, 3) := by decide +kernel
theorem dX12_needOf_4 : decode cX12_needOf 4 = .ok (.iload_n 1, 1) := by decide +kernel
theorem dX12_needOf_5 : decode cX12_needOf 5 = .ok (.iaload, 1) := by decide +kernel
theorem dX12_needOf_6 : decode cX12_needOf 6 = .ok (.ifCond .ne 7, 3) := by decide +kernel
theorem dX12_needOf_9 : decode cX12_needOf 9 = .ok (.iconst 0, 1) := by decide +kernel
theorem dX12_needOf_10 : decode cX12_needOf 10 = .ok (.goto 21, 3) := by decide +kernel
theorem dX12_needOf_13 : decode cX12_needOf 13 = .ok (.bipush 10, 2) := by decide +kernel
theorem dX12_needOf_15 : decode cX12_needOf 15 = .ok (.aload_n 0, 1) := by decide +kernel
theorem dX12_needOf_16 : decode cX12_needOf 16 = .ok (.getfield 182, 3) := by decide +kernel
theorem dX12_needOf_19 : decode cX12_needOf 19 = .ok (.iload_n 1, 1) := by decide +kernel
theorem dX12_needOf_20 : decode cX12_needOf 20 = .ok (.iaload, 1) := by decide +kernel
theorem dX12_needOf_21 : decode cX12_needOf 21 = .ok (.imul, 1) := by decide +kernel
theorem dX12_needOf_22 : decode cX12_needOf 22 = .ok (.aload_n 0, 1) := by decide +kernel
theorem dX12_needOf_23 : decode cX12_needOf 23 = .ok (.getfield 185, 3) := by decide +kernel
theorem dX12_needOf_26 : decode cX12_needOf 26 = .ok (.iload_n 1, 1) := by decide +kernel
theorem dX12_needOf_27 : decode cX12_needOf 27 = .ok (.iaload, 1) := by decide +kernel
theorem dX12_needOf_28 : decode cX12_needOf 28 = .ok (.invokestatic 378, 3) := by decide +kernel
theorem dX12_needOf_31 : decode cX12_needOf 31 = .ok (.istore_n 2, 1) := by decide +kernel
theorem dX12_needOf_32 : decode cX12_needOf 32 = .ok (.iload_n 2, 1) := by decide +kernel
theorem dX12_needOf_33 : decode cX12_needOf 33 = .ok (.aload_n 0, 1) := by decide +kernel
theorem dX12_needOf_34 : decode cX12_needOf 34 = .ok (.getfield 188, 3) := by decide +kernel
theorem dX12_needOf_37 : decode cX12_needOf 37 = .ok (.iload_n 1, 1) := by decide +kernel
theorem dX12_needOf_38 : decode cX12_needOf 38 = .ok (.iaload, 1) := by decide +kernel
theorem dX12_needOf_39 : decode cX12_needOf 39 = .ok (.if_icmp .le 7, 3) := by decide +kernel
theorem dX12_needOf_42 : decode cX12_needOf 42 = .ok (.iload_n 2, 1) := by decide +kernel
theorem dX12_needOf_43 : decode cX12_needOf 43 = .ok (.goto 9, 3) := by decide +kernel
theorem dX12_needOf_46 : decode cX12_needOf 46 = .ok (.aload_n 0, 1) := by decide +kernel
theorem dX12_needOf_47 : decode cX12_needOf 47 = .ok (.getfield 188, 3) := by decide +kernel
theorem dX12_needOf_50 : decode cX12_needOf 50 = .ok (.iload_n 1, 1) := by decide +kernel
theorem dX12_needOf_51 : decode cX12_needOf 51 = .ok (.iaload, 1) := by decide +kernel
theorem dX12_needOf_52 : decode cX12_needOf 52 = .ok (.ireturn, 1) := by decide +kernel
theorem dX12_phaseOf_0 : decode cX12_phaseOf 0 = .ok (.iload_n 0, 1) := by decide +kernel
theorem dX12_phaseOf_1 : decode cX12_phaseOf 1 = .ok (.iconst 2, 1) := by decide +kernel
theorem dX12_phaseOf_2 : decode cX12_phaseOf 2 = .ok (.iload_n 1, 1) := by decide +kernel
theorem dX12_phaseOf_3 : decode cX12_phaseOf 3 = .ok (.imul, 1) := by decide +kernel
theorem dX12_phaseOf_4 : decode cX12_phaseOf 4 = .ok (.ishr, 1) := by decide +kernel
theorem dX12_phaseOf_5 : decode cX12_phaseOf 5 = .ok (.iconst 3, 1) := by decide +kernel
theorem dX12_phaseOf_6 : decode cX12_phaseOf 6 = .ok (.iand, 1) := by decide +kernel
theorem dX12_phaseOf_7 : decode cX12_phaseOf 7 = .ok (.ireturn, 1) := by decide +kernel
theorem dX12_arePhases_0 : decode cX12_arePhases 0 = .ok (.iconst 0, 1) := by decide +kernel
theorem dX12_arePhases_1 : decode cX12_arePhases 1 = .ok (.istore_n 2, 1) := by decide +kernel
theorem dX12_arePhases_2 : decode cX12_arePhases 2 = .ok (.iconst 0, 1) := by decide +kernel
theorem dX12_arePhases_3 : decode cX12_arePhases 3 = .ok (.istore_n 3, 1) := by decide +kernel
theorem dX12_arePhases_4 : decode cX12_arePhases 4 = .ok (.iload_n 3, 1) := by decide +kernel
theorem dX12_arePhases_5 : decode cX12_arePhases 5 = .ok (.iconst 4, 1) := by decide +kernel
theorem dX12_arePhases_6 : decode cX12_arePhases 6 = .ok (.if_icmp .ge 106, 3) := by decide +kernel
theorem dX12_arePhases_9 : decode cX12_arePhases 9 = .ok (.iload_n 1, 1) := by decide +kernel
theorem dX12_arePhases_10 : decode cX12_arePhases 10 = .ok (.iload_n 3, 1) := by decide +kernel
theorem dX12_arePhases_11 : decode cX12_arePhases 11 = .ok (.invokestatic 439, 3) := by decide +kernel
theorem dX12_arePhases_14 : decode cX12_arePhases 14 = .ok (.istore 4, 2) := by decide +kernel
theorem dX12_arePhases_16 : decode cX12_arePhases 16 = .ok (.aload_n 0, 1) := by decide +kernel
theorem dX12_arePhases_17 : decode cX12_arePhases 17 = .ok (.getfield 179, 3) := by decide +kernel
theorem dX12_arePhases_20 : decode cX12_arePhases 20 = .ok (.iload_n 3, 1) := by decide +kernel
theorem dX12_arePhases_21 : decode cX12_arePhases 21 = .ok (.baload, 1) := by decide +kernel
theorem dX12_arePhases_22 : decode cX12_arePhases 22 = .ok (.ifCond .ne 10, 3) := by decide +kernel
theorem dX12_arePhases_25 : decode cX12_arePhases 25 = .ok (.iload 4, 2) := by decide +kernel
theorem dX12_arePhases_27 : decode cX12_arePhases 27 = .ok (.ifCond .eq 79, 3) := by decide +kernel
theorem dX12_arePhases_30 : decode cX12_arePhases 30 = .ok (.iconst 0, 1) := by decide +kernel
theorem dX12_arePhases_31 : decode cX12_arePhases 31 = .ok (.ireturn, 1) := by decide +kernel
theorem dX12_arePhases_32 : decode cX12_arePhases 32 = .ok (.iload 4, 2) := by decide +kernel
theorem dX12_arePhases_34 : decode cX12_arePhases 34 = .ok (.iload_n 2, 1) := by decide +kernel
theorem dX12_arePhases_35 : decode cX12_arePhases 35 = .ok (.if_icmp .le 5, 3) := by decide +kernel
theorem dX12_arePhases_38 : decode cX12_arePhases 38 = .ok (.iconst 0, 1) := by decide +kernel
theorem dX12_arePhases_39 : decode cX12_arePhases 39 = .ok (.ireturn, 1) := by decide +kernel
theorem dX12_arePhases_40 : decode cX12_arePhases 40 = .ok (.iload 4, 2) := by decide +kernel
theorem dX12_arePhases_42 : decode cX12_arePhases 42 = .ok (.iload_n 2, 1) := by decide +kernel
theorem dX12_arePhases_43 : decode cX12_arePhases 43 = .ok (.if_icmp .ne 9, 3) := by decide +kernel
theorem dX12_arePhases_46 : decode cX12_arePhases 46 = .ok (.iload_n 2, 1) := by decide +kernel
theorem dX12_arePhases_47 : decode cX12_arePhases 47 = .ok (.iconst 1, 1) := by decide +kernel
theorem dX12_arePhases_48 : decode cX12_arePhases 48 = .ok (.iadd, 1) := by decide +kernel
theorem dX12_arePhases_49 : decode cX12_arePhases 49 = .ok (.goto 4, 3) := by decide +kernel
theorem dX12_arePhases_52 : decode cX12_arePhases 52 = .ok (.iload_n 2, 1) := by decide +kernel
theorem dX12_arePhases_53 : decode cX12_arePhases 53 = .ok (.istore_n 2, 1) := by decide +kernel
theorem dX12_arePhases_54 : decode cX12_arePhases 54 = .ok (.iconst 0, 1) := by decide +kernel
theorem dX12_arePhases_55 : decode cX12_arePhases 55 = .ok (.istore 5, 2) := by decide +kernel
theorem dX12_arePhases_57 : decode cX12_arePhases 57 = .ok (.iload 5, 2) := by decide +kernel
theorem dX12_arePhases_59 : decode cX12_arePhases 59 = .ok (.iload_n 3, 1) := by decide +kernel
theorem dX12_arePhases_60 : decode cX12_arePhases 60 = .ok (.if_icmp .ge 46, 3) := by decide +kernel
theorem dX12_arePhases_63 : decode cX12_arePhases 63 = .ok (.aload_n 0, 1) := by decide +kernel
theorem dX12_arePhases_64 : decode cX12_arePhases 64 = .ok (.getfield 179, 3) := by decide +kernel
theorem dX12_arePhases_67 : decode cX12_arePhases 67 = .ok (.iload 5, 2) := by decide +kernel
theorem dX12_arePhases_69 : decode cX12_arePhases 69 = .ok (.baload, 1) := by decide +kernel
theorem dX12_arePhases_70 : decode cX12_arePhases 70 = .ok (.ifCond .eq 30, 3) := by decide +kernel
theorem dX12_arePhases_73 : decode cX12_arePhases 73 = .ok (.iload_n 1, 1) := by decide +kernel
theorem dX12_arePhases_74 : decode cX12_arePhases 74 = .ok (.iload 5, 2) := by decide +kernel
theorem dX12_arePhases_76 : decode cX12_arePhases 76 = .ok (.invokestatic 439, 3) := by decide +kernel
theorem dX12_arePhases_79 : decode cX12_arePhases 79 = .ok (.iload 4, 2) := by decide +kernel
theorem dX12_arePhases_81 : decode cX12_arePhases 81 = .ok (.if_icmp .ne 19, 3) := by decide +kernel
theorem dX12_arePhases_84 : decode cX12_arePhases 84 = .ok (.aload_n 0, 1) := by decide +kernel
theorem dX12_arePhases_85 : decode cX12_arePhases 85 = .ok (.getfield 194, 3) := by decide +kernel
theorem dX12_arePhases_88 : decode cX12_arePhases 88 = .ok (.iconst 4, 1) := by decide +kernel
theorem dX12_arePhases_89 : decode cX12_arePhases 89 = .ok (.iload_n 3, 1) := by decide +kernel
theorem dX12_arePhases_90 : decode cX12_arePhases 90 = .ok (.imul, 1) := by decide +kernel
theorem dX12_arePhases_91 : decode cX12_arePhases 91 = .ok (.iload 5, 2) := by decide +kernel
theorem dX12_arePhases_93 : decode cX12_arePhases 93 = .ok (.iadd, 1) := by decide +kernel
theorem dX12_arePhases_94 : decode cX12_arePhases 94 = .ok (.baload, 1) := by decide +kernel
theorem dX12_arePhases_95 : decode cX12_arePhases 95 = .ok (.ifCond .ne 5, 3) := by decide +kernel
theorem dX12_arePhases_98 : decode cX12_arePhases 98 = .ok (.iconst 0, 1) := by decide +kernel
theorem dX12_arePhases_99 : decode cX12_arePhases 99 = .ok (.ireturn, 1) := by decide +kernel
theorem dX12_arePhases_100 : decode cX12_arePhases 100 = .ok (.iinc 5 1, 3) := by decide +kernel
theorem dX12_arePhases_103 : decode cX12_arePhases 103 = .ok (.goto (-46), 3) := by decide +kernel
theorem dX12_arePhases_106 : decode cX12_arePhases 106 = .ok (.iinc 3 1, 3) := by decide +kernel
theorem dX12_arePhases_109 : decode cX12_arePhases 109 = .ok (.goto (-105), 3) := by decide +kernel
theorem dX12_arePhases_112 : decode cX12_arePhases 112 = .ok (.iload_n 2, 1) := by decide +kernel
theorem dX12_arePhases_113 : decode cX12_arePhases 113 = .ok (.ifCond .le 7, 3) := by decide +kernel
theorem dX12_arePhases_116 : decode cX12_arePhases 116 = .ok (.iconst 1, 1) := by decide +kernel
theorem dX12_arePhases_117 : decode cX12_arePhases 117 = .ok (.goto 4, 3) := by decide +kernel
theorem dX12_arePhases_120 : decode cX12_arePhases 120 = .ok (.iconst 0, 1) := by decide +kernel
theorem dX12_arePhases_121 : decode cX12_arePhases 121 = .ok (.ireturn, 1) := by decide +kernel
theorem dX12_roundOf_0 : decode cX12_roundOf 0 = .ok (.iconst 0, 1) := by decide +kernel
theorem dX12_roundOf_1 : decode cX12_roundOf 1 = .ok (.istore_n 3, 1) := by decide +kernel
theorem dX12_roundOf_2 : decode cX12_roundOf 2 = .ok (.iconst 0, 1) := by decide +kernel
theorem dX12_roundOf_3 : decode cX12_roundOf 3 = .ok (.istore 4, 2) := by decide +kernel
theorem dX12_roundOf_5 : decode cX12_roundOf 5 = .ok (.iload 4, 2) := by decide +kernel
theorem dX12_roundOf_7 : decode cX12_roundOf 7 = .ok (.iconst 4, 1) := by decide +kernel
theorem dX12_roundOf_8 : decode cX12_roundOf 8 = .ok (.if_icmp .ge 122, 3) := by decide +kernel
theorem dX12_roundOf_11 : decode cX12_roundOf 11 = .ok (.aload_n 0, 1) := by decide +kernel
theorem dX12_roundOf_12 : decode cX12_roundOf 12 = .ok (.getfield 197, 3) := by decide +kernel
theorem dX12_roundOf_15 : decode cX12_roundOf 15 = .ok (.iload 4, 2) := by decide +kernel
theorem dX12_roundOf_17 : decode cX12_roundOf 17 = .ok (.iconst 0, 1) := by decide +kernel
theorem dX12_roundOf_18 : decode cX12_roundOf 18 = .ok (.iastore, 1) := by decide +kernel
theorem dX12_roundOf_19 : decode cX12_roundOf 19 = .ok (.iconst 0, 1) := by decide +kernel
theorem dX12_roundOf_20 : decode cX12_roundOf 20 = .ok (.istore 5, 2) := by decide +kernel
theorem dX12_roundOf_22 : decode cX12_roundOf 22 = .ok (.iload 5, 2) := by decide +kernel
theorem dX12_roundOf_24 : decode cX12_roundOf 24 = .ok (.iconst 4, 1) := by decide +kernel
theorem dX12_roundOf_25 : decode cX12_roundOf 25 = .ok (.if_icmp .ge 73, 3) := by decide +kernel
theorem dX12_roundOf_28 : decode cX12_roundOf 28 = .ok (.aload_n 0, 1) := by decide +kernel
theorem dX12_roundOf_29 : decode cX12_roundOf 29 = .ok (.getfield 179, 3) := by decide +kernel
theorem dX12_roundOf_32 : decode cX12_roundOf 32 = .ok (.iload 5, 2) := by decide +kernel
theorem dX12_roundOf_34 : decode cX12_roundOf 34 = .ok (.baload, 1) := by decide +kernel
theorem dX12_roundOf_35 : decode cX12_roundOf 35 = .ok (.ifCond .eq 23, 3) := by decide +kernel
theorem dX12_roundOf_38 : decode cX12_roundOf 38 = .ok (.iload_n 1, 1) := by decide +kernel
theorem dX12_roundOf_39 : decode cX12_roundOf 39 = .ok (.iload 5, 2) := by decide +kernel
theorem dX12_roundOf_41 : decode cX12_roundOf 41 = .ok (.invokestatic 439, 3) := by decide +kernel
theorem dX12_roundOf_44 : decode cX12_roundOf 44 = .ok (.iload 4, 2) := by decide +kernel
theorem dX12_roundOf_46 : decode cX12_roundOf 46 = .ok (.if_icmp .ne 12, 3) := by decide +kernel
theorem dX12_roundOf_49 : decode cX12_roundOf 49 = .ok (.aload_n 0, 1) := by decide +kernel
theorem dX12_roundOf_50 : decode cX12_roundOf 50 = .ok (.iload 5, 2) := by decide +kernel
theorem dX12_roundOf_52 : decode cX12_roundOf 52 = .ok (.invokevirtual 442, 3) := by decide +kernel
theorem dX12_roundOf_55 : decode cX12_roundOf 55 = .ok (.goto 4, 3) := by decide +kernel
theorem dX12_roundOf_58 : decode cX12_roundOf 58 = .ok (.iconst 0, 1) := by decide +kernel
theorem dX12_roundOf_59 : decode cX12_roundOf 59 = .ok (.istore 6, 2) := by decide +kernel
theorem dX12_roundOf_61 : decode cX12_roundOf 61 = .ok (.aload_n 0, 1) := by decide +kernel
theorem dX12_roundOf_62 : decode cX12_roundOf 62 = .ok (.getfield 197, 3) := by decide +kernel
theorem dX12_roundOf_65 : decode cX12_roundOf 65 = .ok (.iload 4, 2) := by decide +kernel
theorem dX12_roundOf_67 : decode cX12_roundOf 67 = .ok (.iload 6, 2) := by decide +kernel
theorem dX12_roundOf_69 : decode cX12_roundOf 69 = .ok (.aload_n 0, 1) := by decide +kernel
theorem dX12_roundOf_70 : decode cX12_roundOf 70 = .ok (.getfield 197, 3) := by decide +kernel
theorem dX12_roundOf_73 : decode cX12_roundOf 73 = .ok (.iload 4, 2) := by decide +kernel
theorem dX12_roundOf_75 : decode cX12_roundOf 75 = .ok (.iaload, 1) := by decide +kernel
theorem dX12_roundOf_76 : decode cX12_roundOf 76 = .ok (.if_icmp .le 8, 3) := by decide +kernel
theorem dX12_roundOf_79 : decode cX12_roundOf 79 = .ok (.iload 6, 2) := by decide +kernel
theorem dX12_roundOf_81 : decode cX12_roundOf 81 = .ok (.goto 10, 3) := by decide +kernel
theorem dX12_roundOf_84 : decode cX12_roundOf 84 = .ok (.aload_n 0, 1) := by decide +kernel
theorem dX12_roundOf_85 : decode cX12_roundOf 85 = .ok (.getfield 197, 3) := by decide +kernel
theorem dX12_roundOf_88 : decode cX12_roundOf 88 = .ok (.iload 4, 2) := by decide +kernel
theorem dX12_roundOf_90 : decode cX12_roundOf 90 = .ok (.iaload, 1) := by decide +kernel
theorem dX12_roundOf_91 : decode cX12_roundOf 91 = .ok (.iastore, 1) := by decide +kernel
theorem dX12_roundOf_92 : decode cX12_roundOf 92 = .ok (.iinc 5 1, 3) := by decide +kernel
theorem dX12_roundOf_95 : decode cX12_roundOf 95 = .ok (.goto (-73), 3) := by decide +kernel
theorem dX12_roundOf_98 : decode cX12_roundOf 98 = .ok (.iload_n 3, 1) := by decide +kernel
theorem dX12_roundOf_99 : decode cX12_roundOf 99 = .ok (.aload_n 0, 1) := by decide +kernel
theorem dX12_roundOf_100 : decode cX12_roundOf 100 = .ok (.getfield 197, 3) := by decide +kernel
theorem dX12_roundOf_103 : decode cX12_roundOf 103 = .ok (.iload 4, 2) := by decide +kernel
theorem dX12_roundOf_105 : decode cX12_roundOf 105 = .ok (.iaload, 1) := by decide +kernel
theorem dX12_roundOf_106 : decode cX12_roundOf 106 = .ok (.ifCond .ne 7, 3) := by decide +kernel
theorem dX12_roundOf_109 : decode cX12_roundOf 109 = .ok (.iconst 0, 1) := by decide +kernel
theorem dX12_roundOf_110 : decode cX12_roundOf 110 = .ok (.goto 12, 3) := by decide +kernel
theorem dX12_roundOf_113 : decode cX12_roundOf 113 = .ok (.aload_n 0, 1) := by decide +kernel
theorem dX12_roundOf_114 : decode cX12_roundOf 114 = .ok (.getfield 197, 3) := by decide +kernel
theorem dX12_roundOf_117 : decode cX12_roundOf 117 = .ok (.iload 4, 2) := by decide +kernel
theorem dX12_roundOf_119 : decode cX12_roundOf 119 = .ok (.iaload, 1) := by decide +kernel
theorem dX12_roundOf_120 : decode cX12_roundOf 120 = .ok (.iload_n 2, 1) := by decide +kernel
theorem dX12_roundOf_121 : decode cX12_roundOf 121 = .ok (.iadd, 1) := by decide +kernel
theorem dX12_roundOf_122 : decode cX12_roundOf 122 = .ok (.iadd, 1) := by decide +kernel
theorem dX12_roundOf_123 : decode cX12_roundOf 123 = .ok (.istore_n 3, 1) := by decide +kernel
theorem dX12_roundOf_124 : decode cX12_roundOf 124 = .ok (.iinc 4 1, 3) := by decide +kernel
theorem dX12_roundOf_127 : decode cX12_roundOf 127 = .ok (.goto (-122), 3) := by decide +kernel
theorem dX12_roundOf_130 : decode cX12_roundOf 130 = .ok (.iload_n 3, 1) := by decide +kernel
theorem dX12_roundOf_131 : decode cX12_roundOf 131 = .ok (.ireturn, 1) := by decide +kernel
theorem dX12_waitingOf_0 : decode cX12_waitingOf 0 = .ok (.aload_n 0, 1) := by decide +kernel
theorem dX12_waitingOf_1 : decode cX12_waitingOf 1 = .ok (.getfield 191, 3) := by decide +kernel
theorem dX12_waitingOf_4 : decode cX12_waitingOf 4 = .ok (.iload_n 3, 1) := by decide +kernel
theorem dX12_waitingOf_5 : decode cX12_waitingOf 5 = .ok (.iaload, 1) := by decide +kernel
theorem dX12_waitingOf_6 : decode cX12_waitingOf 6 = .ok (.iload_n 2, 1) := by decide +kernel
theorem dX12_waitingOf_7 : decode cX12_waitingOf 7 = .ok (.aload_n 0, 1) := by decide +kernel
theorem dX12_waitingOf_8 : decode cX12_waitingOf 8 = .ok (.getfield 197, 3) := by decide +kernel
theorem dX12_waitingOf_11 : decode cX12_waitingOf 11 = .ok (.iload_n 1, 1) := by decide +kernel
theorem dX12_waitingOf_12 : decode cX12_waitingOf 12 = .ok (.iload_n 3, 1) := by decide +kernel
theorem dX12_waitingOf_13 : decode cX12_waitingOf 13 = .ok (.invokestatic 439, 3) := by decide +kernel
theorem dX12_waitingOf_16 : decode cX12_waitingOf 16 = .ok (.iaload, 1) := by decide +kernel
theorem dX12_waitingOf_17 : decode cX12_waitingOf 17 = .ok (.isub, 1) := by decide +kernel
theorem dX12_waitingOf_18 : decode cX12_waitingOf 18 = .ok (.imul, 1) := by decide +kernel
theorem dX12_waitingOf_19 : decode cX12_waitingOf 19 = .ok (.ireturn, 1) := by decide +kernel
theorem dX12_findLights_0 : decode cX12_findLights 0 = .ok (.aload_n 0, 1) := by decide +kernel
theorem dX12_findLights_1 : decode cX12_findLights 1 = .ok (.iconst (-1), 1) := by decide +kernel
theorem dX12_findLights_2 : decode cX12_findLights 2 = .ok (.putfield 445, 3) := by decide +kernel
theorem dX12_findLights_5 : decode cX12_findLights 5 = .ok (.iconst 0, 1) := by decide +kernel
theorem dX12_findLights_6 : decode cX12_findLights 6 = .ok (.istore_n 2, 1) := by decide +kernel
theorem dX12_findLights_7 : decode cX12_findLights 7 = .ok (.iload_n 2, 1) := by decide +kernel
theorem dX12_findLights_8 : decode cX12_findLights 8 = .ok (.sipush 256, 3) := by decide +kernel
theorem dX12_findLights_11 : decode cX12_findLights 11 = .ok (.if_icmp .ge 136, 3) := by decide +kernel
theorem dX12_findLights_14 : decode cX12_findLights 14 = .ok (.aload_n 0, 1) := by decide +kernel
theorem dX12_findLights_15 : decode cX12_findLights 15 = .ok (.iload_n 2, 1) := by decide +kernel
theorem dX12_findLights_16 : decode cX12_findLights 16 = .ok (.invokevirtual 448, 3) := by decide +kernel
theorem dX12_findLights_19 : decode cX12_findLights 19 = .ok (.ifCond .eq 122, 3) := by decide +kernel
theorem dX12_findLights_22 : decode cX12_findLights 22 = .ok (.aload_n 0, 1) := by decide +kernel
theorem dX12_findLights_23 : decode cX12_findLights 23 = .ok (.iload_n 2, 1) := by decide +kernel
theorem dX12_findLights_24 : decode cX12_findLights 24 = .ok (.iload_n 1, 1) := by decide +kernel
theorem dX12_findLights_25 : decode cX12_findLights 25 = .ok (.invokevirtual 451, 3) := by decide +kernel
theorem dX12_findLights_28 : decode cX12_findLights 28 = .ok (.istore_n 3, 1) := by decide +kernel
theorem dX12_findLights_29 : decode cX12_findLights 29 = .ok (.iconst 0, 1) := by decide +kernel
theorem dX12_findLights_30 : decode cX12_findLights 30 = .ok (.istore 4, 2) := by decide +kernel
theorem dX12_findLights_32 : decode cX12_findLights 32 = .ok (.iconst 0, 1) := by decide +kernel
theorem dX12_findLights_33 : decode cX12_findLights 33 = .ok (.istore 5, 2) := by decide +kernel
theorem dX12_findLights_35 : decode cX12_findLights 35 = .ok (.iload 5, 2) := by decide +kernel
theorem dX12_findLights_37 : decode cX12_findLights 37 = .ok (.iconst 4, 1) := by decide +kernel
theorem dX12_findLights_38 : decode cX12_findLights 38 = .ok (.if_icmp .ge 36, 3) := by decide +kernel
theorem dX12_findLights_41 : decode cX12_findLights 41 = .ok (.iload 4, 2) := by decide +kernel
theorem dX12_findLights_43 : decode cX12_findLights 43 = .ok (.aload_n 0, 1) := by decide +kernel
theorem dX12_findLights_44 : decode cX12_findLights 44 = .ok (.getfield 179, 3) := by decide +kernel
theorem dX12_findLights_47 : decode cX12_findLights 47 = .ok (.iload 5, 2) := by decide +kernel
theorem dX12_findLights_49 : decode cX12_findLights 49 = .ok (.baload, 1) := by decide +kernel
theorem dX12_findLights_50 : decode cX12_findLights 50 = .ok (.ifCond .eq 14, 3) := by decide +kernel
theorem dX12_findLights_53 : decode cX12_findLights 53 = .ok (.aload_n 0, 1) := by decide +kernel
theorem dX12_findLights_54 : decode cX12_findLights 54 = .ok (.iload_n 2, 1) := by decide +kernel
theorem dX12_findLights_55 : decode cX12_findLights 55 = .ok (.iload_n 3, 1) := by decide +kernel
theorem dX12_findLights_56 : decode cX12_findLights 56 = .ok (.iload 5, 2) := by decide +kernel
theorem dX12_findLights_58 : decode cX12_findLights 58 = .ok (.invokevirtual 454, 3) := by decide +kernel
theorem dX12_findLights_61 : decode cX12_findLights 61 = .ok (.goto 4, 3) := by decide +kernel
theorem dX12_findLights_64 : decode cX12_findLights 64 = .ok (.iconst 0, 1) := by decide +kernel
theorem dX12_findLights_65 : decode cX12_findLights 65 = .ok (.iadd, 1) := by decide +kernel
theorem dX12_findLights_66 : decode cX12_findLights 66 = .ok (.istore 4, 2) := by decide +kernel
theorem dX12_findLights_68 : decode cX12_findLights 68 = .ok (.iinc 5 1, 3) := by decide +kernel
theorem dX12_findLights_71 : decode cX12_findLights 71 = .ok (.goto (-36), 3) := by decide +kernel
theorem dX12_findLights_74 : decode cX12_findLights 74 = .ok (.aload_n 0, 1) := by decide +kernel
theorem dX12_findLights_75 : decode cX12_findLights 75 = .ok (.getfield 445, 3) := by decide +kernel
theorem dX12_findLights_78 : decode cX12_findLights 78 = .ok (.ifCond .lt 29, 3) := by decide +kernel
theorem dX12_findLights_81 : decode cX12_findLights 81 = .ok (.iload 4, 2) := by decide +kernel
theorem dX12_findLights_83 : decode cX12_findLights 83 = .ok (.aload_n 0, 1) := by decide +kernel
theorem dX12_findLights_84 : decode cX12_findLights 84 = .ok (.getfield 457, 3) := by decide +kernel
theorem dX12_findLights_87 : decode cX12_findLights 87 = .ok (.if_icmp .lt 20, 3) := by decide +kernel
theorem dX12_findLights_90 : decode cX12_findLights 90 = .ok (.iload 4, 2) := by decide +kernel
theorem dX12_findLights_92 : decode cX12_findLights 92 = .ok (.aload_n 0, 1) := by decide +kernel
theorem dX12_findLights_93 : decode cX12_findLights 93 = .ok (.getfield 457, 3) := by decide +kernel
theorem dX12_findLights_96 : decode cX12_findLights 96 = .ok (.if_icmp .ne 15, 3) := by decide +kernel
theorem dX12_findLights_99 : decode cX12_findLights 99 = .ok (.iload_n 3, 1) := by decide +kernel
theorem dX12_findLights_100 : decode cX12_findLights 100 = .ok (.aload_n 0, 1) := by decide +kernel
theorem dX12_findLights_101 : decode cX12_findLights 101 = .ok (.getfield 460, 3) := by decide +kernel
theorem dX12_findLights_104 : decode cX12_findLights 104 = .ok (.if_icmp .ge 7, 3) := by decide +kernel
theorem dX12_findLights_107 : decode cX12_findLights 107 = .ok (.iconst 1, 1) := by decide +kernel
theorem dX12_findLights_108 : decode cX12_findLights 108 = .ok (.goto 4, 3) := by decide +kernel
theorem dX12_findLights_111 : decode cX12_findLights 111 = .ok (.iconst 0, 1) := by decide +kernel
theorem dX12_findLights_112 : decode cX12_findLights 112 = .ok (.istore 5, 2) := by decide +kernel
theorem dX12_findLights_114 : decode cX12_findLights 114 = .ok (.iload_n 3, 1) := by decide +kernel
theorem dX12_findLights_115 : decode cX12_findLights 115 = .ok (.bipush 120, 2) := by decide +kernel
theorem dX12_findLights_117 : decode cX12_findLights 117 = .ok (.if_icmp .gt 24, 3) := by decide +kernel
theorem dX12_findLights_120 : decode cX12_findLights 120 = .ok (.iload 5, 2) := by decide +kernel
theorem dX12_findLights_122 : decode cX12_findLights 122 = .ok (.ifCond .eq 19, 3) := by decide +kernel
theorem dX12_findLights_125 : decode cX12_findLights 125 = .ok (.aload_n 0, 1) := by decide +kernel
theorem dX12_findLights_126 : decode cX12_findLights 126 = .ok (.iload_n 2, 1) := by decide +kernel
theorem dX12_findLights_127 : decode cX12_findLights 127 = .ok (.putfield 445, 3) := by decide +kernel
theorem dX12_findLights_130 : decode cX12_findLights 130 = .ok (.aload_n 0, 1) := by decide +kernel
theorem dX12_findLights_131 : decode cX12_findLights 131 = .ok (.iload_n 3, 1) := by decide +kernel
theorem dX12_findLights_132 : decode cX12_findLights 132 = .ok (.putfield 460, 3) := by decide +kernel
theorem dX12_findLights_135 : decode cX12_findLights 135 = .ok (.aload_n 0, 1) := by decide +kernel
theorem dX12_findLights_136 : decode cX12_findLights 136 = .ok (.iload 4, 2) := by decide +kernel
theorem dX12_findLights_138 : decode cX12_findLights 138 = .ok (.putfield 457, 3) := by decide +kernel
theorem dX12_findLights_141 : decode cX12_findLights 141 = .ok (.iinc 2 1, 3) := by decide +kernel
theorem dX12_findLights_144 : decode cX12_findLights 144 = .ok (.goto (-137), 3) := by decide +kernel
theorem dX12_findLights_147 : decode cX12_findLights 147 = .ok (.return_, 1) := by decide +kernel
theorem dX12_lights_0 : decode cX12_lights 0 = .ok (.aload_n 0, 1) := by decide +kernel
theorem dX12_lights_1 : decode cX12_lights 1 = .ok (.iconst 0, 1) := by decide +kernel
theorem dX12_lights_2 : decode cX12_lights 2 = .ok (.putfield 1, 3) := by decide +kernel
theorem dX12_lights_5 : decode cX12_lights 5 = .ok (.iload_n 1, 1) := by decide +kernel
theorem dX12_lights_6 : decode cX12_lights 6 = .ok (.iconst 0, 1) := by decide +kernel
theorem dX12_lights_7 : decode cX12_lights 7 = .ok (.bipush 9, 2) := by decide +kernel
theorem dX12_lights_9 : decode cX12_lights 9 = .ok (.invokestatic 352, 3) := by decide +kernel
theorem dX12_lights_12 : decode cX12_lights 12 = .ok (.ifCond .eq 13, 3) := by decide +kernel
theorem dX12_lights_15 : decode cX12_lights 15 = .ok (.iload_n 2, 1) := by decide +kernel
theorem dX12_lights_16 : decode cX12_lights 16 = .ok (.iconst 0, 1) := by decide +kernel
theorem dX12_lights_17 : decode cX12_lights 17 = .ok (.bipush 9, 2) := by decide +kernel
theorem dX12_lights_19 : decode cX12_lights 19 = .ok (.invokestatic 352, 3) := by decide +kernel
theorem dX12_lights_22 : decode cX12_lights 22 = .ok (.ifCond .ne 5, 3) := by decide +kernel
theorem dX12_lights_25 : decode cX12_lights 25 = .ok (.iconst (-1), 1) := by decide +kernel
theorem dX12_lights_26 : decode cX12_lights 26 = .ok (.ireturn, 1) := by decide +kernel
theorem dX12_lights_27 : decode cX12_lights 27 = .ok (.iload_n 2, 1) := by decide +kernel
theorem dX12_lights_28 : decode cX12_lights 28 = .ok (.iconst 4, 1) := by decide +kernel
theorem dX12_lights_29 : decode cX12_lights 29 = .ok (.if_icmp .ge 7, 3) := by decide +kernel
theorem dX12_lights_32 : decode cX12_lights 32 = .ok (.iload_n 2, 1) := by decide +kernel
theorem dX12_lights_33 : decode cX12_lights 33 = .ok (.goto 16, 3) := by decide +kernel
theorem dX12_lights_36 : decode cX12_lights 36 = .ok (.iload_n 2, 1) := by decide +kernel
theorem dX12_lights_37 : decode cX12_lights 37 = .ok (.iconst 5, 1) := by decide +kernel
theorem dX12_lights_38 : decode cX12_lights 38 = .ok (.if_icmp .le 10, 3) := by decide +kernel
theorem dX12_lights_41 : decode cX12_lights 41 = .ok (.iload_n 2, 1) := by decide +kernel
theorem dX12_lights_42 : decode cX12_lights 42 = .ok (.bipush 6, 2) := by decide +kernel
theorem dX12_lights_44 : decode cX12_lights 44 = .ok (.isub, 1) := by decide +kernel
theorem dX12_lights_45 : decode cX12_lights 45 = .ok (.goto 4, 3) := by decide +kernel
theorem dX12_lights_48 : decode cX12_lights 48 = .ok (.iconst (-1), 1) := by decide +kernel
theorem dX12_lights_49 : decode cX12_lights 49 = .ok (.istore_n 3, 1) := by decide +kernel
theorem dX12_lights_50 : decode cX12_lights 50 = .ok (.aload_n 0, 1) := by decide +kernel
theorem dX12_lights_51 : decode cX12_lights 51 = .ok (.iload_n 1, 1) := by decide +kernel
theorem dX12_lights_52 : decode cX12_lights 52 = .ok (.invokevirtual 463, 3) := by decide +kernel
theorem dX12_lights_55 : decode cX12_lights 55 = .ok (.aload_n 0, 1) := by decide +kernel
theorem dX12_lights_56 : decode cX12_lights 56 = .ok (.getfield 445, 3) := by decide +kernel
theorem dX12_lights_59 : decode cX12_lights 59 = .ok (.ifCond .lt 16, 3) := by decide +kernel
theorem dX12_lights_62 : decode cX12_lights 62 = .ok (.iload_n 3, 1) := by decide +kernel
theorem dX12_lights_63 : decode cX12_lights 63 = .ok (.ifCond .lt 14, 3) := by decide +kernel
theorem dX12_lights_66 : decode cX12_lights 66 = .ok (.aload_n 0, 1) := by decide +kernel
theorem dX12_lights_67 : decode cX12_lights 67 = .ok (.getfield 179, 3) := by decide +kernel
theorem dX12_lights_70 : decode cX12_lights 70 = .ok (.iload_n 3, 1) := by decide +kernel
theorem dX12_lights_71 : decode cX12_lights 71 = .ok (.baload, 1) := by decide +kernel
theorem dX12_lights_72 : decode cX12_lights 72 = .ok (.ifCond .ne 5, 3) := by decide +kernel
theorem dX12_lights_75 : decode cX12_lights 75 = .ok (.iconst (-1), 1) := by decide +kernel
theorem dX12_lights_76 : decode cX12_lights 76 = .ok (.ireturn, 1) := by decide +kernel
theorem dX12_lights_77 : decode cX12_lights 77 = .ok (.iload_n 2, 1) := by decide +kernel
theorem dX12_lights_78 : decode cX12_lights 78 = .ok (.iconst 4, 1) := by decide +kernel
theorem dX12_lights_79 : decode cX12_lights 79 = .ok (.if_icmp .ge 12, 3) := by decide +kernel
theorem dX12_lights_82 : decode cX12_lights 82 = .ok (.aload_n 0, 1) := by decide +kernel
theorem dX12_lights_83 : decode cX12_lights 83 = .ok (.getfield 445, 3) := by decide +kernel
theorem dX12_lights_86 : decode cX12_lights 86 = .ok (.iload_n 3, 1) := by decide +kernel
theorem dX12_lights_87 : decode cX12_lights 87 = .ok (.invokestatic 439, 3) := by decide +kernel
theorem dX12_lights_90 : decode cX12_lights 90 = .ok (.ireturn, 1) := by decide +kernel
theorem dX12_lights_91 : decode cX12_lights 91 = .ok (.iload_n 2, 1) := by decide +kernel
theorem dX12_lights_92 : decode cX12_lights 92 = .ok (.bipush 6, 2) := by decide +kernel
theorem dX12_lights_94 : decode cX12_lights 94 = .ok (.if_icmp .ge 20, 3) := by decide +kernel
theorem dX12_lights_97 : decode cX12_lights 97 = .ok (.iload_n 2, 1) := by decide +kernel
theorem dX12_lights_98 : decode cX12_lights 98 = .ok (.iconst 4, 1) := by decide +kernel
theorem dX12_lights_99 : decode cX12_lights 99 = .ok (.if_icmp .ne 10, 3) := by decide +kernel
theorem dX12_lights_102 : decode cX12_lights 102 = .ok (.aload_n 0, 1) := by decide +kernel
theorem dX12_lights_103 : decode cX12_lights 103 = .ok (.getfield 460, 3) := by decide +kernel
theorem dX12_lights_106 : decode cX12_lights 106 = .ok (.goto 7, 3) := by decide +kernel
theorem dX12_lights_109 : decode cX12_lights 109 = .ok (.aload_n 0, 1) := by decide +kernel
theorem dX12_lights_110 : decode cX12_lights 110 = .ok (.getfield 457, 3) := by decide +kernel
theorem dX12_lights_113 : decode cX12_lights 113 = .ok (.ireturn, 1) := by decide +kernel
theorem dX12_lights_114 : decode cX12_lights 114 = .ok (.aload_n 0, 1) := by decide +kernel
theorem dX12_lights_115 : decode cX12_lights 115 = .ok (.aload_n 0, 1) := by decide +kernel
theorem dX12_lights_116 : decode cX12_lights 116 = .ok (.getfield 445, 3) := by decide +kernel
theorem dX12_lights_119 : decode cX12_lights 119 = .ok (.iload_n 1, 1) := by decide +kernel
theorem dX12_lights_120 : decode cX12_lights 120 = .ok (.invokevirtual 451, 3) := by decide +kernel
theorem dX12_lights_123 : decode cX12_lights 123 = .ok (.istore 4, 2) := by decide +kernel
theorem dX12_lights_125 : decode cX12_lights 125 = .ok (.aload_n 0, 1) := by decide +kernel
theorem dX12_lights_126 : decode cX12_lights 126 = .ok (.aload_n 0, 1) := by decide +kernel
theorem dX12_lights_127 : decode cX12_lights 127 = .ok (.getfield 445, 3) := by decide +kernel
theorem dX12_lights_130 : decode cX12_lights 130 = .ok (.iload 4, 2) := by decide +kernel
theorem dX12_lights_132 : decode cX12_lights 132 = .ok (.iload_n 3, 1) := by decide +kernel
theorem dX12_lights_133 : decode cX12_lights 133 = .ok (.invokevirtual 454, 3) := by decide +kernel
theorem dX12_lights_136 : decode cX12_lights 136 = .ok (.ireturn, 1) := by decide +kernel
theorem dX12_voters_0 : decode cX12_voters 0 = .ok (.aload_n 0, 1) := by decide +kernel
theorem dX12_voters_1 : decode cX12_voters 1 = .ok (.iconst 0, 1) := by decide +kernel
theorem dX12_voters_2 : decode cX12_voters 2 = .ok (.putfield 1, 3) := by decide +kernel
theorem dX12_voters_5 : decode cX12_voters 5 = .ok (.iload_n 1, 1) := by decide +kernel
theorem dX12_voters_6 : decode cX12_voters 6 = .ok (.iconst 1, 1) := by decide +kernel
theorem dX12_voters_7 : decode cX12_voters 7 = .ok (.sipush 9999, 3) := by decide +kernel
theorem dX12_voters_10 : decode cX12_voters 10 = .ok (.invokestatic 352, 3) := by decide +kernel
theorem dX12_voters_13 : decode cX12_voters 13 = .ok (.ifCond .eq 12, 3) := by decide +kernel
theorem dX12_voters_16 : decode cX12_voters 16 = .ok (.aload_n 0, 1) := by decide +kernel
theorem dX12_voters_17 : decode cX12_voters 17 = .ok (.getfield 466, 3) := by decide +kernel
theorem dX12_voters_20 : decode cX12_voters 20 = .ok (.bipush 8, 2) := by decide +kernel
theorem dX12_voters_22 : decode cX12_voters 22 = .ok (.if_icmp .ne 5, 3) := by decide +kernel
theorem dX12_voters_25 : decode cX12_voters 25 = .ok (.iconst (-1), 1) := by decide +kernel
theorem dX12_voters_26 : decode cX12_voters 26 = .ok (.ireturn, 1) := by decide +kernel
theorem dX12_voters_27 : decode cX12_voters 27 = .ok (.aload_n 0, 1) := by decide +kernel
theorem dX12_voters_28 : decode cX12_voters 28 = .ok (.getfield 200, 3) := by decide +kernel
theorem dX12_voters_31 : decode cX12_voters 31 = .ok (.aload_n 0, 1) := by decide +kernel
theorem dX12_voters_32 : decode cX12_voters 32 = .ok (.getfield 466, 3) := by decide +kernel
theorem dX12_voters_35 : decode cX12_voters 35 = .ok (.iload_n 1, 1) := by decide +kernel
theorem dX12_voters_36 : decode cX12_voters 36 = .ok (.iastore, 1) := by decide +kernel
theorem dX12_voters_37 : decode cX12_voters 37 = .ok (.iconst 0, 1) := by decide +kernel
theorem dX12_voters_38 : decode cX12_voters 38 = .ok (.istore_n 2, 1) := by decide +kernel
theorem dX12_voters_39 : decode cX12_voters 39 = .ok (.iload_n 2, 1) := by decide +kernel
theorem dX12_voters_40 : decode cX12_voters 40 = .ok (.bipush 9, 2) := by decide +kernel
theorem dX12_voters_42 : decode cX12_voters 42 = .ok (.if_icmp .ge 24, 3) := by decide +kernel
theorem dX12_voters_45 : decode cX12_voters 45 = .ok (.aload_n 0, 1) := by decide +kernel
theorem dX12_voters_46 : decode cX12_voters 46 = .ok (.getfield 203, 3) := by decide +kernel
theorem dX12_voters_49 : decode cX12_voters 49 = .ok (.bipush 9, 2) := by decide +kernel
theorem dX12_voters_51 : decode cX12_voters 51 = .ok (.aload_n 0, 1) := by decide +kernel
theorem dX12_voters_52 : decode cX12_voters 52 = .ok (.getfield 466, 3) := by decide +kernel
theorem dX12_voters_55 : decode cX12_voters 55 = .ok (.imul, 1) := by decide +kernel
theorem dX12_voters_56 : decode cX12_voters 56 = .ok (.iload_n 2, 1) := by decide +kernel
theorem dX12_voters_57 : decode cX12_voters 57 = .ok (.iadd, 1) := by decide +kernel
theorem dX12_voters_58 : decode cX12_voters 58 = .ok (.iconst 0, 1) := by decide +kernel
theorem dX12_voters_59 : decode cX12_voters 59 = .ok (.iastore, 1) := by decide +kernel
theorem dX12_voters_60 : decode cX12_voters 60 = .ok (.iinc 2 1, 3) := by decide +kernel
theorem dX12_voters_63 : decode cX12_voters 63 = .ok (.goto (-24), 3) := by decide +kernel
theorem dX12_voters_66 : decode cX12_voters 66 = .ok (.aload_n 0, 1) := by decide +kernel
theorem dX12_voters_67 : decode cX12_voters 67 = .ok (.dup, 1) := by decide +kernel
theorem dX12_voters_68 : decode cX12_voters 68 = .ok (.getfield 466, 3) := by decide +kernel
theorem dX12_voters_71 : decode cX12_voters 71 = .ok (.iconst 1, 1) := by decide +kernel
theorem dX12_voters_72 : decode cX12_voters 72 = .ok (.iadd, 1) := by decide +kernel
theorem dX12_voters_73 : decode cX12_voters 73 = .ok (.putfield 466, 3) := by decide +kernel
theorem dX12_voters_76 : decode cX12_voters 76 = .ok (.aload_n 0, 1) := by decide +kernel
theorem dX12_voters_77 : decode cX12_voters 77 = .ok (.getfield 466, 3) := by decide +kernel
theorem dX12_voters_80 : decode cX12_voters 80 = .ok (.iconst 1, 1) := by decide +kernel
theorem dX12_voters_81 : decode cX12_voters 81 = .ok (.isub, 1) := by decide +kernel
theorem dX12_voters_82 : decode cX12_voters 82 = .ok (.ireturn, 1) := by decide +kernel
theorem dX12_leans_0 : decode cX12_leans 0 = .ok (.aload_n 0, 1) := by decide +kernel
theorem dX12_leans_1 : decode cX12_leans 1 = .ok (.iconst 0, 1) := by decide +kernel
theorem dX12_leans_2 : decode cX12_leans 2 = .ok (.putfield 1, 3) := by decide +kernel
theorem dX12_leans_5 : decode cX12_leans 5 = .ok (.iload_n 1, 1) := by decide +kernel
theorem dX12_leans_6 : decode cX12_leans 6 = .ok (.iconst 0, 1) := by decide +kernel
theorem dX12_leans_7 : decode cX12_leans 7 = .ok (.aload_n 0, 1) := by decide +kernel
theorem dX12_leans_8 : decode cX12_leans 8 = .ok (.getfield 466, 3) := by decide +kernel
theorem dX12_leans_11 : decode cX12_leans 11 = .ok (.iconst 1, 1) := by decide +kernel
theorem dX12_leans_12 : decode cX12_leans 12 = .ok (.isub, 1) := by decide +kernel
theorem dX12_leans_13 : decode cX12_leans 13 = .ok (.invokestatic 352, 3) := by decide +kernel
theorem dX12_leans_16 : decode cX12_leans 16 = .ok (.ifCond .eq 24, 3) := by decide +kernel
theorem dX12_leans_19 : decode cX12_leans 19 = .ok (.iload_n 2, 1) := by decide +kernel
theorem dX12_leans_20 : decode cX12_leans 20 = .ok (.iconst 0, 1) := by decide +kernel
theorem dX12_leans_21 : decode cX12_leans 21 = .ok (.bipush 8, 2) := by decide +kernel
theorem dX12_leans_23 : decode cX12_leans 23 = .ok (.invokestatic 352, 3) := by decide +kernel
theorem dX12_leans_26 : decode cX12_leans 26 = .ok (.ifCond .eq 14, 3) := by decide +kernel
theorem dX12_leans_29 : decode cX12_leans 29 = .ok (.iload_n 3, 1) := by decide +kernel
theorem dX12_leans_30 : decode cX12_leans 30 = .ok (.bipush (-99), 2) := by decide +kernel
theorem dX12_leans_32 : decode cX12_leans 32 = .ok (.bipush 99, 2) := by decide +kernel
theorem dX12_leans_34 : decode cX12_leans 34 = .ok (.invokestatic 352, 3) := by decide +kernel
theorem dX12_leans_37 : decode cX12_leans 37 = .ok (.ifCond .ne 5, 3) := by decide +kernel
theorem dX12_leans_40 : decode cX12_leans 40 = .ok (.iconst 0, 1) := by decide +kernel
theorem dX12_leans_41 : decode cX12_leans 41 = .ok (.ireturn, 1) := by decide +kernel
theorem dX12_leans_42 : decode cX12_leans 42 = .ok (.aload_n 0, 1) := by decide +kernel
theorem dX12_leans_43 : decode cX12_leans 43 = .ok (.getfield 203, 3) := by decide +kernel
theorem dX12_leans_46 : decode cX12_leans 46 = .ok (.bipush 9, 2) := by decide +kernel
theorem dX12_leans_48 : decode cX12_leans 48 = .ok (.iload_n 1, 1) := by decide +kernel
theorem dX12_leans_49 : decode cX12_leans 49 = .ok (.imul, 1) := by decide +kernel
theorem dX12_leans_50 : decode cX12_leans 50 = .ok (.iload_n 2, 1) := by decide +kernel
theorem dX12_leans_51 : decode cX12_leans 51 = .ok (.iadd, 1) := by decide +kernel
theorem dX12_leans_52 : decode cX12_leans 52 = .ok (.iload_n 3, 1) := by decide +kernel
theorem dX12_leans_53 : decode cX12_leans 53 = .ok (.iastore, 1) := by decide +kernel
theorem dX12_leans_54 : decode cX12_leans 54 = .ok (.iconst 1, 1) := by decide +kernel
theorem dX12_leans_55 : decode cX12_leans 55 = .ok (.ireturn, 1) := by decide +kernel
theorem dX12_votes_0 : decode cX12_votes 0 = .ok (.iconst 0, 1) := by decide +kernel
theorem dX12_votes_1 : decode cX12_votes 1 = .ok (.istore_n 3, 1) := by decide +kernel
theorem dX12_votes_2 : decode cX12_votes 2 = .ok (.iconst 0, 1) := by decide +kernel
theorem dX12_votes_3 : decode cX12_votes 3 = .ok (.istore 4, 2) := by decide +kernel
theorem dX12_votes_5 : decode cX12_votes 5 = .ok (.iload 4, 2) := by decide +kernel
theorem dX12_votes_7 : decode cX12_votes 7 = .ok (.aload_n 0, 1) := by decide +kernel
theorem dX12_votes_8 : decode cX12_votes 8 = .ok (.getfield 466, 3) := by decide +kernel
theorem dX12_votes_11 : decode cX12_votes 11 = .ok (.if_icmp .ge 88, 3) := by decide +kernel
theorem dX12_votes_14 : decode cX12_votes 14 = .ok (.iconst 0, 1) := by decide +kernel
theorem dX12_votes_15 : decode cX12_votes 15 = .ok (.istore 5, 2) := by decide +kernel
theorem dX12_votes_17 : decode cX12_votes 17 = .ok (.iconst 0, 1) := by decide +kernel
theorem dX12_votes_18 : decode cX12_votes 18 = .ok (.istore 6, 2) := by decide +kernel
theorem dX12_votes_20 : decode cX12_votes 20 = .ok (.iload 6, 2) := by decide +kernel
theorem dX12_votes_22 : decode cX12_votes 22 = .ok (.bipush 9, 2) := by decide +kernel
theorem dX12_votes_24 : decode cX12_votes 24 = .ok (.if_icmp .ge 41, 3) := by decide +kernel
theorem dX12_votes_27 : decode cX12_votes 27 = .ok (.iload 5, 2) := by decide +kernel
theorem dX12_votes_29 : decode cX12_votes 29 = .ok (.iload_n 1, 1) := by decide +kernel
theorem dX12_votes_30 : decode cX12_votes 30 = .ok (.iload 6, 2) := by decide +kernel
theorem dX12_votes_32 : decode cX12_votes 32 = .ok (.ishr, 1) := by decide +kernel
theorem dX12_votes_33 : decode cX12_votes 33 = .ok (.iconst 1, 1) := by decide +kernel
theorem dX12_votes_34 : decode cX12_votes 34 = .ok (.iand, 1) := by decide +kernel
theorem dX12_votes_35 : decode cX12_votes 35 = .ok (.iconst 1, 1) := by decide +kernel
theorem dX12_votes_36 : decode cX12_votes 36 = .ok (.if_icmp .ne 19, 3) := by decide +kernel
theorem dX12_votes_39 : decode cX12_votes 39 = .ok (.aload_n 0, 1) := by decide +kernel
theorem dX12_votes_40 : decode cX12_votes 40 = .ok (.getfield 203, 3) := by decide +kernel
theorem dX12_votes_43 : decode cX12_votes 43 = .ok (.bipush 9, 2) := by decide +kernel
theorem dX12_votes_45 : decode cX12_votes 45 = .ok (.iload 4, 2) := by decide +kernel
theorem dX12_votes_47 : decode cX12_votes 47 = .ok (.imul, 1) := by decide +kernel
theorem dX12_votes_48 : decode cX12_votes 48 = .ok (.iload 6, 2) := by decide +kernel
theorem dX12_votes_50 : decode cX12_votes 50 = .ok (.iadd, 1) := by decide +kernel
theorem dX12_votes_51 : decode cX12_votes 51 = .ok (.iaload, 1) := by decide +kernel
theorem dX12_votes_52 : decode cX12_votes 52 = .ok (.goto 4, 3) := by decide +kernel
theorem dX12_votes_55 : decode cX12_votes 55 = .ok (.iconst 0, 1) := by decide +kernel
theorem dX12_votes_56 : decode cX12_votes 56 = .ok (.iadd, 1) := by decide +kernel
theorem dX12_votes_57 : decode cX12_votes 57 = .ok (.istore 5, 2) := by decide +kernel
theorem dX12_votes_59 : decode cX12_votes 59 = .ok (.iinc 6 1, 3) := by decide +kernel
theorem dX12_votes_62 : decode cX12_votes 62 = .ok (.goto (-42), 3) := by decide +kernel
theorem dX12_votes_65 : decode cX12_votes 65 = .ok (.iload_n 3, 1) := by decide +kernel
theorem dX12_votes_66 : decode cX12_votes 66 = .ok (.iload 5, 2) := by decide +kernel
theorem dX12_votes_68 : decode cX12_votes 68 = .ok (.ifCond .lt 7, 3) := by decide +kernel
theorem dX12_votes_71 : decode cX12_votes 71 = .ok (.iconst 1, 1) := by decide +kernel
theorem dX12_votes_72 : decode cX12_votes 72 = .ok (.goto 4, 3) := by decide +kernel
theorem dX12_votes_75 : decode cX12_votes 75 = .ok (.iconst 0, 1) := by decide +kernel
theorem dX12_votes_76 : decode cX12_votes 76 = .ok (.iload_n 2, 1) := by decide +kernel
theorem dX12_votes_77 : decode cX12_votes 77 = .ok (.if_icmp .ne 13, 3) := by decide +kernel
theorem dX12_votes_80 : decode cX12_votes 80 = .ok (.aload_n 0, 1) := by decide +kernel
theorem dX12_votes_81 : decode cX12_votes 81 = .ok (.getfield 200, 3) := by decide +kernel
theorem dX12_votes_84 : decode cX12_votes 84 = .ok (.iload 4, 2) := by decide +kernel
theorem dX12_votes_86 : decode cX12_votes 86 = .ok (.iaload, 1) := by decide +kernel
theorem dX12_votes_87 : decode cX12_votes 87 = .ok (.goto 4, 3) := by decide +kernel
theorem dX12_votes_90 : decode cX12_votes 90 = .ok (.iconst 0, 1) := by decide +kernel
theorem dX12_votes_91 : decode cX12_votes 91 = .ok (.iadd, 1) := by decide +kernel
theorem dX12_votes_92 : decode cX12_votes 92 = .ok (.istore_n 3, 1) := by decide +kernel
theorem dX12_votes_93 : decode cX12_votes 93 = .ok (.iinc 4 1, 3) := by decide +kernel
theorem dX12_votes_96 : decode cX12_votes 96 = .ok (.goto (-91), 3) := by decide +kernel
theorem dX12_votes_99 : decode cX12_votes 99 = .ok (.iload_n 3, 1) := by decide +kernel
theorem dX12_votes_100 : decode cX12_votes 100 = .ok (.ireturn, 1) := by decide +kernel
theorem dX12_isPassed_0 : decode cX12_isPassed 0 = .ok (.aload_n 0, 1) := by decide +kernel
theorem dX12_isPassed_1 : decode cX12_isPassed 1 = .ok (.iload_n 1, 1) := by decide +kernel
theorem dX12_isPassed_2 : decode cX12_isPassed 2 = .ok (.iconst 1, 1) := by decide +kernel
theorem dX12_isPassed_3 : decode cX12_isPassed 3 = .ok (.invokevirtual 469, 3) := by decide +kernel
theorem dX12_isPassed_6 : decode cX12_isPassed 6 = .ok (.aload_n 0, 1) := by decide +kernel
theorem dX12_isPassed_7 : decode cX12_isPassed 7 = .ok (.iload_n 1, 1) := by decide +kernel
theorem dX12_isPassed_8 : decode cX12_isPassed 8 = .ok (.iconst 0, 1) := by decide +kernel
theorem dX12_isPassed_9 : decode cX12_isPassed 9 = .ok (.invokevirtual 469, 3) := by decide +kernel
theorem dX12_isPassed_12 : decode cX12_isPassed 12 = .ok (.if_icmp .le 7, 3) := by decide +kernel
theorem dX12_isPassed_15 : decode cX12_isPassed 15 = .ok (.iconst 1, 1) := by decide +kernel
theorem dX12_isPassed_16 : decode cX12_isPassed 16 = .ok (.goto 4, 3) := by decide +kernel
theorem dX12_isPassed_19 : decode cX12_isPassed 19 = .ok (.iconst 0, 1) := by decide +kernel
theorem dX12_isPassed_20 : decode cX12_isPassed 20 = .ok (.ireturn, 1) := by decide +kernel
theorem dX12_isClauses_0 : decode cX12_isClauses 0 = .ok (.iload_n 0, 1) := by decide +kernel
theorem dX12_isClauses_1 : decode cX12_isClauses 1 = .ok (.iconst 0, 1) := by decide +kernel
theorem dX12_isClauses_2 : decode cX12_isClauses 2 = .ok (.sipush 511, 3) := by decide +kernel
theorem dX12_isClauses_5 : decode cX12_isClauses 5 = .ok (.invokestatic 352, 3) := by decide +kernel
theorem dX12_isClauses_8 : decode cX12_isClauses 8 = .ok (.ireturn, 1) := by decide +kernel
theorem dX12_passes_0 : decode cX12_passes 0 = .ok (.aload_n 0, 1) := by decide +kernel
theorem dX12_passes_1 : decode cX12_passes 1 = .ok (.iconst 0, 1) := by decide +kernel
theorem dX12_passes_2 : decode cX12_passes 2 = .ok (.putfield 1, 3) := by decide +kernel
theorem dX12_passes_5 : decode cX12_passes 5 = .ok (.iload_n 1, 1) := by decide +kernel
theorem dX12_passes_6 : decode cX12_passes 6 = .ok (.invokestatic 473, 3) := by decide +kernel
theorem dX12_passes_9 : decode cX12_passes 9 = .ok (.ifCond .ne 7, 3) := by decide +kernel
theorem dX12_passes_12 : decode cX12_passes 12 = .ok (.iconst (-1), 1) := by decide +kernel
theorem dX12_passes_13 : decode cX12_passes 13 = .ok (.goto 16, 3) := by decide +kernel
theorem dX12_passes_16 : decode cX12_passes 16 = .ok (.aload_n 0, 1) := by decide +kernel
theorem dX12_passes_17 : decode cX12_passes 17 = .ok (.iload_n 1, 1) := by decide +kernel
theorem dX12_passes_18 : decode cX12_passes 18 = .ok (.invokevirtual 476, 3) := by decide +kernel
theorem dX12_passes_21 : decode cX12_passes 21 = .ok (.ifCond .eq 7, 3) := by decide +kernel
theorem dX12_passes_24 : decode cX12_passes 24 = .ok (.iconst 1, 1) := by decide +kernel
theorem dX12_passes_25 : decode cX12_passes 25 = .ok (.goto 4, 3) := by decide +kernel
theorem dX12_passes_28 : decode cX12_passes 28 = .ok (.iconst 0, 1) := by decide +kernel
theorem dX12_passes_29 : decode cX12_passes 29 = .ok (.ireturn, 1) := by decide +kernel
theorem dX12_bits_0 : decode cX12_bits 0 = .ok (.iconst 0, 1) := by decide +kernel
theorem dX12_bits_1 : decode cX12_bits 1 = .ok (.istore_n 1, 1) := by decide +kernel
theorem dX12_bits_2 : decode cX12_bits 2 = .ok (.iconst 0, 1) := by decide +kernel
theorem dX12_bits_3 : decode cX12_bits 3 = .ok (.istore_n 2, 1) := by decide +kernel
theorem dX12_bits_4 : decode cX12_bits 4 = .ok (.iload_n 2, 1) := by decide +kernel
theorem dX12_bits_5 : decode cX12_bits 5 = .ok (.bipush 9, 2) := by decide +kernel
theorem dX12_bits_7 : decode cX12_bits 7 = .ok (.if_icmp .ge 17, 3) := by decide +kernel
theorem dX12_bits_10 : decode cX12_bits 10 = .ok (.iload_n 1, 1) := by decide +kernel
theorem dX12_bits_11 : decode cX12_bits 11 = .ok (.iload_n 0, 1) := by decide +kernel
theorem dX12_bits_12 : decode cX12_bits 12 = .ok (.iload_n 2, 1) := by decide +kernel
theorem dX12_bits_13 : decode cX12_bits 13 = .ok (.ishr, 1) := by decide +kernel
theorem dX12_bits_14 : decode cX12_bits 14 = .ok (.iconst 1, 1) := by decide +kernel
theorem dX12_bits_15 : decode cX12_bits 15 = .ok (.iand, 1) := by decide +kernel
theorem dX12_bits_16 : decode cX12_bits 16 = .ok (.iadd, 1) := by decide +kernel
theorem dX12_bits_17 : decode cX12_bits 17 = .ok (.istore_n 1, 1) := by decide +kernel
theorem dX12_bits_18 : decode cX12_bits 18 = .ok (.iinc 2 1, 3) := by decide +kernel
theorem dX12_bits_21 : decode cX12_bits 21 = .ok (.goto (-17), 3) := by decide +kernel
theorem dX12_bits_24 : decode cX12_bits 24 = .ok (.iload_n 1, 1) := by decide +kernel
theorem dX12_bits_25 : decode cX12_bits 25 = .ok (.ireturn, 1) := by decide +kernel
theorem dX12_most_0 : decode cX12_most 0 = .ok (.aload_n 0, 1) := by decide +kernel
theorem dX12_most_1 : decode cX12_most 1 = .ok (.iconst 0, 1) := by decide +kernel
theorem dX12_most_2 : decode cX12_most 2 = .ok (.putfield 1, 3) := by decide +kernel
theorem dX12_most_5 : decode cX12_most 5 = .ok (.iload_n 1, 1) := by decide +kernel
theorem dX12_most_6 : decode cX12_most 6 = .ok (.invokestatic 473, 3) := by decide +kernel
theorem dX12_most_9 : decode cX12_most 9 = .ok (.ifCond .ne 5, 3) := by decide +kernel
theorem dX12_most_12 : decode cX12_most 12 = .ok (.iconst (-1), 1) := by decide +kernel
theorem dX12_most_13 : decode cX12_most 13 = .ok (.ireturn, 1) := by decide +kernel
theorem dX12_most_14 : decode cX12_most 14 = .ok (.iconst (-1), 1) := by decide +kernel
theorem dX12_most_15 : decode cX12_most 15 = .ok (.istore_n 2, 1) := by decide +kernel
theorem dX12_most_16 : decode cX12_most 16 = .ok (.iconst 0, 1) := by decide +kernel
theorem dX12_most_17 : decode cX12_most 17 = .ok (.istore_n 3, 1) := by decide +kernel
theorem dX12_most_18 : decode cX12_most 18 = .ok (.iload_n 3, 1) := by decide +kernel
theorem dX12_most_19 : decode cX12_most 19 = .ok (.iload_n 1, 1) := by decide +kernel
theorem dX12_most_20 : decode cX12_most 20 = .ok (.if_icmp .gt 100, 3) := by decide +kernel
theorem dX12_most_23 : decode cX12_most 23 = .ok (.iload_n 3, 1) := by decide +kernel
theorem dX12_most_24 : decode cX12_most 24 = .ok (.iload_n 1, 1) := by decide +kernel
theorem dX12_most_25 : decode cX12_most 25 = .ok (.iconst (-1), 1) := by decide +kernel
theorem dX12_most_26 : decode cX12_most 26 = .ok (.ixor, 1) := by decide +kernel
theorem dX12_most_27 : decode cX12_most 27 = .ok (.iand, 1) := by decide +kernel
theorem dX12_most_28 : decode cX12_most 28 = .ok (.ifCond .ne 86, 3) := by decide +kernel
theorem dX12_most_31 : decode cX12_most 31 = .ok (.aload_n 0, 1) := by decide +kernel
theorem dX12_most_32 : decode cX12_most 32 = .ok (.iload_n 3, 1) := by decide +kernel
theorem dX12_most_33 : decode cX12_most 33 = .ok (.invokevirtual 476, 3) := by decide +kernel
theorem dX12_most_36 : decode cX12_most 36 = .ok (.ifCond .eq 78, 3) := by decide +kernel
theorem dX12_most_39 : decode cX12_most 39 = .ok (.iload_n 2, 1) := by decide +kernel
theorem dX12_most_40 : decode cX12_most 40 = .ok (.ifCond .lt 14, 3) := by decide +kernel
theorem dX12_most_43 : decode cX12_most 43 = .ok (.iload_n 3, 1) := by decide +kernel
theorem dX12_most_44 : decode cX12_most 44 = .ok (.invokestatic 479, 3) := by decide +kernel
theorem dX12_most_47 : decode cX12_most 47 = .ok (.iload_n 2, 1) := by decide +kernel
theorem dX12_most_48 : decode cX12_most 48 = .ok (.invokestatic 479, 3) := by decide +kernel
theorem dX12_most_51 : decode cX12_most 51 = .ok (.if_icmp .le 7, 3) := by decide +kernel
theorem dX12_most_54 : decode cX12_most 54 = .ok (.iconst 1, 1) := by decide +kernel
theorem dX12_most_55 : decode cX12_most 55 = .ok (.goto 4, 3) := by decide +kernel
theorem dX12_most_58 : decode cX12_most 58 = .ok (.iconst 0, 1) := by decide +kernel
theorem dX12_most_59 : decode cX12_most 59 = .ok (.istore 4, 2) := by decide +kernel
theorem dX12_most_61 : decode cX12_most 61 = .ok (.iload_n 2, 1) := by decide +kernel
theorem dX12_most_62 : decode cX12_most 62 = .ok (.ifCond .lt 18, 3) := by decide +kernel
theorem dX12_most_65 : decode cX12_most 65 = .ok (.iload_n 3, 1) := by decide +kernel
theorem dX12_most_66 : decode cX12_most 66 = .ok (.invokestatic 479, 3) := by decide +kernel
theorem dX12_most_69 : decode cX12_most 69 = .ok (.iload_n 2, 1) := by decide +kernel
theorem dX12_most_70 : decode cX12_most 70 = .ok (.invokestatic 479, 3) := by decide +kernel
theorem dX12_most_73 : decode cX12_most 73 = .ok (.if_icmp .ne 7, 3) := by decide +kernel
theorem dX12_most_76 : decode cX12_most 76 = .ok (.iconst 1, 1) := by decide +kernel
theorem dX12_most_77 : decode cX12_most 77 = .ok (.goto 4, 3) := by decide +kernel
theorem dX12_most_80 : decode cX12_most 80 = .ok (.iconst 0, 1) := by decide +kernel
theorem dX12_most_81 : decode cX12_most 81 = .ok (.istore 5, 2) := by decide +kernel
theorem dX12_most_83 : decode cX12_most 83 = .ok (.iload 4, 2) := by decide +kernel
theorem dX12_most_85 : decode cX12_most 85 = .ok (.ifCond .ne 23, 3) := by decide +kernel
theorem dX12_most_88 : decode cX12_most 88 = .ok (.iload 5, 2) := by decide +kernel
theorem dX12_most_90 : decode cX12_most 90 = .ok (.ifCond .eq 22, 3) := by decide +kernel
theorem dX12_most_93 : decode cX12_most 93 = .ok (.aload_n 0, 1) := by decide +kernel
theorem dX12_most_94 : decode cX12_most 94 = .ok (.iload_n 3, 1) := by decide +kernel
theorem dX12_most_95 : decode cX12_most 95 = .ok (.iconst 1, 1) := by decide +kernel
theorem dX12_most_96 : decode cX12_most 96 = .ok (.invokevirtual 469, 3) := by decide +kernel
theorem dX12_most_99 : decode cX12_most 99 = .ok (.aload_n 0, 1) := by decide +kernel
theorem dX12_most_100 : decode cX12_most 100 = .ok (.iload_n 2, 1) := by decide +kernel
theorem dX12_most_101 : decode cX12_most 101 = .ok (.iconst 1, 1) := by decide +kernel
theorem dX12_most_102 : decode cX12_most 102 = .ok (.invokevirtual 469, 3) := by decide +kernel
theorem dX12_most_105 : decode cX12_most 105 = .ok (.if_icmp .lt 7, 3) := by decide +kernel
theorem dX12_most_108 : decode cX12_most 108 = .ok (.iload_n 3, 1) := by decide +kernel
theorem dX12_most_109 : decode cX12_most 109 = .ok (.goto 4, 3) := by decide +kernel
theorem dX12_most_112 : decode cX12_most 112 = .ok (.iload_n 2, 1) := by decide +kernel
theorem dX12_most_113 : decode cX12_most 113 = .ok (.istore_n 2, 1) := by decide +kernel
theorem dX12_most_114 : decode cX12_most 114 = .ok (.iinc 3 1, 3) := by decide +kernel
theorem dX12_most_117 : decode cX12_most 117 = .ok (.goto (-99), 3) := by decide +kernel
theorem dX12_most_120 : decode cX12_most 120 = .ok (.iload_n 2, 1) := by decide +kernel
theorem dX12_most_121 : decode cX12_most 121 = .ok (.ireturn, 1) := by decide +kernel
theorem dX12_counted_0 : decode cX12_counted 0 = .ok (.aload_n 0, 1) := by decide +kernel
theorem dX12_counted_1 : decode cX12_counted 1 = .ok (.iconst 0, 1) := by decide +kernel
theorem dX12_counted_2 : decode cX12_counted 2 = .ok (.putfield 1, 3) := by decide +kernel
theorem dX12_counted_5 : decode cX12_counted 5 = .ok (.iload_n 1, 1) := by decide +kernel
theorem dX12_counted_6 : decode cX12_counted 6 = .ok (.iconst 0, 1) := by decide +kernel
theorem dX12_counted_7 : decode cX12_counted 7 = .ok (.bipush 7, 2) := by decide +kernel
theorem dX12_counted_9 : decode cX12_counted 9 = .ok (.invokestatic 352, 3) := by decide +kernel
theorem dX12_counted_12 : decode cX12_counted 12 = .ok (.ifCond .eq 38, 3) := by decide +kernel
theorem dX12_counted_15 : decode cX12_counted 15 = .ok (.iload_n 2, 1) := by decide +kernel
theorem dX12_counted_16 : decode cX12_counted 16 = .ok (.invokestatic 356, 3) := by decide +kernel
theorem dX12_counted_19 : decode cX12_counted 19 = .ok (.ifCond .eq 31, 3) := by decide +kernel
theorem dX12_counted_22 : decode cX12_counted 22 = .ok (.iload_n 3, 1) := by decide +kernel
theorem dX12_counted_23 : decode cX12_counted 23 = .ok (.iconst (-1), 1) := by decide +kernel
theorem dX12_counted_24 : decode cX12_counted 24 = .ok (.if_icmp .eq 28, 3) := by decide +kernel
theorem dX12_counted_27 : decode cX12_counted 27 = .ok (.iload_n 3, 1) := by decide +kernel
theorem dX12_counted_28 : decode cX12_counted 28 = .ok (.iconst 0, 1) := by decide +kernel
theorem dX12_counted_29 : decode cX12_counted 29 = .ok (.sipush 9999, 3) := by decide +kernel
theorem dX12_counted_32 : decode cX12_counted 32 = .ok (.invokestatic 352, 3) := by decide +kernel
theorem dX12_counted_35 : decode cX12_counted 35 = .ok (.ifCond .eq 15, 3) := by decide +kernel
theorem dX12_counted_38 : decode cX12_counted 38 = .ok (.iload 4, 2) := by decide +kernel
theorem dX12_counted_40 : decode cX12_counted 40 = .ok (.iconst 0, 1) := by decide +kernel
theorem dX12_counted_41 : decode cX12_counted 41 = .ok (.ldc_w 482, 3) := by decide +kernel
theorem dX12_counted_44 : decode cX12_counted 44 = .ok (.invokestatic 352, 3) := by decide +kernel
theorem dX12_counted_47 : decode cX12_counted 47 = .ok (.ifCond .ne 5, 3) := by decide +kernel
theorem dX12_counted_50 : decode cX12_counted 50 = .ok (.iconst 0, 1) := by decide +kernel
theorem dX12_counted_51 : decode cX12_counted 51 = .ok (.ireturn, 1) := by decide +kernel
theorem dX12_counted_52 : decode cX12_counted 52 = .ok (.aload_n 0, 1) := by decide +kernel
theorem dX12_counted_53 : decode cX12_counted 53 = .ok (.getfield 206, 3) := by decide +kernel
theorem dX12_counted_56 : decode cX12_counted 56 = .ok (.bipush 31, 2) := by decide +kernel
theorem dX12_counted_58 : decode cX12_counted 58 = .ok (.iload_n 1, 1) := by decide +kernel
theorem dX12_counted_59 : decode cX12_counted 59 = .ok (.imul, 1) := by decide +kernel
theorem dX12_counted_60 : decode cX12_counted 60 = .ok (.iload_n 2, 1) := by decide +kernel
theorem dX12_counted_61 : decode cX12_counted 61 = .ok (.iadd, 1) := by decide +kernel
theorem dX12_counted_62 : decode cX12_counted 62 = .ok (.iload_n 3, 1) := by decide +kernel
theorem dX12_counted_63 : decode cX12_counted 63 = .ok (.iastore, 1) := by decide +kernel
theorem dX12_counted_64 : decode cX12_counted 64 = .ok (.aload_n 0, 1) := by decide +kernel
theorem dX12_counted_65 : decode cX12_counted 65 = .ok (.getfield 209, 3) := by decide +kernel
theorem dX12_counted_68 : decode cX12_counted 68 = .ok (.bipush 31, 2) := by decide +kernel
theorem dX12_counted_70 : decode cX12_counted 70 = .ok (.iload_n 1, 1) := by decide +kernel
theorem dX12_counted_71 : decode cX12_counted 71 = .ok (.imul, 1) := by decide +kernel
theorem dX12_counted_72 : decode cX12_counted 72 = .ok (.iload_n 2, 1) := by decide +kernel
theorem dX12_counted_73 : decode cX12_counted 73 = .ok (.iadd, 1) := by decide +kernel
theorem dX12_counted_74 : decode cX12_counted 74 = .ok (.iload_n 3, 1) := by decide +kernel
theorem dX12_counted_75 : decode cX12_counted 75 = .ok (.iconst (-1), 1) := by decide +kernel
theorem dX12_counted_76 : decode cX12_counted 76 = .ok (.if_icmp .ne 7, 3) := by decide +kernel
theorem dX12_counted_79 : decode cX12_counted 79 = .ok (.iconst 0, 1) := by decide +kernel
theorem dX12_counted_80 : decode cX12_counted 80 = .ok (.goto 5, 3) := by decide +kernel
theorem dX12_counted_83 : decode cX12_counted 83 = .ok (.iload 4, 2) := by decide +kernel
theorem dX12_counted_85 : decode cX12_counted 85 = .ok (.iastore, 1) := by decide +kernel
theorem dX12_counted_86 : decode cX12_counted 86 = .ok (.iconst 1, 1) := by decide +kernel
theorem dX12_counted_87 : decode cX12_counted 87 = .ok (.ireturn, 1) := by decide +kernel
theorem dX12_fell_0 : decode cX12_fell 0 = .ok (.aload_n 0, 1) := by decide +kernel
theorem dX12_fell_1 : decode cX12_fell 1 = .ok (.iconst 0, 1) := by decide +kernel
theorem dX12_fell_2 : decode cX12_fell 2 = .ok (.putfield 1, 3) := by decide +kernel
theorem dX12_fell_5 : decode cX12_fell 5 = .ok (.iload_n 1, 1) := by decide +kernel
theorem dX12_fell_6 : decode cX12_fell 6 = .ok (.iconst 0, 1) := by decide +kernel
theorem dX12_fell_7 : decode cX12_fell 7 = .ok (.bipush 7, 2) := by decide +kernel
theorem dX12_fell_9 : decode cX12_fell 9 = .ok (.invokestatic 352, 3) := by decide +kernel
theorem dX12_fell_12 : decode cX12_fell 12 = .ok (.ifCond .eq 22, 3) := by decide +kernel
theorem dX12_fell_15 : decode cX12_fell 15 = .ok (.iload_n 2, 1) := by decide +kernel
theorem dX12_fell_16 : decode cX12_fell 16 = .ok (.invokestatic 356, 3) := by decide +kernel
theorem dX12_fell_19 : decode cX12_fell 19 = .ok (.ifCond .eq 15, 3) := by decide +kernel
theorem dX12_fell_22 : decode cX12_fell 22 = .ok (.iload_n 3, 1) := by decide +kernel
theorem dX12_fell_23 : decode cX12_fell 23 = .ok (.invokestatic 356, 3) := by decide +kernel
theorem dX12_fell_26 : decode cX12_fell 26 = .ok (.ifCond .eq 8, 3) := by decide +kernel
theorem dX12_fell_29 : decode cX12_fell 29 = .ok (.iload_n 2, 1) := by decide +kernel
theorem dX12_fell_30 : decode cX12_fell 30 = .ok (.iload_n 3, 1) := by decide +kernel
theorem dX12_fell_31 : decode cX12_fell 31 = .ok (.if_icmp .lt 5, 3) := by decide +kernel
theorem dX12_fell_34 : decode cX12_fell 34 = .ok (.iconst (-1), 1) := by decide +kernel
theorem dX12_fell_35 : decode cX12_fell 35 = .ok (.ireturn, 1) := by decide +kernel
theorem dX12_fell_36 : decode cX12_fell 36 = .ok (.bipush 31, 2) := by decide +kernel
theorem dX12_fell_38 : decode cX12_fell 38 = .ok (.iload_n 1, 1) := by decide +kernel
theorem dX12_fell_39 : decode cX12_fell 39 = .ok (.imul, 1) := by decide +kernel
theorem dX12_fell_40 : decode cX12_fell 40 = .ok (.iload_n 2, 1) := by decide +kernel
theorem dX12_fell_41 : decode cX12_fell 41 = .ok (.iadd, 1) := by decide +kernel
theorem dX12_fell_42 : decode cX12_fell 42 = .ok (.istore 4, 2) := by decide +kernel
theorem dX12_fell_44 : decode cX12_fell 44 = .ok (.bipush 31, 2) := by decide +kernel
theorem dX12_fell_46 : decode cX12_fell 46 = .ok (.iload_n 1, 1) := by decide +kernel
theorem dX12_fell_47 : decode cX12_fell 47 = .ok (.imul, 1) := by decide +kernel
theorem dX12_fell_48 : decode cX12_fell 48 = .ok (.iload_n 3, 1) := by decide +kernel
theorem dX12_fell_49 : decode cX12_fell 49 = .ok (.iadd, 1) := by decide +kernel
theorem dX12_fell_50 : decode cX12_fell 50 = .ok (.istore 5, 2) := by decide +kernel
theorem dX12_fell_52 : decode cX12_fell 52 = .ok (.aload_n 0, 1) := by decide +kernel
theorem dX12_fell_53 : decode cX12_fell 53 = .ok (.getfield 206, 3) := by decide +kernel
theorem dX12_fell_56 : decode cX12_fell 56 = .ok (.iload 4, 2) := by decide +kernel
theorem dX12_fell_58 : decode cX12_fell 58 = .ok (.iaload, 1) := by decide +kernel
theorem dX12_fell_59 : decode cX12_fell 59 = .ok (.ifCond .lt 13, 3) := by decide +kernel
theorem dX12_fell_62 : decode cX12_fell 62 = .ok (.aload_n 0, 1) := by decide +kernel
theorem dX12_fell_63 : decode cX12_fell 63 = .ok (.getfield 206, 3) := by decide +kernel
theorem dX12_fell_66 : decode cX12_fell 66 = .ok (.iload 5, 2) := by decide +kernel
theorem dX12_fell_68 : decode cX12_fell 68 = .ok (.iaload, 1) := by decide +kernel
theorem dX12_fell_69 : decode cX12_fell 69 = .ok (.ifCond .ge 5, 3) := by decide +kernel
theorem dX12_fell_72 : decode cX12_fell 72 = .ok (.iconst (-1), 1) := by decide +kernel
theorem dX12_fell_73 : decode cX12_fell 73 = .ok (.ireturn, 1) := by decide +kernel
theorem dX12_fell_74 : decode cX12_fell 74 = .ok (.aload_n 0, 1) := by decide +kernel
theorem dX12_fell_75 : decode cX12_fell 75 = .ok (.getfield 206, 3) := by decide +kernel
theorem dX12_fell_78 : decode cX12_fell 78 = .ok (.iload 5, 2) := by decide +kernel
theorem dX12_fell_80 : decode cX12_fell 80 = .ok (.iaload, 1) := by decide +kernel
theorem dX12_fell_81 : decode cX12_fell 81 = .ok (.aload_n 0, 1) := by decide +kernel
theorem dX12_fell_82 : decode cX12_fell 82 = .ok (.getfield 206, 3) := by decide +kernel
theorem dX12_fell_85 : decode cX12_fell 85 = .ok (.iload 4, 2) := by decide +kernel
theorem dX12_fell_87 : decode cX12_fell 87 = .ok (.iaload, 1) := by decide +kernel
theorem dX12_fell_88 : decode cX12_fell 88 = .ok (.if_icmp .lt 7, 3) := by decide +kernel
theorem dX12_fell_91 : decode cX12_fell 91 = .ok (.iconst 0, 1) := by decide +kernel
theorem dX12_fell_92 : decode cX12_fell 92 = .ok (.goto 46, 3) := by decide +kernel
theorem dX12_fell_95 : decode cX12_fell 95 = .ok (.aload_n 0, 1) := by decide +kernel
theorem dX12_fell_96 : decode cX12_fell 96 = .ok (.getfield 206, 3) := by decide +kernel
theorem dX12_fell_99 : decode cX12_fell 99 = .ok (.iload 5, 2) := by decide +kernel
theorem dX12_fell_101 : decode cX12_fell 101 = .ok (.iaload, 1) := by decide +kernel
theorem dX12_fell_102 : decode cX12_fell 102 = .ok (.i2l, 1) := by decide +kernel
theorem dX12_fell_103 : decode cX12_fell 103 = .ok (.aload_n 0, 1) := by decide +kernel
theorem dX12_fell_104 : decode cX12_fell 104 = .ok (.getfield 209, 3) := by decide +kernel
theorem dX12_fell_107 : decode cX12_fell 107 = .ok (.iload 4, 2) := by decide +kernel
theorem dX12_fell_109 : decode cX12_fell 109 = .ok (.iaload, 1) := by decide +kernel
theorem dX12_fell_110 : decode cX12_fell 110 = .ok (.i2l, 1) := by decide +kernel
theorem dX12_fell_111 : decode cX12_fell 111 = .ok (.lmul, 1) := by decide +kernel
theorem dX12_fell_112 : decode cX12_fell 112 = .ok (.aload_n 0, 1) := by decide +kernel
theorem dX12_fell_113 : decode cX12_fell 113 = .ok (.getfield 206, 3) := by decide +kernel
theorem dX12_fell_116 : decode cX12_fell 116 = .ok (.iload 4, 2) := by decide +kernel
theorem dX12_fell_118 : decode cX12_fell 118 = .ok (.iaload, 1) := by decide +kernel
theorem dX12_fell_119 : decode cX12_fell 119 = .ok (.i2l, 1) := by decide +kernel
theorem dX12_fell_120 : decode cX12_fell 120 = .ok (.aload_n 0, 1) := by decide +kernel
theorem dX12_fell_121 : decode cX12_fell 121 = .ok (.getfield 209, 3) := by decide +kernel
theorem dX12_fell_124 : decode cX12_fell 124 = .ok (.iload 5, 2) := by decide +kernel
theorem dX12_fell_126 : decode cX12_fell 126 = .ok (.iaload, 1) := by decide +kernel
theorem dX12_fell_127 : decode cX12_fell 127 = .ok (.i2l, 1) := by decide +kernel
theorem dX12_fell_128 : decode cX12_fell 128 = .ok (.lmul, 1) := by decide +kernel
theorem dX12_fell_129 : decode cX12_fell 129 = .ok (.lcmp, 1) := by decide +kernel
theorem dX12_fell_130 : decode cX12_fell 130 = .ok (.ifCond .lt 7, 3) := by decide +kernel
theorem dX12_fell_133 : decode cX12_fell 133 = .ok (.iconst 1, 1) := by decide +kernel
theorem dX12_fell_134 : decode cX12_fell 134 = .ok (.goto 4, 3) := by decide +kernel
theorem dX12_fell_137 : decode cX12_fell 137 = .ok (.iconst 2, 1) := by decide +kernel
theorem dX12_fell_138 : decode cX12_fell 138 = .ok (.ireturn, 1) := by decide +kernel
theorem dX12_isPlace_0 : decode cX12_isPlace 0 = .ok (.iload_n 0, 1) := by decide +kernel
theorem dX12_isPlace_1 : decode cX12_isPlace 1 = .ok (.iconst 0, 1) := by decide +kernel
theorem dX12_isPlace_2 : decode cX12_isPlace 2 = .ok (.bipush 7, 2) := by decide +kernel
theorem dX12_isPlace_4 : decode cX12_isPlace 4 = .ok (.invokestatic 352, 3) := by decide +kernel
theorem dX12_isPlace_7 : decode cX12_isPlace 7 = .ok (.ireturn, 1) := by decide +kernel
theorem dX12_street_0 : decode cX12_street 0 = .ok (.aload_n 0, 1) := by decide +kernel
theorem dX12_street_1 : decode cX12_street 1 = .ok (.iconst 0, 1) := by decide +kernel
theorem dX12_street_2 : decode cX12_street 2 = .ok (.putfield 1, 3) := by decide +kernel
theorem dX12_street_5 : decode cX12_street 5 = .ok (.iload 4, 2) := by decide +kernel
theorem dX12_street_7 : decode cX12_street 7 = .ok (.iconst 0, 1) := by decide +kernel
theorem dX12_street_8 : decode cX12_street 8 = .ok (.sipush 999, 3) := by decide +kernel
theorem dX12_street_11 : decode cX12_street 11 = .ok (.invokestatic 352, 3) := by decide +kernel
theorem dX12_street_14 : decode cX12_street 14 = .ok (.ifCond .eq 31, 3) := by decide +kernel
theorem dX12_street_17 : decode cX12_street 17 = .ok (.iload 5, 2) := by decide +kernel
theorem dX12_street_19 : decode cX12_street 19 = .ok (.iconst 0, 1) := by decide +kernel
theorem dX12_street_20 : decode cX12_street 20 = .ok (.sipush 999, 3) := by decide +kernel
theorem dX12_street_23 : decode cX12_street 23 = .ok (.invokestatic 352, 3) := by decide +kernel
theorem dX12_street_26 : decode cX12_street 26 = .ok (.ifCond .eq 19, 3) := by decide +kernel
theorem dX12_street_29 : decode cX12_street 29 = .ok (.iload 6, 2) := by decide +kernel
theorem dX12_street_31 : decode cX12_street 31 = .ok (.iconst 0, 1) := by decide +kernel
theorem dX12_street_32 : decode cX12_street 32 = .ok (.sipush 999, 3) := by decide +kernel
theorem dX12_street_35 : decode cX12_street 35 = .ok (.invokestatic 352, 3) := by decide +kernel
theorem dX12_street_38 : decode cX12_street 38 = .ok (.ifCond .eq 7, 3) := by decide +kernel
theorem dX12_street_41 : decode cX12_street 41 = .ok (.iconst 1, 1) := by decide +kernel
theorem dX12_street_42 : decode cX12_street 42 = .ok (.goto 4, 3) := by decide +kernel
theorem dX12_street_45 : decode cX12_street 45 = .ok (.iconst 0, 1) := by decide +kernel
theorem dX12_street_46 : decode cX12_street 46 = .ok (.istore 7, 2) := by decide +kernel
theorem dX12_street_48 : decode cX12_street 48 = .ok (.iload_n 1, 1) := by decide +kernel
theorem dX12_street_49 : decode cX12_street 49 = .ok (.iconst 0, 1) := by decide +kernel
theorem dX12_street_50 : decode cX12_street 50 = .ok (.bipush 7, 2) := by decide +kernel
theorem dX12_street_52 : decode cX12_street 52 = .ok (.invokestatic 352, 3) := by decide +kernel
theorem dX12_street_55 : decode cX12_street 55 = .ok (.ifCond .eq 27, 3) := by decide +kernel
theorem dX12_street_58 : decode cX12_street 58 = .ok (.iload_n 2, 1) := by decide +kernel
theorem dX12_street_59 : decode cX12_street 59 = .ok (.invokestatic 483, 3) := by decide +kernel
theorem dX12_street_62 : decode cX12_street 62 = .ok (.ifCond .eq 20, 3) := by decide +kernel
theorem dX12_street_65 : decode cX12_street 65 = .ok (.iload_n 3, 1) := by decide +kernel
theorem dX12_street_66 : decode cX12_street 66 = .ok (.invokestatic 483, 3) := by decide +kernel
theorem dX12_street_69 : decode cX12_street 69 = .ok (.ifCond .eq 13, 3) := by decide +kernel
theorem dX12_street_72 : decode cX12_street 72 = .ok (.iload_n 2, 1) := by decide +kernel
theorem dX12_street_73 : decode cX12_street 73 = .ok (.iload_n 3, 1) := by decide +kernel
theorem dX12_street_74 : decode cX12_street 74 = .ok (.if_icmp .eq 8, 3) := by decide +kernel
theorem dX12_street_77 : decode cX12_street 77 = .ok (.iload 7, 2) := by decide +kernel
theorem dX12_street_79 : decode cX12_street 79 = .ok (.ifCond .ne 5, 3) := by decide +kernel
theorem dX12_street_82 : decode cX12_street 82 = .ok (.iconst 0, 1) := by decide +kernel
theorem dX12_street_83 : decode cX12_street 83 = .ok (.ireturn, 1) := by decide +kernel
theorem dX12_street_84 : decode cX12_street 84 = .ok (.aload_n 0, 1) := by decide +kernel
theorem dX12_street_85 : decode cX12_street 85 = .ok (.getfield 212, 3) := by decide +kernel
theorem dX12_street_88 : decode cX12_street 88 = .ok (.iload_n 1, 1) := by decide +kernel
theorem dX12_street_89 : decode cX12_street 89 = .ok (.iconst 1, 1) := by decide +kernel
theorem dX12_street_90 : decode cX12_street 90 = .ok (.bastore, 1) := by decide +kernel
theorem dX12_street_91 : decode cX12_street 91 = .ok (.aload_n 0, 1) := by decide +kernel
theorem dX12_street_92 : decode cX12_street 92 = .ok (.getfield 215, 3) := by decide +kernel
theorem dX12_street_95 : decode cX12_street 95 = .ok (.iload_n 1, 1) := by decide +kernel
theorem dX12_street_96 : decode cX12_street 96 = .ok (.iload_n 2, 1) := by decide +kernel
theorem dX12_street_97 : decode cX12_street 97 = .ok (.iastore, 1) := by decide +kernel
theorem dX12_street_98 : decode cX12_street 98 = .ok (.aload_n 0, 1) := by decide +kernel
theorem dX12_street_99 : decode cX12_street 99 = .ok (.getfield 218, 3) := by decide +kernel
theorem dX12_street_102 : decode cX12_street 102 = .ok (.iload_n 1, 1) := by decide +kernel
theorem dX12_street_103 : decode cX12_street 103 = .ok (.iload_n 3, 1) := by decide +kernel
theorem dX12_street_104 : decode cX12_street 104 = .ok (.iastore, 1) := by decide +kernel
theorem dX12_street_105 : decode cX12_street 105 = .ok (.aload_n 0, 1) := by decide +kernel
theorem dX12_street_106 : decode cX12_street 106 = .ok (.getfield 221, 3) := by decide +kernel
theorem dX12_street_109 : decode cX12_street 109 = .ok (.iconst 3, 1) := by decide +kernel
theorem dX12_street_110 : decode cX12_street 110 = .ok (.iload_n 1, 1) := by decide +kernel
theorem dX12_street_111 : decode cX12_street 111 = .ok (.imul, 1) := by decide +kernel
theorem dX12_street_112 : decode cX12_street 112 = .ok (.iload 4, 2) := by decide +kernel
theorem dX12_street_114 : decode cX12_street 114 = .ok (.iastore, 1) := by decide +kernel
theorem dX12_street_115 : decode cX12_street 115 = .ok (.aload_n 0, 1) := by decide +kernel
theorem dX12_street_116 : decode cX12_street 116 = .ok (.getfield 221, 3) := by decide +kernel
theorem dX12_street_119 : decode cX12_street 119 = .ok (.iconst 3, 1) := by decide +kernel
theorem dX12_street_120 : decode cX12_street 120 = .ok (.iload_n 1, 1) := by decide +kernel
theorem dX12_street_121 : decode cX12_street 121 = .ok (.imul, 1) := by decide +kernel
theorem dX12_street_122 : decode cX12_street 122 = .ok (.iconst 1, 1) := by decide +kernel
theorem dX12_street_123 : decode cX12_street 123 = .ok (.iadd, 1) := by decide +kernel
theorem dX12_street_124 : decode cX12_street 124 = .ok (.iload 5, 2) := by decide +kernel
theorem dX12_street_126 : decode cX12_street 126 = .ok (.iastore, 1) := by decide +kernel
theorem dX12_street_127 : decode cX12_street 127 = .ok (.aload_n 0, 1) := by decide +kernel
theorem dX12_street_128 : decode cX12_street 128 = .ok (.getfield 221, 3) := by decide +kernel
theorem dX12_street_131 : decode cX12_street 131 = .ok (.iconst 3, 1) := by decide +kernel
theorem dX12_street_132 : decode cX12_street 132 = .ok (.iload_n 1, 1) := by decide +kernel
theorem dX12_street_133 : decode cX12_street 133 = .ok (.imul, 1) := by decide +kernel
theorem dX12_street_134 : decode cX12_street 134 = .ok (.iconst 2, 1) := by decide +kernel
theorem dX12_street_135 : decode cX12_street 135 = .ok (.iadd, 1) := by decide +kernel
theorem dX12_street_136 : decode cX12_street 136 = .ok (.iload 6, 2) := by decide +kernel
theorem dX12_street_138 : decode cX12_street 138 = .ok (.iastore, 1) := by decide +kernel
theorem dX12_street_139 : decode cX12_street 139 = .ok (.iconst 1, 1) := by decide +kernel
theorem dX12_street_140 : decode cX12_street 140 = .ok (.ireturn, 1) := by decide +kernel
theorem dX12_trip_0 : decode cX12_trip 0 = .ok (.aload_n 0, 1) := by decide +kernel
theorem dX12_trip_1 : decode cX12_trip 1 = .ok (.iconst 0, 1) := by decide +kernel
theorem dX12_trip_2 : decode cX12_trip 2 = .ok (.putfield 1, 3) := by decide +kernel
theorem dX12_trip_5 : decode cX12_trip 5 = .ok (.iload_n 1, 1) := by decide +kernel
theorem dX12_trip_6 : decode cX12_trip 6 = .ok (.invokestatic 483, 3) := by decide +kernel
theorem dX12_trip_9 : decode cX12_trip 9 = .ok (.ifCond .eq 24, 3) := by decide +kernel
theorem dX12_trip_12 : decode cX12_trip 12 = .ok (.iload_n 2, 1) := by decide +kernel
theorem dX12_trip_13 : decode cX12_trip 13 = .ok (.invokestatic 483, 3) := by decide +kernel
theorem dX12_trip_16 : decode cX12_trip 16 = .ok (.ifCond .eq 17, 3) := by decide +kernel
theorem dX12_trip_19 : decode cX12_trip 19 = .ok (.iload_n 1, 1) := by decide +kernel
theorem dX12_trip_20 : decode cX12_trip 20 = .ok (.iload_n 2, 1) := by decide +kernel
theorem dX12_trip_21 : decode cX12_trip 21 = .ok (.if_icmp .eq 12, 3) := by decide +kernel
theorem dX12_trip_24 : decode cX12_trip 24 = .ok (.aload_n 0, 1) := by decide +kernel
theorem dX12_trip_25 : decode cX12_trip 25 = .ok (.getfield 486, 3) := by decide +kernel
theorem dX12_trip_28 : decode cX12_trip 28 = .ok (.bipush 8, 2) := by decide +kernel
theorem dX12_trip_30 : decode cX12_trip 30 = .ok (.if_icmp .ne 5, 3) := by decide +kernel
theorem dX12_trip_33 : decode cX12_trip 33 = .ok (.iconst (-1), 1) := by decide +kernel
