theorem dX12_goYear_143 : decode cX12_goYear 143 = .ok (.iastore, 1) := by decide +kernel
theorem dX12_goYear_144 : decode cX12_goYear 144 = .ok (.iinc 2 1, 3) := by decide +kernel
theorem dX12_goYear_147 : decode cX12_goYear 147 = .ok (.goto (-140), 3) := by decide +kernel
theorem dX12_goYear_150 : decode cX12_goYear 150 = .ok (.aload_n 0, 1) := by decide +kernel
theorem dX12_goYear_151 : decode cX12_goYear 151 = .ok (.getfield 79, 3) := by decide +kernel
theorem dX12_goYear_154 : decode cX12_goYear 154 = .ok (.bipush 98, 2) := by decide +kernel
theorem dX12_goYear_156 : decode cX12_goYear 156 = .ok (.aload_n 0, 1) := by decide +kernel
theorem dX12_goYear_157 : decode cX12_goYear 157 = .ok (.getfield 79, 3) := by decide +kernel
theorem dX12_goYear_160 : decode cX12_goYear 160 = .ok (.bipush 98, 2) := by decide +kernel
theorem dX12_goYear_162 : decode cX12_goYear 162 = .ok (.iaload, 1) := by decide +kernel
theorem dX12_goYear_163 : decode cX12_goYear 163 = .ok (.sipush 137, 3) := by decide +kernel
theorem dX12_goYear_166 : decode cX12_goYear 166 = .ok (.imul, 1) := by decide +kernel
theorem dX12_goYear_167 : decode cX12_goYear 167 = .ok (.bipush 71, 2) := by decide +kernel
theorem dX12_goYear_169 : decode cX12_goYear 169 = .ok (.iadd, 1) := by decide +kernel
theorem dX12_goYear_170 : decode cX12_goYear 170 = .ok (.sipush 1000, 3) := by decide +kernel
theorem dX12_goYear_173 : decode cX12_goYear 173 = .ok (.irem, 1) := by decide +kernel
theorem dX12_goYear_174 : decode cX12_goYear 174 = .ok (.iastore, 1) := by decide +kernel
theorem dX12_goYear_175 : decode cX12_goYear 175 = .ok (.iconst 0, 1) := by decide +kernel
theorem dX12_goYear_176 : decode cX12_goYear 176 = .ok (.istore_n 2, 1) := by decide +kernel
theorem dX12_goYear_177 : decode cX12_goYear 177 = .ok (.iload_n 2, 1) := by decide +kernel
theorem dX12_goYear_178 : decode cX12_goYear 178 = .ok (.aload_n 0, 1) := by decide +kernel
theorem dX12_goYear_179 : decode cX12_goYear 179 = .ok (.invokevirtual 429, 3) := by decide +kernel
theorem dX12_goYear_182 : decode cX12_goYear 182 = .ok (.if_icmp .ge 49, 3) := by decide +kernel
theorem dX12_goYear_185 : decode cX12_goYear 185 = .ok (.aload_n 0, 1) := by decide +kernel
theorem dX12_goYear_186 : decode cX12_goYear 186 = .ok (.getfield 79, 3) := by decide +kernel
theorem dX12_goYear_189 : decode cX12_goYear 189 = .ok (.bipush 98, 2) := by decide +kernel
theorem dX12_goYear_191 : decode cX12_goYear 191 = .ok (.iaload, 1) := by decide +kernel
theorem dX12_goYear_192 : decode cX12_goYear 192 = .ok (.bipush 100, 2) := by decide +kernel
theorem dX12_goYear_194 : decode cX12_goYear 194 = .ok (.irem, 1) := by decide +kernel
theorem dX12_goYear_195 : decode cX12_goYear 195 = .ok (.aload_n 0, 1) := by decide +kernel
theorem dX12_goYear_196 : decode cX12_goYear 196 = .ok (.getfield 404, 3) := by decide +kernel
theorem dX12_goYear_199 : decode cX12_goYear 199 = .ok (.if_icmp .ge 32, 3) := by decide +kernel
theorem dX12_goYear_202 : decode cX12_goYear 202 = .ok (.aload_n 0, 1) := by decide +kernel
theorem dX12_goYear_203 : decode cX12_goYear 203 = .ok (.getfield 64, 3) := by decide +kernel
theorem dX12_goYear_206 : decode cX12_goYear 206 = .ok (.aload_n 0, 1) := by decide +kernel
theorem dX12_goYear_207 : decode cX12_goYear 207 = .ok (.iload_n 2, 1) := by decide +kernel
theorem dX12_goYear_208 : decode cX12_goYear 208 = .ok (.iconst 3, 1) := by decide +kernel
theorem dX12_goYear_209 : decode cX12_goYear 209 = .ok (.invokevirtual 426, 3) := by decide +kernel
theorem dX12_goYear_212 : decode cX12_goYear 212 = .ok (.baload, 1) := by decide +kernel
theorem dX12_goYear_213 : decode cX12_goYear 213 = .ok (.ifCond .ne 12, 3) := by decide +kernel
theorem dX12_goYear_216 : decode cX12_goYear 216 = .ok (.aload_n 0, 1) := by decide +kernel
theorem dX12_goYear_217 : decode cX12_goYear 217 = .ok (.iload_n 2, 1) := by decide +kernel
theorem dX12_goYear_218 : decode cX12_goYear 218 = .ok (.aload_n 0, 1) := by decide +kernel
theorem dX12_goYear_219 : decode cX12_goYear 219 = .ok (.getfield 73, 3) := by decide +kernel
theorem dX12_goYear_222 : decode cX12_goYear 222 = .ok (.invokevirtual 453, 3) := by decide +kernel
theorem dX12_goYear_225 : decode cX12_goYear 225 = .ok (.iinc 2 1, 3) := by decide +kernel
theorem dX12_goYear_228 : decode cX12_goYear 228 = .ok (.goto (-51), 3) := by decide +kernel
theorem dX12_goYear_231 : decode cX12_goYear 231 = .ok (.aload_n 0, 1) := by decide +kernel
theorem dX12_goYear_232 : decode cX12_goYear 232 = .ok (.getfield 79, 3) := by decide +kernel
theorem dX12_goYear_235 : decode cX12_goYear 235 = .ok (.bipush 97, 2) := by decide +kernel
theorem dX12_goYear_237 : decode cX12_goYear 237 = .ok (.dup2, 1) := by decide +kernel
theorem dX12_goYear_238 : decode cX12_goYear 238 = .ok (.iaload, 1) := by decide +kernel
theorem dX12_goYear_239 : decode cX12_goYear 239 = .ok (.iconst 1, 1) := by decide +kernel
theorem dX12_goYear_240 : decode cX12_goYear 240 = .ok (.iadd, 1) := by decide +kernel
theorem dX12_goYear_241 : decode cX12_goYear 241 = .ok (.iastore, 1) := by decide +kernel
theorem dX12_goYear_242 : decode cX12_goYear 242 = .ok (.iload_n 1, 1) := by decide +kernel
theorem dX12_goYear_243 : decode cX12_goYear 243 = .ok (.aload_n 0, 1) := by decide +kernel
theorem dX12_goYear_244 : decode cX12_goYear 244 = .ok (.invokevirtual 435, 3) := by decide +kernel
theorem dX12_goYear_247 : decode cX12_goYear 247 = .ok (.iconst (-1), 1) := by decide +kernel
theorem dX12_goYear_248 : decode cX12_goYear 248 = .ok (.ixor, 1) := by decide +kernel
theorem dX12_goYear_249 : decode cX12_goYear 249 = .ok (.iand, 1) := by decide +kernel
theorem dX12_goYear_250 : decode cX12_goYear 250 = .ok (.invokestatic 456, 3) := by decide +kernel
theorem dX12_goYear_253 : decode cX12_goYear 253 = .ok (.ireturn, 1) := by decide +kernel
theorem dX12_members_0 : decode cX12_members 0 = .ok (.iconst 0, 1) := by decide +kernel
theorem dX12_members_1 : decode cX12_members 1 = .ok (.istore_n 1, 1) := by decide +kernel
theorem dX12_members_2 : decode cX12_members 2 = .ok (.iconst 0, 1) := by decide +kernel
theorem dX12_members_3 : decode cX12_members 3 = .ok (.istore_n 2, 1) := by decide +kernel
theorem dX12_members_4 : decode cX12_members 4 = .ok (.iload_n 2, 1) := by decide +kernel
theorem dX12_members_5 : decode cX12_members 5 = .ok (.bipush 12, 2) := by decide +kernel
theorem dX12_members_7 : decode cX12_members 7 = .ok (.if_icmp .ge 17, 3) := by decide +kernel
theorem dX12_members_10 : decode cX12_members 10 = .ok (.iload_n 1, 1) := by decide +kernel
theorem dX12_members_11 : decode cX12_members 11 = .ok (.iload_n 0, 1) := by decide +kernel
theorem dX12_members_12 : decode cX12_members 12 = .ok (.iload_n 2, 1) := by decide +kernel
theorem dX12_members_13 : decode cX12_members 13 = .ok (.ishr, 1) := by decide +kernel
theorem dX12_members_14 : decode cX12_members 14 = .ok (.iconst 1, 1) := by decide +kernel
theorem dX12_members_15 : decode cX12_members 15 = .ok (.iand, 1) := by decide +kernel
theorem dX12_members_16 : decode cX12_members 16 = .ok (.iadd, 1) := by decide +kernel
theorem dX12_members_17 : decode cX12_members 17 = .ok (.istore_n 1, 1) := by decide +kernel
theorem dX12_members_18 : decode cX12_members 18 = .ok (.iinc 2 1, 3) := by decide +kernel
theorem dX12_members_21 : decode cX12_members 21 = .ok (.goto (-17), 3) := by decide +kernel
theorem dX12_members_24 : decode cX12_members 24 = .ok (.iload_n 1, 1) := by decide +kernel
theorem dX12_members_25 : decode cX12_members 25 = .ok (.ireturn, 1) := by decide +kernel
theorem dX12_bill_0 : decode cX12_bill 0 = .ok (.aload_n 0, 1) := by decide +kernel
theorem dX12_bill_1 : decode cX12_bill 1 = .ok (.iload_n 1, 1) := by decide +kernel
theorem dX12_bill_2 : decode cX12_bill 2 = .ok (.invokevirtual 459, 3) := by decide +kernel
theorem dX12_bill_5 : decode cX12_bill 5 = .ok (.ifCond .ne 6, 3) := by decide +kernel
theorem dX12_bill_8 : decode cX12_bill 8 = .ok (.bipush (-100), 2) := by decide +kernel
theorem dX12_bill_10 : decode cX12_bill 10 = .ok (.ireturn, 1) := by decide +kernel
theorem dX12_bill_11 : decode cX12_bill 11 = .ok (.aload_n 0, 1) := by decide +kernel
theorem dX12_bill_12 : decode cX12_bill 12 = .ok (.invokevirtual 462, 3) := by decide +kernel
theorem dX12_bill_15 : decode cX12_bill 15 = .ok (.iload_n 2, 1) := by decide +kernel
theorem dX12_bill_16 : decode cX12_bill 16 = .ok (.tableswitch 132 0 9 #[56, 63, 70, 77, 84, 91, 98, 106, 114, 123], 56) := by decide +kernel
theorem dX12_bill_72 : decode cX12_bill 72 = .ok (.aload_n 0, 1) := by decide +kernel
theorem dX12_bill_73 : decode cX12_bill 73 = .ok (.iload_n 1, 1) := by decide +kernel
theorem dX12_bill_74 : decode cX12_bill 74 = .ok (.iconst 0, 1) := by decide +kernel
theorem dX12_bill_75 : decode cX12_bill 75 = .ok (.invokevirtual 426, 3) := by decide +kernel
theorem dX12_bill_78 : decode cX12_bill 78 = .ok (.ireturn, 1) := by decide +kernel
theorem dX12_bill_79 : decode cX12_bill 79 = .ok (.aload_n 0, 1) := by decide +kernel
theorem dX12_bill_80 : decode cX12_bill 80 = .ok (.iload_n 1, 1) := by decide +kernel
theorem dX12_bill_81 : decode cX12_bill 81 = .ok (.iconst 1, 1) := by decide +kernel
theorem dX12_bill_82 : decode cX12_bill 82 = .ok (.invokevirtual 426, 3) := by decide +kernel
theorem dX12_bill_85 : decode cX12_bill 85 = .ok (.ireturn, 1) := by decide +kernel
theorem dX12_bill_86 : decode cX12_bill 86 = .ok (.aload_n 0, 1) := by decide +kernel
theorem dX12_bill_87 : decode cX12_bill 87 = .ok (.iload_n 1, 1) := by decide +kernel
theorem dX12_bill_88 : decode cX12_bill 88 = .ok (.iconst 2, 1) := by decide +kernel
theorem dX12_bill_89 : decode cX12_bill 89 = .ok (.invokevirtual 426, 3) := by decide +kernel
theorem dX12_bill_92 : decode cX12_bill 92 = .ok (.ireturn, 1) := by decide +kernel
theorem dX12_bill_93 : decode cX12_bill 93 = .ok (.aload_n 0, 1) := by decide +kernel
theorem dX12_bill_94 : decode cX12_bill 94 = .ok (.iload_n 1, 1) := by decide +kernel
theorem dX12_bill_95 : decode cX12_bill 95 = .ok (.iconst 3, 1) := by decide +kernel
theorem dX12_bill_96 : decode cX12_bill 96 = .ok (.invokevirtual 426, 3) := by decide +kernel
theorem dX12_bill_99 : decode cX12_bill 99 = .ok (.ireturn, 1) := by decide +kernel
theorem dX12_bill_100 : decode cX12_bill 100 = .ok (.aload_n 0, 1) := by decide +kernel
theorem dX12_bill_101 : decode cX12_bill 101 = .ok (.iload_n 1, 1) := by decide +kernel
theorem dX12_bill_102 : decode cX12_bill 102 = .ok (.iconst 4, 1) := by decide +kernel
theorem dX12_bill_103 : decode cX12_bill 103 = .ok (.invokevirtual 426, 3) := by decide +kernel
theorem dX12_bill_106 : decode cX12_bill 106 = .ok (.ireturn, 1) := by decide +kernel
theorem dX12_bill_107 : decode cX12_bill 107 = .ok (.aload_n 0, 1) := by decide +kernel
theorem dX12_bill_108 : decode cX12_bill 108 = .ok (.iload_n 1, 1) := by decide +kernel
theorem dX12_bill_109 : decode cX12_bill 109 = .ok (.iconst 5, 1) := by decide +kernel
theorem dX12_bill_110 : decode cX12_bill 110 = .ok (.invokevirtual 426, 3) := by decide +kernel
theorem dX12_bill_113 : decode cX12_bill 113 = .ok (.ireturn, 1) := by decide +kernel
theorem dX12_bill_114 : decode cX12_bill 114 = .ok (.aload_n 0, 1) := by decide +kernel
theorem dX12_bill_115 : decode cX12_bill 115 = .ok (.iload_n 1, 1) := by decide +kernel
theorem dX12_bill_116 : decode cX12_bill 116 = .ok (.bipush 6, 2) := by decide +kernel
theorem dX12_bill_118 : decode cX12_bill 118 = .ok (.invokevirtual 426, 3) := by decide +kernel
theorem dX12_bill_121 : decode cX12_bill 121 = .ok (.ireturn, 1) := by decide +kernel
theorem dX12_bill_122 : decode cX12_bill 122 = .ok (.aload_n 0, 1) := by decide +kernel
theorem dX12_bill_123 : decode cX12_bill 123 = .ok (.iload_n 1, 1) := by decide +kernel
theorem dX12_bill_124 : decode cX12_bill 124 = .ok (.bipush 7, 2) := by decide +kernel
theorem dX12_bill_126 : decode cX12_bill 126 = .ok (.invokevirtual 426, 3) := by decide +kernel
theorem dX12_bill_129 : decode cX12_bill 129 = .ok (.ireturn, 1) := by decide +kernel
theorem dX12_bill_130 : decode cX12_bill 130 = .ok (.aload_n 0, 1) := by decide +kernel
theorem dX12_bill_131 : decode cX12_bill 131 = .ok (.invokevirtual 441, 3) := by decide +kernel
theorem dX12_bill_134 : decode cX12_bill 134 = .ok (.iload_n 1, 1) := by decide +kernel
theorem dX12_bill_135 : decode cX12_bill 135 = .ok (.ishr, 1) := by decide +kernel
theorem dX12_bill_136 : decode cX12_bill 136 = .ok (.iconst 1, 1) := by decide +kernel
theorem dX12_bill_137 : decode cX12_bill 137 = .ok (.iand, 1) := by decide +kernel
theorem dX12_bill_138 : decode cX12_bill 138 = .ok (.ireturn, 1) := by decide +kernel
theorem dX12_bill_139 : decode cX12_bill 139 = .ok (.aload_n 0, 1) := by decide +kernel
theorem dX12_bill_140 : decode cX12_bill 140 = .ok (.invokevirtual 438, 3) := by decide +kernel
theorem dX12_bill_143 : decode cX12_bill 143 = .ok (.iload_n 1, 1) := by decide +kernel
theorem dX12_bill_144 : decode cX12_bill 144 = .ok (.ishr, 1) := by decide +kernel
theorem dX12_bill_145 : decode cX12_bill 145 = .ok (.iconst 1, 1) := by decide +kernel
theorem dX12_bill_146 : decode cX12_bill 146 = .ok (.iand, 1) := by decide +kernel
theorem dX12_bill_147 : decode cX12_bill 147 = .ok (.ireturn, 1) := by decide +kernel
theorem dX12_bill_148 : decode cX12_bill 148 = .ok (.bipush (-100), 2) := by decide +kernel
theorem dX12_bill_150 : decode cX12_bill 150 = .ok (.ireturn, 1) := by decide +kernel
theorem dX12_billsAt_0 : decode cX12_billsAt 0 = .ok (.iconst 0, 1) := by decide +kernel
theorem dX12_billsAt_1 : decode cX12_billsAt 1 = .ok (.istore_n 2, 1) := by decide +kernel
theorem dX12_billsAt_2 : decode cX12_billsAt 2 = .ok (.iconst 0, 1) := by decide +kernel
theorem dX12_billsAt_3 : decode cX12_billsAt 3 = .ok (.istore_n 3, 1) := by decide +kernel
theorem dX12_billsAt_4 : decode cX12_billsAt 4 = .ok (.iload_n 3, 1) := by decide +kernel
theorem dX12_billsAt_5 : decode cX12_billsAt 5 = .ok (.aload_n 0, 1) := by decide +kernel
theorem dX12_billsAt_6 : decode cX12_billsAt 6 = .ok (.invokevirtual 429, 3) := by decide +kernel
theorem dX12_billsAt_9 : decode cX12_billsAt 9 = .ok (.if_icmp .ge 32, 3) := by decide +kernel
theorem dX12_billsAt_12 : decode cX12_billsAt 12 = .ok (.iload_n 2, 1) := by decide +kernel
theorem dX12_billsAt_13 : decode cX12_billsAt 13 = .ok (.aload_n 0, 1) := by decide +kernel
theorem dX12_billsAt_14 : decode cX12_billsAt 14 = .ok (.iload_n 3, 1) := by decide +kernel
theorem dX12_billsAt_15 : decode cX12_billsAt 15 = .ok (.iconst 2, 1) := by decide +kernel
theorem dX12_billsAt_16 : decode cX12_billsAt 16 = .ok (.invokevirtual 426, 3) := by decide +kernel
theorem dX12_billsAt_19 : decode cX12_billsAt 19 = .ok (.iload_n 1, 1) := by decide +kernel
theorem dX12_billsAt_20 : decode cX12_billsAt 20 = .ok (.if_icmp .ne 7, 3) := by decide +kernel
theorem dX12_billsAt_23 : decode cX12_billsAt 23 = .ok (.iconst 1, 1) := by decide +kernel
theorem dX12_billsAt_24 : decode cX12_billsAt 24 = .ok (.goto 4, 3) := by decide +kernel
theorem dX12_billsAt_27 : decode cX12_billsAt 27 = .ok (.iconst 0, 1) := by decide +kernel
theorem dX12_billsAt_28 : decode cX12_billsAt 28 = .ok (.invokestatic 307, 3) := by decide +kernel
theorem dX12_billsAt_31 : decode cX12_billsAt 31 = .ok (.iload_n 3, 1) := by decide +kernel
theorem dX12_billsAt_32 : decode cX12_billsAt 32 = .ok (.ishl, 1) := by decide +kernel
theorem dX12_billsAt_33 : decode cX12_billsAt 33 = .ok (.ior, 1) := by decide +kernel
theorem dX12_billsAt_34 : decode cX12_billsAt 34 = .ok (.istore_n 2, 1) := by decide +kernel
theorem dX12_billsAt_35 : decode cX12_billsAt 35 = .ok (.iinc 3 1, 3) := by decide +kernel
theorem dX12_billsAt_38 : decode cX12_billsAt 38 = .ok (.goto (-34), 3) := by decide +kernel
theorem dX12_billsAt_41 : decode cX12_billsAt 41 = .ok (.iload_n 2, 1) := by decide +kernel
theorem dX12_billsAt_42 : decode cX12_billsAt 42 = .ok (.ireturn, 1) := by decide +kernel
theorem dX12_stake_0 : decode cX12_stake 0 = .ok (.aload_n 0, 1) := by decide +kernel
theorem dX12_stake_1 : decode cX12_stake 1 = .ok (.iload_n 1, 1) := by decide +kernel
theorem dX12_stake_2 : decode cX12_stake 2 = .ok (.invokevirtual 465, 3) := by decide +kernel
theorem dX12_stake_5 : decode cX12_stake 5 = .ok (.ifCond .ne 5, 3) := by decide +kernel
theorem dX12_stake_8 : decode cX12_stake 8 = .ok (.iconst (-1), 1) := by decide +kernel
theorem dX12_stake_9 : decode cX12_stake 9 = .ok (.ireturn, 1) := by decide +kernel
theorem dX12_stake_10 : decode cX12_stake 10 = .ok (.aload_n 0, 1) := by decide +kernel
theorem dX12_stake_11 : decode cX12_stake 11 = .ok (.invokevirtual 462, 3) := by decide +kernel
theorem dX12_stake_14 : decode cX12_stake 14 = .ok (.iload_n 2, 1) := by decide +kernel
theorem dX12_stake_15 : decode cX12_stake 15 = .ok (.ifCond .ne 16, 3) := by decide +kernel
theorem dX12_stake_18 : decode cX12_stake 18 = .ok (.aload_n 0, 1) := by decide +kernel
theorem dX12_stake_19 : decode cX12_stake 19 = .ok (.iload_n 1, 1) := by decide +kernel
theorem dX12_stake_20 : decode cX12_stake 20 = .ok (.invokevirtual 468, 3) := by decide +kernel
theorem dX12_stake_23 : decode cX12_stake 23 = .ok (.aload_n 0, 1) := by decide +kernel
theorem dX12_stake_24 : decode cX12_stake 24 = .ok (.invokevirtual 435, 3) := by decide +kernel
theorem dX12_stake_27 : decode cX12_stake 27 = .ok (.iand, 1) := by decide +kernel
theorem dX12_stake_28 : decode cX12_stake 28 = .ok (.goto 22, 3) := by decide +kernel
theorem dX12_stake_31 : decode cX12_stake 31 = .ok (.iload_n 2, 1) := by decide +kernel
theorem dX12_stake_32 : decode cX12_stake 32 = .ok (.iconst 1, 1) := by decide +kernel
theorem dX12_stake_33 : decode cX12_stake 33 = .ok (.if_icmp .ne 16, 3) := by decide +kernel
theorem dX12_stake_36 : decode cX12_stake 36 = .ok (.aload_n 0, 1) := by decide +kernel
theorem dX12_stake_37 : decode cX12_stake 37 = .ok (.iload_n 1, 1) := by decide +kernel
theorem dX12_stake_38 : decode cX12_stake 38 = .ok (.invokevirtual 468, 3) := by decide +kernel
theorem dX12_stake_41 : decode cX12_stake 41 = .ok (.aload_n 0, 1) := by decide +kernel
theorem dX12_stake_42 : decode cX12_stake 42 = .ok (.invokevirtual 441, 3) := by decide +kernel
theorem dX12_stake_45 : decode cX12_stake 45 = .ok (.iand, 1) := by decide +kernel
theorem dX12_stake_46 : decode cX12_stake 46 = .ok (.goto 4, 3) := by decide +kernel
theorem dX12_stake_49 : decode cX12_stake 49 = .ok (.iconst (-1), 1) := by decide +kernel
theorem dX12_stake_50 : decode cX12_stake 50 = .ok (.ireturn, 1) := by decide +kernel
theorem dX12_law_0 : decode cX12_law 0 = .ok (.aload_n 0, 1) := by decide +kernel
theorem dX12_law_1 : decode cX12_law 1 = .ok (.invokevirtual 462, 3) := by decide +kernel
theorem dX12_law_4 : decode cX12_law 4 = .ok (.aload_n 0, 1) := by decide +kernel
theorem dX12_law_5 : decode cX12_law 5 = .ok (.iload_n 1, 1) := by decide +kernel
theorem dX12_law_6 : decode cX12_law 6 = .ok (.invokevirtual 471, 3) := by decide +kernel
theorem dX12_law_9 : decode cX12_law 9 = .ok (.ifCond .eq 11, 3) := by decide +kernel
theorem dX12_law_12 : decode cX12_law 12 = .ok (.aload_n 0, 1) := by decide +kernel
theorem dX12_law_13 : decode cX12_law 13 = .ok (.iload_n 1, 1) := by decide +kernel
theorem dX12_law_14 : decode cX12_law 14 = .ok (.invokevirtual 474, 3) := by decide +kernel
theorem dX12_law_17 : decode cX12_law 17 = .ok (.goto 6, 3) := by decide +kernel
theorem dX12_law_20 : decode cX12_law 20 = .ok (.sipush (-1000), 3) := by decide +kernel
theorem dX12_law_23 : decode cX12_law 23 = .ok (.ireturn, 1) := by decide +kernel
theorem dX12_stands_0 : decode cX12_stands 0 = .ok (.aload_n 0, 1) := by decide +kernel
theorem dX12_stands_1 : decode cX12_stands 1 = .ok (.invokevirtual 462, 3) := by decide +kernel
theorem dX12_stands_4 : decode cX12_stands 4 = .ok (.aload_n 0, 1) := by decide +kernel
theorem dX12_stands_5 : decode cX12_stands 5 = .ok (.invokevirtual 441, 3) := by decide +kernel
theorem dX12_stands_8 : decode cX12_stands 8 = .ok (.ireturn, 1) := by decide +kernel
theorem dX12_kill_0 : decode cX12_kill 0 = .ok (.aload_n 0, 1) := by decide +kernel
theorem dX12_kill_1 : decode cX12_kill 1 = .ok (.getfield 79, 3) := by decide +kernel
theorem dX12_kill_4 : decode cX12_kill 4 = .ok (.bipush 8, 2) := by decide +kernel
theorem dX12_kill_6 : decode cX12_kill 6 = .ok (.iload_n 1, 1) := by decide +kernel
theorem dX12_kill_7 : decode cX12_kill 7 = .ok (.imul, 1) := by decide +kernel
theorem dX12_kill_8 : decode cX12_kill 8 = .ok (.iconst 0, 1) := by decide +kernel
theorem dX12_kill_9 : decode cX12_kill 9 = .ok (.iadd, 1) := by decide +kernel
theorem dX12_kill_10 : decode cX12_kill 10 = .ok (.iconst 0, 1) := by decide +kernel
theorem dX12_kill_11 : decode cX12_kill 11 = .ok (.iastore, 1) := by decide +kernel
theorem dX12_kill_12 : decode cX12_kill 12 = .ok (.return_, 1) := by decide +kernel
theorem dX12_falls_0 : decode cX12_falls 0 = .ok (.aload_n 0, 1) := by decide +kernel
theorem dX12_falls_1 : decode cX12_falls 1 = .ok (.iload_n 1, 1) := by decide +kernel
theorem dX12_falls_2 : decode cX12_falls 2 = .ok (.invokevirtual 459, 3) := by decide +kernel
theorem dX12_falls_5 : decode cX12_falls 5 = .ok (.ifCond .ne 5, 3) := by decide +kernel
theorem dX12_falls_8 : decode cX12_falls 8 = .ok (.iconst (-1), 1) := by decide +kernel
theorem dX12_falls_9 : decode cX12_falls 9 = .ok (.ireturn, 1) := by decide +kernel
theorem dX12_falls_10 : decode cX12_falls 10 = .ok (.aload_n 0, 1) := by decide +kernel
theorem dX12_falls_11 : decode cX12_falls 11 = .ok (.invokevirtual 477, 3) := by decide +kernel
theorem dX12_falls_14 : decode cX12_falls 14 = .ok (.istore_n 2, 1) := by decide +kernel
theorem dX12_falls_15 : decode cX12_falls 15 = .ok (.aload_n 0, 1) := by decide +kernel
theorem dX12_falls_16 : decode cX12_falls 16 = .ok (.iload_n 1, 1) := by decide +kernel
theorem dX12_falls_17 : decode cX12_falls 17 = .ok (.invokevirtual 480, 3) := by decide +kernel
theorem dX12_falls_20 : decode cX12_falls 20 = .ok (.iload_n 2, 1) := by decide +kernel
theorem dX12_falls_21 : decode cX12_falls 21 = .ok (.aload_n 0, 1) := by decide +kernel
theorem dX12_falls_22 : decode cX12_falls 22 = .ok (.invokevirtual 441, 3) := by decide +kernel
theorem dX12_falls_25 : decode cX12_falls 25 = .ok (.iconst (-1), 1) := by decide +kernel
theorem dX12_falls_26 : decode cX12_falls 26 = .ok (.ixor, 1) := by decide +kernel
theorem dX12_falls_27 : decode cX12_falls 27 = .ok (.iand, 1) := by decide +kernel
theorem dX12_falls_28 : decode cX12_falls 28 = .ok (.ireturn, 1) := by decide +kernel
theorem dX12_act_0 : decode cX12_act 0 = .ok (.aload_n 0, 1) := by decide +kernel
theorem dX12_act_1 : decode cX12_act 1 = .ok (.getfield 410, 3) := by decide +kernel
theorem dX12_act_4 : decode cX12_act 4 = .ok (.bipush 40, 2) := by decide +kernel
theorem dX12_act_6 : decode cX12_act 6 = .ok (.if_icmp .ne 43, 3) := by decide +kernel
theorem dX12_act_9 : decode cX12_act 9 = .ok (.iconst 0, 1) := by decide +kernel
theorem dX12_act_10 : decode cX12_act 10 = .ok (.istore_n 1, 1) := by decide +kernel
theorem dX12_act_11 : decode cX12_act 11 = .ok (.iload_n 1, 1) := by decide +kernel
theorem dX12_act_12 : decode cX12_act 12 = .ok (.sipush 3861, 3) := by decide +kernel
theorem dX12_act_15 : decode cX12_act 15 = .ok (.if_icmp .ge 24, 3) := by decide +kernel
theorem dX12_act_18 : decode cX12_act 18 = .ok (.aload_n 0, 1) := by decide +kernel
theorem dX12_act_19 : decode cX12_act 19 = .ok (.getfield 82, 3) := by decide +kernel
theorem dX12_act_22 : decode cX12_act 22 = .ok (.iload_n 1, 1) := by decide +kernel
theorem dX12_act_23 : decode cX12_act 23 = .ok (.aload_n 0, 1) := by decide +kernel
theorem dX12_act_24 : decode cX12_act 24 = .ok (.getfield 82, 3) := by decide +kernel
theorem dX12_act_27 : decode cX12_act 27 = .ok (.bipush 99, 2) := by decide +kernel
theorem dX12_act_29 : decode cX12_act 29 = .ok (.iload_n 1, 1) := by decide +kernel
theorem dX12_act_30 : decode cX12_act 30 = .ok (.iadd, 1) := by decide +kernel
theorem dX12_act_31 : decode cX12_act 31 = .ok (.iaload, 1) := by decide +kernel
theorem dX12_act_32 : decode cX12_act 32 = .ok (.iastore, 1) := by decide +kernel
theorem dX12_act_33 : decode cX12_act 33 = .ok (.iinc 1 1, 3) := by decide +kernel
theorem dX12_act_36 : decode cX12_act 36 = .ok (.goto (-25), 3) := by decide +kernel
theorem dX12_act_39 : decode cX12_act 39 = .ok (.aload_n 0, 1) := by decide +kernel
theorem dX12_act_40 : decode cX12_act 40 = .ok (.dup, 1) := by decide +kernel
theorem dX12_act_41 : decode cX12_act 41 = .ok (.getfield 410, 3) := by decide +kernel
theorem dX12_act_44 : decode cX12_act 44 = .ok (.iconst 1, 1) := by decide +kernel
theorem dX12_act_45 : decode cX12_act 45 = .ok (.isub, 1) := by decide +kernel
theorem dX12_act_46 : decode cX12_act 46 = .ok (.putfield 410, 3) := by decide +kernel
theorem dX12_act_49 : decode cX12_act 49 = .ok (.iconst 0, 1) := by decide +kernel
theorem dX12_act_50 : decode cX12_act 50 = .ok (.istore_n 1, 1) := by decide +kernel
theorem dX12_act_51 : decode cX12_act 51 = .ok (.iload_n 1, 1) := by decide +kernel
theorem dX12_act_52 : decode cX12_act 52 = .ok (.bipush 99, 2) := by decide +kernel
theorem dX12_act_54 : decode cX12_act 54 = .ok (.if_icmp .ge 29, 3) := by decide +kernel
theorem dX12_act_57 : decode cX12_act 57 = .ok (.aload_n 0, 1) := by decide +kernel
theorem dX12_act_58 : decode cX12_act 58 = .ok (.getfield 82, 3) := by decide +kernel
theorem dX12_act_61 : decode cX12_act 61 = .ok (.bipush 99, 2) := by decide +kernel
theorem dX12_act_63 : decode cX12_act 63 = .ok (.aload_n 0, 1) := by decide +kernel
theorem dX12_act_64 : decode cX12_act 64 = .ok (.getfield 410, 3) := by decide +kernel
theorem dX12_act_67 : decode cX12_act 67 = .ok (.imul, 1) := by decide +kernel
theorem dX12_act_68 : decode cX12_act 68 = .ok (.iload_n 1, 1) := by decide +kernel
theorem dX12_act_69 : decode cX12_act 69 = .ok (.iadd, 1) := by decide +kernel
theorem dX12_act_70 : decode cX12_act 70 = .ok (.aload_n 0, 1) := by decide +kernel
theorem dX12_act_71 : decode cX12_act 71 = .ok (.getfield 76, 3) := by decide +kernel
theorem dX12_act_74 : decode cX12_act 74 = .ok (.iload_n 1, 1) := by decide +kernel
theorem dX12_act_75 : decode cX12_act 75 = .ok (.iaload, 1) := by decide +kernel
theorem dX12_act_76 : decode cX12_act 76 = .ok (.iastore, 1) := by decide +kernel
theorem dX12_act_77 : decode cX12_act 77 = .ok (.iinc 1 1, 3) := by decide +kernel
theorem dX12_act_80 : decode cX12_act 80 = .ok (.goto (-29), 3) := by decide +kernel
theorem dX12_act_83 : decode cX12_act 83 = .ok (.aload_n 0, 1) := by decide +kernel
theorem dX12_act_84 : decode cX12_act 84 = .ok (.dup, 1) := by decide +kernel
theorem dX12_act_85 : decode cX12_act 85 = .ok (.getfield 410, 3) := by decide +kernel
theorem dX12_act_88 : decode cX12_act 88 = .ok (.iconst 1, 1) := by decide +kernel
theorem dX12_act_89 : decode cX12_act 89 = .ok (.iadd, 1) := by decide +kernel
theorem dX12_act_90 : decode cX12_act 90 = .ok (.putfield 410, 3) := by decide +kernel
theorem dX12_act_93 : decode cX12_act 93 = .ok (.aload_n 0, 1) := by decide +kernel
theorem dX12_act_94 : decode cX12_act 94 = .ok (.iconst 0, 1) := by decide +kernel
theorem dX12_act_95 : decode cX12_act 95 = .ok (.putfield 413, 3) := by decide +kernel
theorem dX12_act_98 : decode cX12_act 98 = .ok (.return_, 1) := by decide +kernel
theorem dX12_exchange_0 : decode cX12_exchange 0 = .ok (.iconst 0, 1) := by decide +kernel
theorem dX12_exchange_1 : decode cX12_exchange 1 = .ok (.istore_n 2, 1) := by decide +kernel
theorem dX12_exchange_2 : decode cX12_exchange 2 = .ok (.iload_n 2, 1) := by decide +kernel
theorem dX12_exchange_3 : decode cX12_exchange 3 = .ok (.bipush 99, 2) := by decide +kernel
theorem dX12_exchange_5 : decode cX12_exchange 5 = .ok (.if_icmp .ge 39, 3) := by decide +kernel
theorem dX12_exchange_8 : decode cX12_exchange 8 = .ok (.aload_n 0, 1) := by decide +kernel
theorem dX12_exchange_9 : decode cX12_exchange 9 = .ok (.getfield 82, 3) := by decide +kernel
theorem dX12_exchange_12 : decode cX12_exchange 12 = .ok (.iload_n 1, 1) := by decide +kernel
theorem dX12_exchange_13 : decode cX12_exchange 13 = .ok (.iload_n 2, 1) := by decide +kernel
theorem dX12_exchange_14 : decode cX12_exchange 14 = .ok (.iadd, 1) := by decide +kernel
theorem dX12_exchange_15 : decode cX12_exchange 15 = .ok (.iaload, 1) := by decide +kernel
theorem dX12_exchange_16 : decode cX12_exchange 16 = .ok (.istore_n 3, 1) := by decide +kernel
theorem dX12_exchange_17 : decode cX12_exchange 17 = .ok (.aload_n 0, 1) := by decide +kernel
theorem dX12_exchange_18 : decode cX12_exchange 18 = .ok (.getfield 82, 3) := by decide +kernel
theorem dX12_exchange_21 : decode cX12_exchange 21 = .ok (.iload_n 1, 1) := by decide +kernel
theorem dX12_exchange_22 : decode cX12_exchange 22 = .ok (.iload_n 2, 1) := by decide +kernel
theorem dX12_exchange_23 : decode cX12_exchange 23 = .ok (.iadd, 1) := by decide +kernel
theorem dX12_exchange_24 : decode cX12_exchange 24 = .ok (.aload_n 0, 1) := by decide +kernel
theorem dX12_exchange_25 : decode cX12_exchange 25 = .ok (.getfield 76, 3) := by decide +kernel
theorem dX12_exchange_28 : decode cX12_exchange 28 = .ok (.iload_n 2, 1) := by decide +kernel
theorem dX12_exchange_29 : decode cX12_exchange 29 = .ok (.iaload, 1) := by decide +kernel
theorem dX12_exchange_30 : decode cX12_exchange 30 = .ok (.iastore, 1) := by decide +kernel
theorem dX12_exchange_31 : decode cX12_exchange 31 = .ok (.aload_n 0, 1) := by decide +kernel
theorem dX12_exchange_32 : decode cX12_exchange 32 = .ok (.getfield 76, 3) := by decide +kernel
theorem dX12_exchange_35 : decode cX12_exchange 35 = .ok (.iload_n 2, 1) := by decide +kernel
theorem dX12_exchange_36 : decode cX12_exchange 36 = .ok (.iload_n 3, 1) := by decide +kernel
theorem dX12_exchange_37 : decode cX12_exchange 37 = .ok (.iastore, 1) := by decide +kernel
theorem dX12_exchange_38 : decode cX12_exchange 38 = .ok (.iinc 2 1, 3) := by decide +kernel
theorem dX12_exchange_41 : decode cX12_exchange 41 = .ok (.goto (-39), 3) := by decide +kernel
theorem dX12_exchange_44 : decode cX12_exchange 44 = .ok (.return_, 1) := by decide +kernel
theorem dX12_keep_0 : decode cX12_keep 0 = .ok (.iconst 0, 1) := by decide +kernel
theorem dX12_keep_1 : decode cX12_keep 1 = .ok (.istore_n 1, 1) := by decide +kernel
theorem dX12_keep_2 : decode cX12_keep 2 = .ok (.iload_n 1, 1) := by decide +kernel
theorem dX12_keep_3 : decode cX12_keep 3 = .ok (.bipush 99, 2) := by decide +kernel
theorem dX12_keep_5 : decode cX12_keep 5 = .ok (.if_icmp .ge 21, 3) := by decide +kernel
theorem dX12_keep_8 : decode cX12_keep 8 = .ok (.aload_n 0, 1) := by decide +kernel
theorem dX12_keep_9 : decode cX12_keep 9 = .ok (.getfield 76, 3) := by decide +kernel
theorem dX12_keep_12 : decode cX12_keep 12 = .ok (.iload_n 1, 1) := by decide +kernel
theorem dX12_keep_13 : decode cX12_keep 13 = .ok (.aload_n 0, 1) := by decide +kernel
theorem dX12_keep_14 : decode cX12_keep 14 = .ok (.getfield 79, 3) := by decide +kernel
theorem dX12_keep_17 : decode cX12_keep 17 = .ok (.iload_n 1, 1) := by decide +kernel
theorem dX12_keep_18 : decode cX12_keep 18 = .ok (.iaload, 1) := by decide +kernel
theorem dX12_keep_19 : decode cX12_keep 19 = .ok (.iastore, 1) := by decide +kernel
theorem dX12_keep_20 : decode cX12_keep 20 = .ok (.iinc 1 1, 3) := by decide +kernel
theorem dX12_keep_23 : decode cX12_keep 23 = .ok (.goto (-21), 3) := by decide +kernel
theorem dX12_keep_26 : decode cX12_keep 26 = .ok (.return_, 1) := by decide +kernel
theorem dX12_put_0 : decode cX12_put 0 = .ok (.bipush 8, 2) := by decide +kernel
theorem dX12_put_2 : decode cX12_put 2 = .ok (.aload_n 0, 1) := by decide +kernel
theorem dX12_put_3 : decode cX12_put 3 = .ok (.invokevirtual 429, 3) := by decide +kernel
theorem dX12_put_6 : decode cX12_put 6 = .ok (.imul, 1) := by decide +kernel
theorem dX12_put_7 : decode cX12_put 7 = .ok (.istore 7, 2) := by decide +kernel
theorem dX12_put_9 : decode cX12_put 9 = .ok (.aload_n 0, 1) := by decide +kernel
theorem dX12_put_10 : decode cX12_put 10 = .ok (.getfield 79, 3) := by decide +kernel
theorem dX12_put_13 : decode cX12_put 13 = .ok (.iload 7, 2) := by decide +kernel
theorem dX12_put_15 : decode cX12_put 15 = .ok (.iconst 0, 1) := by decide +kernel
theorem dX12_put_16 : decode cX12_put 16 = .ok (.iadd, 1) := by decide +kernel
theorem dX12_put_17 : decode cX12_put 17 = .ok (.aload_n 0, 1) := by decide +kernel
theorem dX12_put_18 : decode cX12_put 18 = .ok (.getfield 45, 3) := by decide +kernel
theorem dX12_put_21 : decode cX12_put 21 = .ok (.iload_n 2, 1) := by decide +kernel
theorem dX12_put_22 : decode cX12_put 22 = .ok (.iaload, 1) := by decide +kernel
theorem dX12_put_23 : decode cX12_put 23 = .ok (.iastore, 1) := by decide +kernel
theorem dX12_put_24 : decode cX12_put 24 = .ok (.aload_n 0, 1) := by decide +kernel
theorem dX12_put_25 : decode cX12_put 25 = .ok (.getfield 79, 3) := by decide +kernel
theorem dX12_put_28 : decode cX12_put 28 = .ok (.iload 7, 2) := by decide +kernel
theorem dX12_put_30 : decode cX12_put 30 = .ok (.iconst 1, 1) := by decide +kernel
theorem dX12_put_31 : decode cX12_put 31 = .ok (.iadd, 1) := by decide +kernel
theorem dX12_put_32 : decode cX12_put 32 = .ok (.iconst 0, 1) := by decide +kernel
theorem dX12_put_33 : decode cX12_put 33 = .ok (.iastore, 1) := by decide +kernel
theorem dX12_put_34 : decode cX12_put 34 = .ok (.aload_n 0, 1) := by decide +kernel
theorem dX12_put_35 : decode cX12_put 35 = .ok (.getfield 79, 3) := by decide +kernel
theorem dX12_put_38 : decode cX12_put 38 = .ok (.iload 7, 2) := by decide +kernel
theorem dX12_put_40 : decode cX12_put 40 = .ok (.iconst 2, 1) := by decide +kernel
theorem dX12_put_41 : decode cX12_put 41 = .ok (.iadd, 1) := by decide +kernel
theorem dX12_put_42 : decode cX12_put 42 = .ok (.iload_n 1, 1) := by decide +kernel
theorem dX12_put_43 : decode cX12_put 43 = .ok (.iastore, 1) := by decide +kernel
theorem dX12_put_44 : decode cX12_put 44 = .ok (.aload_n 0, 1) := by decide +kernel
theorem dX12_put_45 : decode cX12_put 45 = .ok (.getfield 79, 3) := by decide +kernel
theorem dX12_put_48 : decode cX12_put 48 = .ok (.iload 7, 2) := by decide +kernel
theorem dX12_put_50 : decode cX12_put 50 = .ok (.iconst 3, 1) := by decide +kernel
theorem dX12_put_51 : decode cX12_put 51 = .ok (.iadd, 1) := by decide +kernel
theorem dX12_put_52 : decode cX12_put 52 = .ok (.iload_n 2, 1) := by decide +kernel
theorem dX12_put_53 : decode cX12_put 53 = .ok (.iastore, 1) := by decide +kernel
theorem dX12_put_54 : decode cX12_put 54 = .ok (.aload_n 0, 1) := by decide +kernel
theorem dX12_put_55 : decode cX12_put 55 = .ok (.getfield 79, 3) := by decide +kernel
theorem dX12_put_58 : decode cX12_put 58 = .ok (.iload 7, 2) := by decide +kernel
theorem dX12_put_60 : decode cX12_put 60 = .ok (.iconst 4, 1) := by decide +kernel
theorem dX12_put_61 : decode cX12_put 61 = .ok (.iadd, 1) := by decide +kernel
theorem dX12_put_62 : decode cX12_put 62 = .ok (.iload_n 3, 1) := by decide +kernel
theorem dX12_put_63 : decode cX12_put 63 = .ok (.iastore, 1) := by decide +kernel
theorem dX12_put_64 : decode cX12_put 64 = .ok (.aload_n 0, 1) := by decide +kernel
theorem dX12_put_65 : decode cX12_put 65 = .ok (.getfield 79, 3) := by decide +kernel
theorem dX12_put_68 : decode cX12_put 68 = .ok (.iload 7, 2) := by decide +kernel
theorem dX12_put_70 : decode cX12_put 70 = .ok (.iconst 5, 1) := by decide +kernel
theorem dX12_put_71 : decode cX12_put 71 = .ok (.iadd, 1) := by decide +kernel
theorem dX12_put_72 : decode cX12_put 72 = .ok (.iload 4, 2) := by decide +kernel
theorem dX12_put_74 : decode cX12_put 74 = .ok (.iastore, 1) := by decide +kernel
theorem dX12_put_75 : decode cX12_put 75 = .ok (.aload_n 0, 1) := by decide +kernel
theorem dX12_put_76 : decode cX12_put 76 = .ok (.getfield 79, 3) := by decide +kernel
theorem dX12_put_79 : decode cX12_put 79 = .ok (.iload 7, 2) := by decide +kernel
theorem dX12_put_81 : decode cX12_put 81 = .ok (.bipush 6, 2) := by decide +kernel
theorem dX12_put_83 : decode cX12_put 83 = .ok (.iadd, 1) := by decide +kernel
theorem dX12_put_84 : decode cX12_put 84 = .ok (.iload 5, 2) := by decide +kernel
theorem dX12_put_86 : decode cX12_put 86 = .ok (.iastore, 1) := by decide +kernel
theorem dX12_put_87 : decode cX12_put 87 = .ok (.aload_n 0, 1) := by decide +kernel
theorem dX12_put_88 : decode cX12_put 88 = .ok (.getfield 79, 3) := by decide +kernel
theorem dX12_put_91 : decode cX12_put 91 = .ok (.iload 7, 2) := by decide +kernel
theorem dX12_put_93 : decode cX12_put 93 = .ok (.bipush 7, 2) := by decide +kernel
theorem dX12_put_95 : decode cX12_put 95 = .ok (.iadd, 1) := by decide +kernel
theorem dX12_put_96 : decode cX12_put 96 = .ok (.iload 6, 2) := by decide +kernel
theorem dX12_put_98 : decode cX12_put 98 = .ok (.iastore, 1) := by decide +kernel
theorem dX12_put_99 : decode cX12_put 99 = .ok (.aload_n 0, 1) := by decide +kernel
theorem dX12_put_100 : decode cX12_put 100 = .ok (.getfield 79, 3) := by decide +kernel
theorem dX12_put_103 : decode cX12_put 103 = .ok (.bipush 96, 2) := by decide +kernel
theorem dX12_put_105 : decode cX12_put 105 = .ok (.dup2, 1) := by decide +kernel
theorem dX12_put_106 : decode cX12_put 106 = .ok (.iaload, 1) := by decide +kernel
theorem dX12_put_107 : decode cX12_put 107 = .ok (.iconst 1, 1) := by decide +kernel
theorem dX12_put_108 : decode cX12_put 108 = .ok (.iadd, 1) := by decide +kernel
theorem dX12_put_109 : decode cX12_put 109 = .ok (.iastore, 1) := by decide +kernel
theorem dX12_put_110 : decode cX12_put 110 = .ok (.return_, 1) := by decide +kernel
theorem dX12_canPut_0 : decode cX12_canPut 0 = .ok (.aload_n 0, 1) := by decide +kernel
theorem dX12_canPut_1 : decode cX12_canPut 1 = .ok (.iload_n 1, 1) := by decide +kernel
theorem dX12_canPut_2 : decode cX12_canPut 2 = .ok (.invokevirtual 465, 3) := by decide +kernel
theorem dX12_canPut_5 : decode cX12_canPut 5 = .ok (.ifCond .eq 27, 3) := by decide +kernel
theorem dX12_canPut_8 : decode cX12_canPut 8 = .ok (.aload_n 0, 1) := by decide +kernel
theorem dX12_canPut_9 : decode cX12_canPut 9 = .ok (.iload_n 2, 1) := by decide +kernel
theorem dX12_canPut_10 : decode cX12_canPut 10 = .ok (.invokevirtual 483, 3) := by decide +kernel
theorem dX12_canPut_13 : decode cX12_canPut 13 = .ok (.ifCond .eq 19, 3) := by decide +kernel
theorem dX12_canPut_16 : decode cX12_canPut 16 = .ok (.aload_n 0, 1) := by decide +kernel
theorem dX12_canPut_17 : decode cX12_canPut 17 = .ok (.getfield 76, 3) := by decide +kernel
theorem dX12_canPut_20 : decode cX12_canPut 20 = .ok (.bipush 96, 2) := by decide +kernel
theorem dX12_canPut_22 : decode cX12_canPut 22 = .ok (.iaload, 1) := by decide +kernel
theorem dX12_canPut_23 : decode cX12_canPut 23 = .ok (.bipush 12, 2) := by decide +kernel
theorem dX12_canPut_25 : decode cX12_canPut 25 = .ok (.if_icmp .ge 7, 3) := by decide +kernel
theorem dX12_canPut_28 : decode cX12_canPut 28 = .ok (.iconst 1, 1) := by decide +kernel
theorem dX12_canPut_29 : decode cX12_canPut 29 = .ok (.goto 4, 3) := by decide +kernel
theorem dX12_canPut_32 : decode cX12_canPut 32 = .ok (.iconst 0, 1) := by decide +kernel
theorem dX12_canPut_33 : decode cX12_canPut 33 = .ok (.ireturn, 1) := by decide +kernel
theorem dX12_lay_0 : decode cX12_lay 0 = .ok (.aload_n 0, 1) := by decide +kernel
theorem dX12_lay_1 : decode cX12_lay 1 = .ok (.iload_n 1, 1) := by decide +kernel
theorem dX12_lay_2 : decode cX12_lay 2 = .ok (.iload_n 2, 1) := by decide +kernel
theorem dX12_lay_3 : decode cX12_lay 3 = .ok (.invokevirtual 486, 3) := by decide +kernel
theorem dX12_lay_6 : decode cX12_lay 6 = .ok (.ifCond .eq 38, 3) := by decide +kernel
theorem dX12_lay_9 : decode cX12_lay 9 = .ok (.aload_n 0, 1) := by decide +kernel
theorem dX12_lay_10 : decode cX12_lay 10 = .ok (.iload_n 3, 1) := by decide +kernel
theorem dX12_lay_11 : decode cX12_lay 11 = .ok (.invokevirtual 471, 3) := by decide +kernel
theorem dX12_lay_14 : decode cX12_lay 14 = .ok (.ifCond .eq 30, 3) := by decide +kernel
theorem dX12_lay_17 : decode cX12_lay 17 = .ok (.iload 4, 2) := by decide +kernel
theorem dX12_lay_19 : decode cX12_lay 19 = .ok (.bipush (-9), 2) := by decide +kernel
theorem dX12_lay_21 : decode cX12_lay 21 = .ok (.bipush 9, 2) := by decide +kernel
theorem dX12_lay_23 : decode cX12_lay 23 = .ok (.invokestatic 422, 3) := by decide +kernel
theorem dX12_lay_26 : decode cX12_lay 26 = .ok (.ifCond .eq 18, 3) := by decide +kernel
theorem dX12_lay_29 : decode cX12_lay 29 = .ok (.iload 5, 2) := by decide +kernel
theorem dX12_lay_31 : decode cX12_lay 31 = .ok (.iconst (-1), 1) := by decide +kernel
theorem dX12_lay_32 : decode cX12_lay 32 = .ok (.if_icmp .eq 14, 3) := by decide +kernel
theorem dX12_lay_35 : decode cX12_lay 35 = .ok (.aload_n 0, 1) := by decide +kernel
theorem dX12_lay_36 : decode cX12_lay 36 = .ok (.iload 5, 2) := by decide +kernel
theorem dX12_lay_38 : decode cX12_lay 38 = .ok (.invokevirtual 459, 3) := by decide +kernel
theorem dX12_lay_41 : decode cX12_lay 41 = .ok (.ifCond .ne 5, 3) := by decide +kernel
theorem dX12_lay_44 : decode cX12_lay 44 = .ok (.iconst (-1), 1) := by decide +kernel
theorem dX12_lay_45 : decode cX12_lay 45 = .ok (.ireturn, 1) := by decide +kernel
theorem dX12_lay_46 : decode cX12_lay 46 = .ok (.aload_n 0, 1) := by decide +kernel
theorem dX12_lay_47 : decode cX12_lay 47 = .ok (.invokevirtual 490, 3) := by decide +kernel
theorem dX12_lay_50 : decode cX12_lay 50 = .ok (.aload_n 0, 1) := by decide +kernel
theorem dX12_lay_51 : decode cX12_lay 51 = .ok (.invokevirtual 462, 3) := by decide +kernel
theorem dX12_lay_54 : decode cX12_lay 54 = .ok (.aload_n 0, 1) := by decide +kernel
theorem dX12_lay_55 : decode cX12_lay 55 = .ok (.iload_n 1, 1) := by decide +kernel
theorem dX12_lay_56 : decode cX12_lay 56 = .ok (.iload_n 2, 1) := by decide +kernel
theorem dX12_lay_57 : decode cX12_lay 57 = .ok (.iload_n 3, 1) := by decide +kernel
theorem dX12_lay_58 : decode cX12_lay 58 = .ok (.iload 4, 2) := by decide +kernel
theorem dX12_lay_60 : decode cX12_lay 60 = .ok (.iload 5, 2) := by decide +kernel
theorem dX12_lay_62 : decode cX12_lay 62 = .ok (.iconst (-1), 1) := by decide +kernel
theorem dX12_lay_63 : decode cX12_lay 63 = .ok (.invokevirtual 493, 3) := by decide +kernel
theorem dX12_lay_66 : decode cX12_lay 66 = .ok (.aload_n 0, 1) := by decide +kernel
theorem dX12_lay_67 : decode cX12_lay 67 = .ok (.invokevirtual 497, 3) := by decide +kernel
theorem dX12_lay_70 : decode cX12_lay 70 = .ok (.aload_n 0, 1) := by decide +kernel
theorem dX12_lay_71 : decode cX12_lay 71 = .ok (.getfield 76, 3) := by decide +kernel
theorem dX12_lay_74 : decode cX12_lay 74 = .ok (.bipush 96, 2) := by decide +kernel
theorem dX12_lay_76 : decode cX12_lay 76 = .ok (.iaload, 1) := by decide +kernel
theorem dX12_lay_77 : decode cX12_lay 77 = .ok (.iconst 1, 1) := by decide +kernel
theorem dX12_lay_78 : decode cX12_lay 78 = .ok (.isub, 1) := by decide +kernel
theorem dX12_lay_79 : decode cX12_lay 79 = .ok (.ireturn, 1) := by decide +kernel
theorem dX12_repeal_0 : decode cX12_repeal 0 = .ok (.aload_n 0, 1) := by decide +kernel
theorem dX12_repeal_1 : decode cX12_repeal 1 = .ok (.iload_n 1, 1) := by decide +kernel
theorem dX12_repeal_2 : decode cX12_repeal 2 = .ok (.iload_n 2, 1) := by decide +kernel
theorem dX12_repeal_3 : decode cX12_repeal 3 = .ok (.invokevirtual 486, 3) := by decide +kernel
theorem dX12_repeal_6 : decode cX12_repeal 6 = .ok (.ifCond .eq 11, 3) := by decide +kernel
theorem dX12_repeal_9 : decode cX12_repeal 9 = .ok (.aload_n 0, 1) := by decide +kernel
theorem dX12_repeal_10 : decode cX12_repeal 10 = .ok (.iload_n 3, 1) := by decide +kernel
theorem dX12_repeal_11 : decode cX12_repeal 11 = .ok (.invokevirtual 459, 3) := by decide +kernel
theorem dX12_repeal_14 : decode cX12_repeal 14 = .ok (.ifCond .ne 5, 3) := by decide +kernel
theorem dX12_repeal_17 : decode cX12_repeal 17 = .ok (.iconst (-1), 1) := by decide +kernel
theorem dX12_repeal_18 : decode cX12_repeal 18 = .ok (.ireturn, 1) := by decide +kernel
theorem dX12_repeal_19 : decode cX12_repeal 19 = .ok (.aload_n 0, 1) := by decide +kernel
theorem dX12_repeal_20 : decode cX12_repeal 20 = .ok (.invokevirtual 490, 3) := by decide +kernel
theorem dX12_repeal_23 : decode cX12_repeal 23 = .ok (.aload_n 0, 1) := by decide +kernel
theorem dX12_repeal_24 : decode cX12_repeal 24 = .ok (.invokevirtual 462, 3) := by decide +kernel
theorem dX12_repeal_27 : decode cX12_repeal 27 = .ok (.aload_n 0, 1) := by decide +kernel
theorem dX12_repeal_28 : decode cX12_repeal 28 = .ok (.iload_n 1, 1) := by decide +kernel
theorem dX12_repeal_29 : decode cX12_repeal 29 = .ok (.iload_n 2, 1) := by decide +kernel
theorem dX12_repeal_30 : decode cX12_repeal 30 = .ok (.iconst (-1), 1) := by decide +kernel
theorem dX12_repeal_31 : decode cX12_repeal 31 = .ok (.iconst 0, 1) := by decide +kernel
theorem dX12_repeal_32 : decode cX12_repeal 32 = .ok (.iconst (-1), 1) := by decide +kernel
theorem dX12_repeal_33 : decode cX12_repeal 33 = .ok (.iload_n 3, 1) := by decide +kernel
theorem dX12_repeal_34 : decode cX12_repeal 34 = .ok (.invokevirtual 493, 3) := by decide +kernel
theorem dX12_repeal_37 : decode cX12_repeal 37 = .ok (.aload_n 0, 1) := by decide +kernel
theorem dX12_repeal_38 : decode cX12_repeal 38 = .ok (.invokevirtual 497, 3) := by decide +kernel
theorem dX12_repeal_41 : decode cX12_repeal 41 = .ok (.aload_n 0, 1) := by decide +kernel
theorem dX12_repeal_42 : decode cX12_repeal 42 = .ok (.getfield 76, 3) := by decide +kernel
theorem dX12_repeal_45 : decode cX12_repeal 45 = .ok (.bipush 96, 2) := by decide +kernel
theorem dX12_repeal_47 : decode cX12_repeal 47 = .ok (.iaload, 1) := by decide +kernel
theorem dX12_repeal_48 : decode cX12_repeal 48 = .ok (.iconst 1, 1) := by decide +kernel
theorem dX12_repeal_49 : decode cX12_repeal 49 = .ok (.isub, 1) := by decide +kernel
theorem dX12_repeal_50 : decode cX12_repeal 50 = .ok (.ireturn, 1) := by decide +kernel
theorem dX12_pull_0 : decode cX12_pull 0 = .ok (.aload_n 0, 1) := by decide +kernel
theorem dX12_pull_1 : decode cX12_pull 1 = .ok (.iload_n 1, 1) := by decide +kernel
theorem dX12_pull_2 : decode cX12_pull 2 = .ok (.invokevirtual 459, 3) := by decide +kernel
theorem dX12_pull_5 : decode cX12_pull 5 = .ok (.ifCond .eq 17, 3) := by decide +kernel
theorem dX12_pull_8 : decode cX12_pull 8 = .ok (.aload_n 0, 1) := by decide +kernel
theorem dX12_pull_9 : decode cX12_pull 9 = .ok (.getfield 76, 3) := by decide +kernel
theorem dX12_pull_12 : decode cX12_pull 12 = .ok (.bipush 8, 2) := by decide +kernel
theorem dX12_pull_14 : decode cX12_pull 14 = .ok (.iload_n 1, 1) := by decide +kernel
theorem dX12_pull_15 : decode cX12_pull 15 = .ok (.imul, 1) := by decide +kernel
theorem dX12_pull_16 : decode cX12_pull 16 = .ok (.iconst 0, 1) := by decide +kernel
theorem dX12_pull_17 : decode cX12_pull 17 = .ok (.iadd, 1) := by decide +kernel
theorem dX12_pull_18 : decode cX12_pull 18 = .ok (.iaload, 1) := by decide +kernel
theorem dX12_pull_19 : decode cX12_pull 19 = .ok (.ifCond .ne 5, 3) := by decide +kernel
theorem dX12_pull_22 : decode cX12_pull 22 = .ok (.iconst (-1), 1) := by decide +kernel
theorem dX12_pull_23 : decode cX12_pull 23 = .ok (.ireturn, 1) := by decide +kernel
theorem dX12_pull_24 : decode cX12_pull 24 = .ok (.aload_n 0, 1) := by decide +kernel
theorem dX12_pull_25 : decode cX12_pull 25 = .ok (.invokevirtual 490, 3) := by decide +kernel
theorem dX12_pull_28 : decode cX12_pull 28 = .ok (.aload_n 0, 1) := by decide +kernel
theorem dX12_pull_29 : decode cX12_pull 29 = .ok (.getfield 76, 3) := by decide +kernel
theorem dX12_pull_32 : decode cX12_pull 32 = .ok (.bipush 8, 2) := by decide +kernel
theorem dX12_pull_34 : decode cX12_pull 34 = .ok (.iload_n 1, 1) := by decide +kernel
theorem dX12_pull_35 : decode cX12_pull 35 = .ok (.imul, 1) := by decide +kernel
theorem dX12_pull_36 : decode cX12_pull 36 = .ok (.iconst 0, 1) := by decide +kernel
theorem dX12_pull_37 : decode cX12_pull 37 = .ok (.iadd, 1) := by decide +kernel
theorem dX12_pull_38 : decode cX12_pull 38 = .ok (.iaload, 1) := by decide +kernel
theorem dX12_pull_39 : decode cX12_pull 39 = .ok (.istore_n 2, 1) := by decide +kernel
theorem dX12_pull_40 : decode cX12_pull 40 = .ok (.aload_n 0, 1) := by decide +kernel
theorem dX12_pull_41 : decode cX12_pull 41 = .ok (.getfield 76, 3) := by decide +kernel
theorem dX12_pull_44 : decode cX12_pull 44 = .ok (.bipush 8, 2) := by decide +kernel
theorem dX12_pull_46 : decode cX12_pull 46 = .ok (.iload_n 1, 1) := by decide +kernel
theorem dX12_pull_47 : decode cX12_pull 47 = .ok (.imul, 1) := by decide +kernel
theorem dX12_pull_48 : decode cX12_pull 48 = .ok (.iconst 0, 1) := by decide +kernel
theorem dX12_pull_49 : decode cX12_pull 49 = .ok (.iadd, 1) := by decide +kernel
theorem dX12_pull_50 : decode cX12_pull 50 = .ok (.iconst 0, 1) := by decide +kernel
theorem dX12_pull_51 : decode cX12_pull 51 = .ok (.iastore, 1) := by decide +kernel
theorem dX12_pull_52 : decode cX12_pull 52 = .ok (.iload_n 2, 1) := by decide +kernel
theorem dX12_pull_53 : decode cX12_pull 53 = .ok (.ireturn, 1) := by decide +kernel
theorem dX12_trimHere_0 : decode cX12_trimHere 0 = .ok (.iconst 0, 1) := by decide +kernel
theorem dX12_trimHere_1 : decode cX12_trimHere 1 = .ok (.istore_n 3, 1) := by decide +kernel
theorem dX12_trimHere_2 : decode cX12_trimHere 2 = .ok (.iload_n 3, 1) := by decide +kernel
theorem dX12_trimHere_3 : decode cX12_trimHere 3 = .ok (.aload_n 0, 1) := by decide +kernel
theorem dX12_trimHere_4 : decode cX12_trimHere 4 = .ok (.invokevirtual 429, 3) := by decide +kernel
theorem dX12_trimHere_7 : decode cX12_trimHere 7 = .ok (.if_icmp .ge 25, 3) := by decide +kernel
theorem dX12_trimHere_10 : decode cX12_trimHere 10 = .ok (.aload_n 0, 1) := by decide +kernel
theorem dX12_trimHere_11 : decode cX12_trimHere 11 = .ok (.iload_n 3, 1) := by decide +kernel
theorem dX12_trimHere_12 : decode cX12_trimHere 12 = .ok (.iconst 2, 1) := by decide +kernel
theorem dX12_trimHere_13 : decode cX12_trimHere 13 = .ok (.invokevirtual 426, 3) := by decide +kernel
theorem dX12_trimHere_16 : decode cX12_trimHere 16 = .ok (.iload_n 1, 1) := by decide +kernel
theorem dX12_trimHere_17 : decode cX12_trimHere 17 = .ok (.if_icmp .ne 9, 3) := by decide +kernel
theorem dX12_trimHere_20 : decode cX12_trimHere 20 = .ok (.aload_n 0, 1) := by decide +kernel
theorem dX12_trimHere_21 : decode cX12_trimHere 21 = .ok (.iload_n 3, 1) := by decide +kernel
theorem dX12_trimHere_22 : decode cX12_trimHere 22 = .ok (.iload_n 2, 1) := by decide +kernel
theorem dX12_trimHere_23 : decode cX12_trimHere 23 = .ok (.invokevirtual 453, 3) := by decide +kernel
theorem dX12_trimHere_26 : decode cX12_trimHere 26 = .ok (.iinc 3 1, 3) := by decide +kernel
theorem dX12_trimHere_29 : decode cX12_trimHere 29 = .ok (.goto (-27), 3) := by decide +kernel
theorem dX12_trimHere_32 : decode cX12_trimHere 32 = .ok (.return_, 1) := by decide +kernel
theorem dX12_trim_0 : decode cX12_trim 0 = .ok (.iload_n 2, 1) := by decide +kernel
theorem dX12_trim_1 : decode cX12_trim 1 = .ok (.iconst 1, 1) := by decide +kernel
theorem dX12_trim_2 : decode cX12_trim 2 = .ok (.bipush 99, 2) := by decide +kernel
theorem dX12_trim_4 : decode cX12_trim 4 = .ok (.invokestatic 422, 3) := by decide +kernel
theorem dX12_trim_7 : decode cX12_trim 7 = .ok (.ifCond .eq 12, 3) := by decide +kernel
theorem dX12_trim_10 : decode cX12_trim 10 = .ok (.aload_n 0, 1) := by decide +kernel
theorem dX12_trim_11 : decode cX12_trim 11 = .ok (.iload_n 1, 1) := by decide +kernel
theorem dX12_trim_12 : decode cX12_trim 12 = .ok (.iconst 0, 1) := by decide +kernel
theorem dX12_trim_13 : decode cX12_trim 13 = .ok (.invokevirtual 500, 3) := by decide +kernel
theorem dX12_trim_16 : decode cX12_trim 16 = .ok (.ifCond .gt 5, 3) := by decide +kernel
theorem dX12_trim_19 : decode cX12_trim 19 = .ok (.iconst (-1), 1) := by decide +kernel
theorem dX12_trim_20 : decode cX12_trim 20 = .ok (.ireturn, 1) := by decide +kernel
theorem dX12_trim_21 : decode cX12_trim 21 = .ok (.aload_n 0, 1) := by decide +kernel
theorem dX12_trim_22 : decode cX12_trim 22 = .ok (.invokevirtual 490, 3) := by decide +kernel
theorem dX12_trim_25 : decode cX12_trim 25 = .ok (.aload_n 0, 1) := by decide +kernel
theorem dX12_trim_26 : decode cX12_trim 26 = .ok (.invokevirtual 462, 3) := by decide +kernel
theorem dX12_trim_29 : decode cX12_trim 29 = .ok (.aload_n 0, 1) := by decide +kernel
theorem dX12_trim_30 : decode cX12_trim 30 = .ok (.invokevirtual 435, 3) := by decide +kernel
theorem dX12_trim_33 : decode cX12_trim 33 = .ok (.istore_n 3, 1) := by decide +kernel
theorem dX12_trim_34 : decode cX12_trim 34 = .ok (.aload_n 0, 1) := by decide +kernel
theorem dX12_trim_35 : decode cX12_trim 35 = .ok (.iload_n 1, 1) := by decide +kernel
theorem dX12_trim_36 : decode cX12_trim 36 = .ok (.iload_n 2, 1) := by decide +kernel
theorem dX12_trim_37 : decode cX12_trim 37 = .ok (.invokevirtual 503, 3) := by decide +kernel
theorem dX12_trim_40 : decode cX12_trim 40 = .ok (.aload_n 0, 1) := by decide +kernel
theorem dX12_trim_41 : decode cX12_trim 41 = .ok (.invokevirtual 497, 3) := by decide +kernel
theorem dX12_trim_44 : decode cX12_trim 44 = .ok (.iload_n 3, 1) := by decide +kernel
theorem dX12_trim_45 : decode cX12_trim 45 = .ok (.aload_n 0, 1) := by decide +kernel
theorem dX12_trim_46 : decode cX12_trim 46 = .ok (.invokevirtual 435, 3) := by decide +kernel
theorem dX12_trim_49 : decode cX12_trim 49 = .ok (.iconst (-1), 1) := by decide +kernel
theorem dX12_trim_50 : decode cX12_trim 50 = .ok (.ixor, 1) := by decide +kernel
theorem dX12_trim_51 : decode cX12_trim 51 = .ok (.iand, 1) := by decide +kernel
theorem dX12_trim_52 : decode cX12_trim 52 = .ok (.invokestatic 456, 3) := by decide +kernel
theorem dX12_trim_55 : decode cX12_trim 55 = .ok (.ireturn, 1) := by decide +kernel
theorem dX12_year_0 : decode cX12_year 0 = .ok (.aload_n 0, 1) := by decide +kernel
theorem dX12_year_1 : decode cX12_year 1 = .ok (.getfield 76, 3) := by decide +kernel
theorem dX12_year_4 : decode cX12_year 4 = .ok (.bipush 97, 2) := by decide +kernel
theorem dX12_year_6 : decode cX12_year 6 = .ok (.iaload, 1) := by decide +kernel
theorem dX12_year_7 : decode cX12_year 7 = .ok (.sipush 999, 3) := by decide +kernel
theorem dX12_year_10 : decode cX12_year 10 = .ok (.if_icmp .ne 5, 3) := by decide +kernel
theorem dX12_year_13 : decode cX12_year 13 = .ok (.iconst (-1), 1) := by decide +kernel
theorem dX12_year_14 : decode cX12_year 14 = .ok (.ireturn, 1) := by decide +kernel
theorem dX12_year_15 : decode cX12_year 15 = .ok (.aload_n 0, 1) := by decide +kernel
theorem dX12_year_16 : decode cX12_year 16 = .ok (.invokevirtual 490, 3) := by decide +kernel
theorem dX12_year_19 : decode cX12_year 19 = .ok (.aload_n 0, 1) := by decide +kernel
theorem dX12_year_20 : decode cX12_year 20 = .ok (.invokevirtual 462, 3) := by decide +kernel
theorem dX12_year_23 : decode cX12_year 23 = .ok (.aload_n 0, 1) := by decide +kernel
theorem dX12_year_24 : decode cX12_year 24 = .ok (.invokevirtual 506, 3) := by decide +kernel
theorem dX12_year_27 : decode cX12_year 27 = .ok (.istore_n 1, 1) := by decide +kernel
theorem dX12_year_28 : decode cX12_year 28 = .ok (.aload_n 0, 1) := by decide +kernel
theorem dX12_year_29 : decode cX12_year 29 = .ok (.invokevirtual 497, 3) := by decide +kernel
theorem dX12_year_32 : decode cX12_year 32 = .ok (.iload_n 1, 1) := by decide +kernel
theorem dX12_year_33 : decode cX12_year 33 = .ok (.ireturn, 1) := by decide +kernel
theorem dX12_undo_0 : decode cX12_undo 0 = .ok (.aload_n 0, 1) := by decide +kernel
theorem dX12_undo_1 : decode cX12_undo 1 = .ok (.getfield 410, 3) := by decide +kernel
theorem dX12_undo_4 : decode cX12_undo 4 = .ok (.ifCond .ne 5, 3) := by decide +kernel
theorem dX12_undo_7 : decode cX12_undo 7 = .ok (.iconst 0, 1) := by decide +kernel
theorem dX12_undo_8 : decode cX12_undo 8 = .ok (.ireturn, 1) := by decide +kernel
theorem dX12_undo_9 : decode cX12_undo 9 = .ok (.aload_n 0, 1) := by decide +kernel
theorem dX12_undo_10 : decode cX12_undo 10 = .ok (.dup, 1) := by decide +kernel
theorem dX12_undo_11 : decode cX12_undo 11 = .ok (.getfield 410, 3) := by decide +kernel
theorem dX12_undo_14 : decode cX12_undo 14 = .ok (.iconst 1, 1) := by decide +kernel
theorem dX12_undo_15 : decode cX12_undo 15 = .ok (.isub, 1) := by decide +kernel
theorem dX12_undo_16 : decode cX12_undo 16 = .ok (.putfield 410, 3) := by decide +kernel
theorem dX12_undo_19 : decode cX12_undo 19 = .ok (.aload_n 0, 1) := by decide +kernel
theorem dX12_undo_20 : decode cX12_undo 20 = .ok (.dup, 1) := by decide +kernel
theorem dX12_undo_21 : decode cX12_undo 21 = .ok (.getfield 413, 3) := by decide +kernel
theorem dX12_undo_24 : decode cX12_undo 24 = .ok (.iconst 1, 1) := by decide +kernel
theorem dX12_undo_25 : decode cX12_undo 25 = .ok (.iadd, 1) := by decide +kernel
theorem dX12_undo_26 : decode cX12_undo 26 = .ok (.putfield 413, 3) := by decide +kernel
theorem dX12_undo_29 : decode cX12_undo 29 = .ok (.aload_n 0, 1) := by decide +kernel
theorem dX12_undo_30 : decode cX12_undo 30 = .ok (.bipush 99, 2) := by decide +kernel
theorem dX12_undo_32 : decode cX12_undo 32 = .ok (.aload_n 0, 1) := by decide +kernel
theorem dX12_undo_33 : decode cX12_undo 33 = .ok (.getfield 410, 3) := by decide +kernel
theorem dX12_undo_36 : decode cX12_undo 36 = .ok (.imul, 1) := by decide +kernel
theorem dX12_undo_37 : decode cX12_undo 37 = .ok (.invokevirtual 509, 3) := by decide +kernel
theorem dX12_undo_40 : decode cX12_undo 40 = .ok (.iconst 1, 1) := by decide +kernel
theorem dX12_undo_41 : decode cX12_undo 41 = .ok (.ireturn, 1) := by decide +kernel
theorem dX12_redo_0 : decode cX12_redo 0 = .ok (.aload_n 0, 1) := by decide +kernel
theorem dX12_redo_1 : decode cX12_redo 1 = .ok (.getfield 413, 3) := by decide +kernel
theorem dX12_redo_4 : decode cX12_redo 4 = .ok (.ifCond .ne 5, 3) := by decide +kernel
theorem dX12_redo_7 : decode cX12_redo 7 = .ok (.iconst 0, 1) := by decide +kernel
theorem dX12_redo_8 : decode cX12_redo 8 = .ok (.ireturn, 1) := by decide +kernel
theorem dX12_redo_9 : decode cX12_redo 9 = .ok (.aload_n 0, 1) := by decide +kernel
theorem dX12_redo_10 : decode cX12_redo 10 = .ok (.bipush 99, 2) := by decide +kernel
theorem dX12_redo_12 : decode cX12_redo 12 = .ok (.aload_n 0, 1) := by decide +kernel
theorem dX12_redo_13 : decode cX12_redo 13 = .ok (.getfield 410, 3) := by decide +kernel
theorem dX12_redo_16 : decode cX12_redo 16 = .ok (.imul, 1) := by decide +kernel
theorem dX12_redo_17 : decode cX12_redo 17 = .ok (.invokevirtual 509, 3) := by decide +kernel
theorem dX12_redo_20 : decode cX12_redo 20 = .ok (.aload_n 0, 1) := by decide +kernel
theorem dX12_redo_21 : decode cX12_redo 21 = .ok (.dup, 1) := by decide +kernel
theorem dX12_redo_22 : decode cX12_redo 22 = .ok (.getfield 410, 3) := by decide +kernel
theorem dX12_redo_25 : decode cX12_redo 25 = .ok (.iconst 1, 1) := by decide +kernel
theorem dX12_redo_26 : decode cX12_redo 26 = .ok (.iadd, 1) := by decide +kernel
theorem dX12_redo_27 : decode cX12_redo 27 = .ok (.putfield 410, 3) := by decide +kernel
theorem dX12_redo_30 : decode cX12_redo 30 = .ok (.aload_n 0, 1) := by decide +kernel
theorem dX12_redo_31 : decode cX12_redo 31 = .ok (.dup, 1) := by decide +kernel
theorem dX12_redo_32 : decode cX12_redo 32 = .ok (.getfield 413, 3) := by decide +kernel
theorem dX12_redo_35 : decode cX12_redo 35 = .ok (.iconst 1, 1) := by decide +kernel
theorem dX12_redo_36 : decode cX12_redo 36 = .ok (.isub, 1) := by decide +kernel
theorem dX12_redo_37 : decode cX12_redo 37 = .ok (.putfield 413, 3) := by decide +kernel
theorem dX12_redo_40 : decode cX12_redo 40 = .ok (.iconst 1, 1) := by decide +kernel
theorem dX12_redo_41 : decode cX12_redo 41 = .ok (.ireturn, 1) := by decide +kernel
theorem dX12_goFar_0 : decode cX12_goFar 0 = .ok (.aload_n 0, 1) := by decide +kernel
theorem dX12_goFar_1 : decode cX12_goFar 1 = .ok (.invokevirtual 462, 3) := by decide +kernel
theorem dX12_goFar_4 : decode cX12_goFar 4 = .ok (.iconst 0, 1) := by decide +kernel
theorem dX12_goFar_5 : decode cX12_goFar 5 = .ok (.istore_n 2, 1) := by decide +kernel
theorem dX12_goFar_6 : decode cX12_goFar 6 = .ok (.iload_n 2, 1) := by decide +kernel
theorem dX12_goFar_7 : decode cX12_goFar 7 = .ok (.iload_n 1, 1) := by decide +kernel
theorem dX12_goFar_8 : decode cX12_goFar 8 = .ok (.if_icmp .ge 14, 3) := by decide +kernel
theorem dX12_goFar_11 : decode cX12_goFar 11 = .ok (.aload_n 0, 1) := by decide +kernel
theorem dX12_goFar_12 : decode cX12_goFar 12 = .ok (.invokevirtual 506, 3) := by decide +kernel
theorem dX12_goFar_15 : decode cX12_goFar 15 = .ok (.pop, 1) := by decide +kernel
theorem dX12_goFar_16 : decode cX12_goFar 16 = .ok (.iinc 2 1, 3) := by decide +kernel
theorem dX12_goFar_19 : decode cX12_goFar 19 = .ok (.goto (-13), 3) := by decide +kernel
theorem dX12_goFar_22 : decode cX12_goFar 22 = .ok (.return_, 1) := by decide +kernel
theorem dX12_will_0 : decode cX12_will 0 = .ok (.aload_n 0, 1) := by decide +kernel
theorem dX12_will_1 : decode cX12_will 1 = .ok (.iload_n 1, 1) := by decide +kernel
theorem dX12_will_2 : decode cX12_will 2 = .ok (.invokevirtual 471, 3) := by decide +kernel
theorem dX12_will_5 : decode cX12_will 5 = .ok (.ifCond .eq 13, 3) := by decide +kernel
theorem dX12_will_8 : decode cX12_will 8 = .ok (.iload_n 2, 1) := by decide +kernel
theorem dX12_will_9 : decode cX12_will 9 = .ok (.iconst 0, 1) := by decide +kernel
theorem dX12_will_10 : decode cX12_will 10 = .ok (.bipush 60, 2) := by decide +kernel
theorem dX12_will_12 : decode cX12_will 12 = .ok (.invokestatic 422, 3) := by decide +kernel
theorem dX12_will_15 : decode cX12_will 15 = .ok (.ifCond .ne 7, 3) := by decide +kernel
theorem dX12_will_18 : decode cX12_will 18 = .ok (.sipush (-1000), 3) := by decide +kernel
theorem dX12_will_21 : decode cX12_will 21 = .ok (.ireturn, 1) := by decide +kernel
theorem dX12_will_22 : decode cX12_will 22 = .ok (.aload_n 0, 1) := by decide +kernel
theorem dX12_will_23 : decode cX12_will 23 = .ok (.iload_n 2, 1) := by decide +kernel
theorem dX12_will_24 : decode cX12_will 24 = .ok (.invokevirtual 512, 3) := by decide +kernel
theorem dX12_will_27 : decode cX12_will 27 = .ok (.aload_n 0, 1) := by decide +kernel
theorem dX12_will_28 : decode cX12_will 28 = .ok (.iload_n 1, 1) := by decide +kernel
theorem dX12_will_29 : decode cX12_will 29 = .ok (.invokevirtual 474, 3) := by decide +kernel
theorem dX12_will_32 : decode cX12_will 32 = .ok (.ireturn, 1) := by decide +kernel
theorem dX12_lapse_0 : decode cX12_lapse 0 = .ok (.aload_n 0, 1) := by decide +kernel
theorem dX12_lapse_1 : decode cX12_lapse 1 = .ok (.iload_n 1, 1) := by decide +kernel
theorem dX12_lapse_2 : decode cX12_lapse 2 = .ok (.invokevirtual 471, 3) := by decide +kernel
theorem dX12_lapse_5 : decode cX12_lapse 5 = .ok (.ifCond .ne 5, 3) := by decide +kernel
theorem dX12_lapse_8 : decode cX12_lapse 8 = .ok (.iconst (-1), 1) := by decide +kernel
theorem dX12_lapse_9 : decode cX12_lapse 9 = .ok (.ireturn, 1) := by decide +kernel
theorem dX12_lapse_10 : decode cX12_lapse 10 = .ok (.aload_n 0, 1) := by decide +kernel
theorem dX12_lapse_11 : decode cX12_lapse 11 = .ok (.iload_n 1, 1) := by decide +kernel
theorem dX12_lapse_12 : decode cX12_lapse 12 = .ok (.invokevirtual 515, 3) := by decide +kernel
theorem dX12_lapse_15 : decode cX12_lapse 15 = .ok (.istore_n 2, 1) := by decide +kernel
theorem dX12_lapse_16 : decode cX12_lapse 16 = .ok (.iconst 1, 1) := by decide +kernel
theorem dX12_lapse_17 : decode cX12_lapse 17 = .ok (.istore_n 3, 1) := by decide +kernel
theorem dX12_lapse_18 : decode cX12_lapse 18 = .ok (.iload_n 3, 1) := by decide +kernel
theorem dX12_lapse_19 : decode cX12_lapse 19 = .ok (.bipush 60, 2) := by decide +kernel
theorem dX12_lapse_21 : decode cX12_lapse 21 = .ok (.if_icmp .gt 25, 3) := by decide +kernel
theorem dX12_lapse_24 : decode cX12_lapse 24 = .ok (.aload_n 0, 1) := by decide +kernel
theorem dX12_lapse_25 : decode cX12_lapse 25 = .ok (.invokevirtual 506, 3) := by decide +kernel
theorem dX12_lapse_28 : decode cX12_lapse 28 = .ok (.pop, 1) := by decide +kernel
theorem dX12_lapse_29 : decode cX12_lapse 29 = .ok (.aload_n 0, 1) := by decide +kernel
theorem dX12_lapse_30 : decode cX12_lapse 30 = .ok (.iload_n 1, 1) := by decide +kernel
theorem dX12_lapse_31 : decode cX12_lapse 31 = .ok (.invokevirtual 474, 3) := by decide +kernel
theorem dX12_lapse_34 : decode cX12_lapse 34 = .ok (.iload_n 2, 1) := by decide +kernel
theorem dX12_lapse_35 : decode cX12_lapse 35 = .ok (.if_icmp .eq 5, 3) := by decide +kernel
theorem dX12_lapse_38 : decode cX12_lapse 38 = .ok (.iload_n 3, 1) := by decide +kernel
theorem dX12_lapse_39 : decode cX12_lapse 39 = .ok (.ireturn, 1) := by decide +kernel
theorem dX12_lapse_40 : decode cX12_lapse 40 = .ok (.iinc 3 1, 3) := by decide +kernel
theorem dX12_lapse_43 : decode cX12_lapse 43 = .ok (.goto (-25), 3) := by decide +kernel
theorem dX12_lapse_46 : decode cX12_lapse 46 = .ok (.iconst (-1), 1) := by decide +kernel
theorem dX12_lapse_47 : decode cX12_lapse 47 = .ok (.ireturn, 1) := by decide +kernel
theorem dX12_dies_0 : decode cX12_dies 0 = .ok (.aload_n 0, 1) := by decide +kernel
theorem dX12_dies_1 : decode cX12_dies 1 = .ok (.iload_n 1, 1) := by decide +kernel
theorem dX12_dies_2 : decode cX12_dies 2 = .ok (.invokevirtual 459, 3) := by decide +kernel
theorem dX12_dies_5 : decode cX12_dies 5 = .ok (.ifCond .ne 5, 3) := by decide +kernel
theorem dX12_dies_8 : decode cX12_dies 8 = .ok (.iconst (-1), 1) := by decide +kernel
theorem dX12_dies_9 : decode cX12_dies 9 = .ok (.ireturn, 1) := by decide +kernel
theorem dX12_dies_10 : decode cX12_dies 10 = .ok (.aload_n 0, 1) := by decide +kernel
theorem dX12_dies_11 : decode cX12_dies 11 = .ok (.invokevirtual 462, 3) := by decide +kernel
theorem dX12_dies_14 : decode cX12_dies 14 = .ok (.iconst 0, 1) := by decide +kernel
theorem dX12_dies_15 : decode cX12_dies 15 = .ok (.istore_n 2, 1) := by decide +kernel
theorem dX12_dies_16 : decode cX12_dies 16 = .ok (.iload_n 2, 1) := by decide +kernel
theorem dX12_dies_17 : decode cX12_dies 17 = .ok (.bipush 60, 2) := by decide +kernel
theorem dX12_dies_19 : decode cX12_dies 19 = .ok (.if_icmp .gt 24, 3) := by decide +kernel
theorem dX12_dies_22 : decode cX12_dies 22 = .ok (.aload_n 0, 1) := by decide +kernel
theorem dX12_dies_23 : decode cX12_dies 23 = .ok (.iload_n 1, 1) := by decide +kernel
theorem dX12_dies_24 : decode cX12_dies 24 = .ok (.invokevirtual 432, 3) := by decide +kernel
theorem dX12_dies_27 : decode cX12_dies 27 = .ok (.ifCond .ne 5, 3) := by decide +kernel
theorem dX12_dies_30 : decode cX12_dies 30 = .ok (.iload_n 2, 1) := by decide +kernel
theorem dX12_dies_31 : decode cX12_dies 31 = .ok (.ireturn, 1) := by decide +kernel
theorem dX12_dies_32 : decode cX12_dies 32 = .ok (.aload_n 0, 1) := by decide +kernel
theorem dX12_dies_33 : decode cX12_dies 33 = .ok (.invokevirtual 506, 3) := by decide +kernel
theorem dX12_dies_36 : decode cX12_dies 36 = .ok (.pop, 1) := by decide +kernel
theorem dX12_dies_37 : decode cX12_dies 37 = .ok (.iinc 2 1, 3) := by decide +kernel
theorem dX12_dies_40 : decode cX12_dies 40 = .ok (.goto (-24), 3) := by decide +kernel
theorem dX12_dies_43 : decode cX12_dies 43 = .ok (.iconst (-1), 1) := by decide +kernel
theorem dX12_dies_44 : decode cX12_dies 44 = .ok (.ireturn, 1) := by decide +kernel
theorem dX12_living_0 : decode cX12_living 0 = .ok (.iload_n 1, 1) := by decide +kernel
theorem dX12_living_1 : decode cX12_living 1 = .ok (.iconst 0, 1) := by decide +kernel
theorem dX12_living_2 : decode cX12_living 2 = .ok (.bipush 60, 2) := by decide +kernel
theorem dX12_living_4 : decode cX12_living 4 = .ok (.invokestatic 422, 3) := by decide +kernel
theorem dX12_living_7 : decode cX12_living 7 = .ok (.ifCond .ne 5, 3) := by decide +kernel
theorem dX12_living_10 : decode cX12_living 10 = .ok (.iconst (-1), 1) := by decide +kernel
theorem dX12_living_11 : decode cX12_living 11 = .ok (.ireturn, 1) := by decide +kernel
theorem dX12_living_12 : decode cX12_living 12 = .ok (.aload_n 0, 1) := by decide +kernel
theorem dX12_living_13 : decode cX12_living 13 = .ok (.iload_n 1, 1) := by decide +kernel
theorem dX12_living_14 : decode cX12_living 14 = .ok (.invokevirtual 512, 3) := by decide +kernel
theorem dX12_living_17 : decode cX12_living 17 = .ok (.aload_n 0, 1) := by decide +kernel
theorem dX12_living_18 : decode cX12_living 18 = .ok (.invokevirtual 435, 3) := by decide +kernel
theorem dX12_living_21 : decode cX12_living 21 = .ok (.ireturn, 1) := by decide +kernel
theorem dX12_isPlain_0 : decode cX12_isPlain 0 = .ok (.iload_n 1, 1) := by decide +kernel
theorem dX12_isPlain_1 : decode cX12_isPlain 1 = .ok (.iload_n 2, 1) := by decide +kernel
theorem dX12_isPlain_2 : decode cX12_isPlain 2 = .ok (.ishr, 1) := by decide +kernel
theorem dX12_isPlain_3 : decode cX12_isPlain 3 = .ok (.iconst 1, 1) := by decide +kernel
theorem dX12_isPlain_4 : decode cX12_isPlain 4 = .ok (.iand, 1) := by decide +kernel
theorem dX12_isPlain_5 : decode cX12_isPlain 5 = .ok (.iconst 1, 1) := by decide +kernel
theorem dX12_isPlain_6 : decode cX12_isPlain 6 = .ok (.if_icmp .ne 26, 3) := by decide +kernel
theorem dX12_isPlain_9 : decode cX12_isPlain 9 = .ok (.aload_n 0, 1) := by decide +kernel
theorem dX12_isPlain_10 : decode cX12_isPlain 10 = .ok (.iload_n 2, 1) := by decide +kernel
theorem dX12_isPlain_11 : decode cX12_isPlain 11 = .ok (.bipush 6, 2) := by decide +kernel
theorem dX12_isPlain_13 : decode cX12_isPlain 13 = .ok (.invokevirtual 426, 3) := by decide +kernel
theorem dX12_isPlain_16 : decode cX12_isPlain 16 = .ok (.ifCond .ge 16, 3) := by decide +kernel
theorem dX12_isPlain_19 : decode cX12_isPlain 19 = .ok (.aload_n 0, 1) := by decide +kernel
theorem dX12_isPlain_20 : decode cX12_isPlain 20 = .ok (.iload_n 2, 1) := by decide +kernel
theorem dX12_isPlain_21 : decode cX12_isPlain 21 = .ok (.iconst 4, 1) := by decide +kernel
theorem dX12_isPlain_22 : decode cX12_isPlain 22 = .ok (.invokevirtual 426, 3) := by decide +kernel
theorem dX12_isPlain_25 : decode cX12_isPlain 25 = .ok (.ifCond .lt 7, 3) := by decide +kernel
theorem dX12_isPlain_28 : decode cX12_isPlain 28 = .ok (.iconst 1, 1) := by decide +kernel
theorem dX12_isPlain_29 : decode cX12_isPlain 29 = .ok (.goto 4, 3) := by decide +kernel
theorem dX12_isPlain_32 : decode cX12_isPlain 32 = .ok (.iconst 0, 1) := by decide +kernel
theorem dX12_isPlain_33 : decode cX12_isPlain 33 = .ok (.ireturn, 1) := by decide +kernel
theorem dX12_clashesHere_0 : decode cX12_clashesHere 0 = .ok (.aload_n 0, 1) := by decide +kernel
theorem dX12_clashesHere_1 : decode cX12_clashesHere 1 = .ok (.invokevirtual 441, 3) := by decide +kernel
theorem dX12_clashesHere_4 : decode cX12_clashesHere 4 = .ok (.istore_n 1, 1) := by decide +kernel
theorem dX12_clashesHere_5 : decode cX12_clashesHere 5 = .ok (.iconst 0, 1) := by decide +kernel
theorem dX12_clashesHere_6 : decode cX12_clashesHere 6 = .ok (.istore_n 2, 1) := by decide +kernel
theorem dX12_clashesHere_7 : decode cX12_clashesHere 7 = .ok (.iconst 0, 1) := by decide +kernel
theorem dX12_clashesHere_8 : decode cX12_clashesHere 8 = .ok (.istore_n 3, 1) := by decide +kernel
theorem dX12_clashesHere_9 : decode cX12_clashesHere 9 = .ok (.iload_n 3, 1) := by decide +kernel
theorem dX12_clashesHere_10 : decode cX12_clashesHere 10 = .ok (.aload_n 0, 1) := by decide +kernel
theorem dX12_clashesHere_11 : decode cX12_clashesHere 11 = .ok (.invokevirtual 429, 3) := by decide +kernel
theorem dX12_clashesHere_14 : decode cX12_clashesHere 14 = .ok (.if_icmp .ge 86, 3) := by decide +kernel
theorem dX12_clashesHere_17 : decode cX12_clashesHere 17 = .ok (.iconst 0, 1) := by decide +kernel
theorem dX12_clashesHere_18 : decode cX12_clashesHere 18 = .ok (.istore 4, 2) := by decide +kernel
theorem dX12_clashesHere_20 : decode cX12_clashesHere 20 = .ok (.iload 4, 2) := by decide +kernel
theorem dX12_clashesHere_22 : decode cX12_clashesHere 22 = .ok (.iload_n 3, 1) := by decide +kernel
theorem dX12_clashesHere_23 : decode cX12_clashesHere 23 = .ok (.if_icmp .ge 71, 3) := by decide +kernel
theorem dX12_clashesHere_26 : decode cX12_clashesHere 26 = .ok (.iload_n 2, 1) := by decide +kernel
theorem dX12_clashesHere_27 : decode cX12_clashesHere 27 = .ok (.aload_n 0, 1) := by decide +kernel
theorem dX12_clashesHere_28 : decode cX12_clashesHere 28 = .ok (.iload_n 1, 1) := by decide +kernel
theorem dX12_clashesHere_29 : decode cX12_clashesHere 29 = .ok (.iload_n 3, 1) := by decide +kernel
theorem dX12_clashesHere_30 : decode cX12_clashesHere 30 = .ok (.invokevirtual 518, 3) := by decide +kernel
theorem dX12_clashesHere_33 : decode cX12_clashesHere 33 = .ok (.ifCond .eq 49, 3) := by decide +kernel
theorem dX12_clashesHere_36 : decode cX12_clashesHere 36 = .ok (.aload_n 0, 1) := by decide +kernel
theorem dX12_clashesHere_37 : decode cX12_clashesHere 37 = .ok (.iload_n 1, 1) := by decide +kernel
theorem dX12_clashesHere_38 : decode cX12_clashesHere 38 = .ok (.iload 4, 2) := by decide +kernel
theorem dX12_clashesHere_40 : decode cX12_clashesHere 40 = .ok (.invokevirtual 518, 3) := by decide +kernel
theorem dX12_clashesHere_43 : decode cX12_clashesHere 43 = .ok (.ifCond .eq 39, 3) := by decide +kernel
theorem dX12_clashesHere_46 : decode cX12_clashesHere 46 = .ok (.aload_n 0, 1) := by decide +kernel
theorem dX12_clashesHere_47 : decode cX12_clashesHere 47 = .ok (.iload_n 3, 1) := by decide +kernel
theorem dX12_clashesHere_48 : decode cX12_clashesHere 48 = .ok (.iconst 4, 1) := by decide +kernel
theorem dX12_clashesHere_49 : decode cX12_clashesHere 49 = .ok (.invokevirtual 426, 3) := by decide +kernel
theorem dX12_clashesHere_52 : decode cX12_clashesHere 52 = .ok (.aload_n 0, 1) := by decide +kernel
theorem dX12_clashesHere_53 : decode cX12_clashesHere 53 = .ok (.iload 4, 2) := by decide +kernel
theorem dX12_clashesHere_55 : decode cX12_clashesHere 55 = .ok (.iconst 4, 1) := by decide +kernel
theorem dX12_clashesHere_56 : decode cX12_clashesHere 56 = .ok (.invokevirtual 426, 3) := by decide +kernel
theorem dX12_clashesHere_59 : decode cX12_clashesHere 59 = .ok (.if_icmp .ne 23, 3) := by decide +kernel
theorem dX12_clashesHere_62 : decode cX12_clashesHere 62 = .ok (.aload_n 0, 1) := by decide +kernel
theorem dX12_clashesHere_63 : decode cX12_clashesHere 63 = .ok (.iload_n 3, 1) := by decide +kernel
theorem dX12_clashesHere_64 : decode cX12_clashesHere 64 = .ok (.iconst 5, 1) := by decide +kernel
theorem dX12_clashesHere_65 : decode cX12_clashesHere 65 = .ok (.invokevirtual 426, 3) := by decide +kernel
theorem dX12_clashesHere_68 : decode cX12_clashesHere 68 = .ok (.aload_n 0, 1) := by decide +kernel
theorem dX12_clashesHere_69 : decode cX12_clashesHere 69 = .ok (.iload 4, 2) := by decide +kernel
theorem dX12_clashesHere_71 : decode cX12_clashesHere 71 = .ok (.iconst 5, 1) := by decide +kernel
theorem dX12_clashesHere_72 : decode cX12_clashesHere 72 = .ok (.invokevirtual 426, 3) := by decide +kernel
theorem dX12_clashesHere_75 : decode cX12_clashesHere 75 = .ok (.if_icmp .eq 7, 3) := by decide +kernel
theorem dX12_clashesHere_78 : decode cX12_clashesHere 78 = .ok (.iconst 1, 1) := by decide +kernel
theorem dX12_clashesHere_79 : decode cX12_clashesHere 79 = .ok (.goto 4, 3) := by decide +kernel
theorem dX12_clashesHere_82 : decode cX12_clashesHere 82 = .ok (.iconst 0, 1) := by decide +kernel
theorem dX12_clashesHere_83 : decode cX12_clashesHere 83 = .ok (.invokestatic 307, 3) := by decide +kernel
theorem dX12_clashesHere_86 : decode cX12_clashesHere 86 = .ok (.iadd, 1) := by decide +kernel
theorem dX12_clashesHere_87 : decode cX12_clashesHere 87 = .ok (.istore_n 2, 1) := by decide +kernel
theorem dX12_clashesHere_88 : decode cX12_clashesHere 88 = .ok (.iinc 4 1, 3) := by decide +kernel
theorem dX12_clashesHere_91 : decode cX12_clashesHere 91 = .ok (.goto (-71), 3) := by decide +kernel
theorem dX12_clashesHere_94 : decode cX12_clashesHere 94 = .ok (.iinc 3 1, 3) := by decide +kernel
theorem dX12_clashesHere_97 : decode cX12_clashesHere 97 = .ok (.goto (-88), 3) := by decide +kernel
theorem dX12_clashesHere_100 : decode cX12_clashesHere 100 = .ok (.iload_n 2, 1) := by decide +kernel
theorem dX12_clashesHere_101 : decode cX12_clashesHere 101 = .ok (.ireturn, 1) := by decide +kernel
theorem dX12_clashes_0 : decode cX12_clashes 0 = .ok (.aload_n 0, 1) := by decide +kernel
theorem dX12_clashes_1 : decode cX12_clashes 1 = .ok (.invokevirtual 462, 3) := by decide +kernel
theorem dX12_clashes_4 : decode cX12_clashes 4 = .ok (.aload_n 0, 1) := by decide +kernel
theorem dX12_clashes_5 : decode cX12_clashes 5 = .ok (.invokevirtual 521, 3) := by decide +kernel
theorem dX12_clashes_8 : decode cX12_clashes 8 = .ok (.ireturn, 1) := by decide +kernel
theorem dX12_weed_0 : decode cX12_weed 0 = .ok (.iload_n 1, 1) := by decide +kernel
theorem dX12_weed_1 : decode cX12_weed 1 = .ok (.iconst 0, 1) := by decide +kernel
theorem dX12_weed_2 : decode cX12_weed 2 = .ok (.iconst 1, 1) := by decide +kernel
theorem dX12_weed_3 : decode cX12_weed 3 = .ok (.invokestatic 422, 3) := by decide +kernel
theorem dX12_weed_6 : decode cX12_weed 6 = .ok (.ifCond .ne 5, 3) := by decide +kernel
theorem dX12_weed_9 : decode cX12_weed 9 = .ok (.iconst (-1), 1) := by decide +kernel
theorem dX12_weed_10 : decode cX12_weed 10 = .ok (.ireturn, 1) := by decide +kernel
theorem dX12_weed_11 : decode cX12_weed 11 = .ok (.iconst (-1), 1) := by decide +kernel
theorem dX12_weed_12 : decode cX12_weed 12 = .ok (.istore_n 2, 1) := by decide +kernel
theorem dX12_weed_13 : decode cX12_weed 13 = .ok (.iconst 0, 1) := by decide +kernel
theorem dX12_weed_14 : decode cX12_weed 14 = .ok (.istore_n 3, 1) := by decide +kernel
theorem dX12_weed_15 : decode cX12_weed 15 = .ok (.iload_n 3, 1) := by decide +kernel
theorem dX12_weed_16 : decode cX12_weed 16 = .ok (.iconst 1, 1) := by decide +kernel
theorem dX12_weed_17 : decode cX12_weed 17 = .ok (.aload_n 0, 1) := by decide +kernel
theorem dX12_weed_18 : decode cX12_weed 18 = .ok (.getfield 76, 3) := by decide +kernel
theorem dX12_weed_21 : decode cX12_weed 21 = .ok (.bipush 96, 2) := by decide +kernel
theorem dX12_weed_23 : decode cX12_weed 23 = .ok (.iaload, 1) := by decide +kernel
theorem dX12_weed_24 : decode cX12_weed 24 = .ok (.ishl, 1) := by decide +kernel
theorem dX12_weed_25 : decode cX12_weed 25 = .ok (.if_icmp .ge 74, 3) := by decide +kernel
theorem dX12_weed_28 : decode cX12_weed 28 = .ok (.iload_n 2, 1) := by decide +kernel
theorem dX12_weed_29 : decode cX12_weed 29 = .ok (.ifCond .lt 17, 3) := by decide +kernel
theorem dX12_weed_32 : decode cX12_weed 32 = .ok (.iload_n 3, 1) := by decide +kernel
theorem dX12_weed_33 : decode cX12_weed 33 = .ok (.invokestatic 456, 3) := by decide +kernel
theorem dX12_weed_36 : decode cX12_weed 36 = .ok (.iload_n 2, 1) := by decide +kernel
theorem dX12_weed_37 : decode cX12_weed 37 = .ok (.invokestatic 456, 3) := by decide +kernel
theorem dX12_weed_40 : decode cX12_weed 40 = .ok (.if_icmp .lt 6, 3) := by decide +kernel
theorem dX12_weed_43 : decode cX12_weed 43 = .ok (.goto 50, 3) := by decide +kernel
theorem dX12_weed_46 : decode cX12_weed 46 = .ok (.aload_n 0, 1) := by decide +kernel
theorem dX12_weed_47 : decode cX12_weed 47 = .ok (.invokevirtual 462, 3) := by decide +kernel
theorem dX12_weed_50 : decode cX12_weed 50 = .ok (.iconst 0, 1) := by decide +kernel
theorem dX12_weed_51 : decode cX12_weed 51 = .ok (.istore 4, 2) := by decide +kernel
theorem dX12_weed_53 : decode cX12_weed 53 = .ok (.iload 4, 2) := by decide +kernel
theorem dX12_weed_55 : decode cX12_weed 55 = .ok (.aload_n 0, 1) := by decide +kernel
theorem dX12_weed_56 : decode cX12_weed 56 = .ok (.invokevirtual 429, 3) := by decide +kernel
theorem dX12_weed_59 : decode cX12_weed 59 = .ok (.if_icmp .ge 25, 3) := by decide +kernel
theorem dX12_weed_62 : decode cX12_weed 62 = .ok (.iload_n 3, 1) := by decide +kernel
theorem dX12_weed_63 : decode cX12_weed 63 = .ok (.iload 4, 2) := by decide +kernel
theorem dX12_weed_65 : decode cX12_weed 65 = .ok (.ishr, 1) := by decide +kernel
theorem dX12_weed_66 : decode cX12_weed 66 = .ok (.iconst 1, 1) := by decide +kernel
theorem dX12_weed_67 : decode cX12_weed 67 = .ok (.iand, 1) := by decide +kernel
theorem dX12_weed_68 : decode cX12_weed 68 = .ok (.iconst 1, 1) := by decide +kernel
theorem dX12_weed_69 : decode cX12_weed 69 = .ok (.if_icmp .ne 9, 3) := by decide +kernel
theorem dX12_weed_72 : decode cX12_weed 72 = .ok (.aload_n 0, 1) := by decide +kernel
theorem dX12_weed_73 : decode cX12_weed 73 = .ok (.iload 4, 2) := by decide +kernel
theorem dX12_weed_75 : decode cX12_weed 75 = .ok (.invokevirtual 480, 3) := by decide +kernel
theorem dX12_weed_78 : decode cX12_weed 78 = .ok (.iinc 4 1, 3) := by decide +kernel
theorem dX12_weed_81 : decode cX12_weed 81 = .ok (.goto (-28), 3) := by decide +kernel
theorem dX12_weed_84 : decode cX12_weed 84 = .ok (.aload_n 0, 1) := by decide +kernel
theorem dX12_weed_85 : decode cX12_weed 85 = .ok (.invokevirtual 521, 3) := by decide +kernel
theorem dX12_weed_88 : decode cX12_weed 88 = .ok (.ifCond .ne 5, 3) := by decide +kernel
theorem dX12_weed_91 : decode cX12_weed 91 = .ok (.iload_n 3, 1) := by decide +kernel
theorem dX12_weed_92 : decode cX12_weed 92 = .ok (.istore_n 2, 1) := by decide +kernel
theorem dX12_weed_93 : decode cX12_weed 93 = .ok (.iinc 3 1, 3) := by decide +kernel
theorem dX12_weed_96 : decode cX12_weed 96 = .ok (.goto (-81), 3) := by decide +kernel
theorem dX12_weed_99 : decode cX12_weed 99 = .ok (.iload_n 1, 1) := by decide +kernel
theorem dX12_weed_100 : decode cX12_weed 100 = .ok (.ifCond .ne 10, 3) := by decide +kernel
theorem dX12_weed_103 : decode cX12_weed 103 = .ok (.iload_n 2, 1) := by decide +kernel
theorem dX12_weed_104 : decode cX12_weed 104 = .ok (.invokestatic 456, 3) := by decide +kernel
theorem dX12_weed_107 : decode cX12_weed 107 = .ok (.goto 4, 3) := by decide +kernel
theorem dX12_weed_110 : decode cX12_weed 110 = .ok (.iload_n 2, 1) := by decide +kernel
theorem dX12_weed_111 : decode cX12_weed 111 = .ok (.ireturn, 1) := by decide +kernel
theorem dX12_places_0 : decode cX12_places 0 = .ok (.aload_n 0, 1) := by decide +kernel
theorem dX12_places_1 : decode cX12_places 1 = .ok (.iload_n 1, 1) := by decide +kernel
theorem dX12_places_2 : decode cX12_places 2 = .ok (.invokevirtual 483, 3) := by decide +kernel
theorem dX12_places_5 : decode cX12_places 5 = .ok (.ifCond .eq 34, 3) := by decide +kernel
theorem dX12_places_8 : decode cX12_places 8 = .ok (.aload_n 0, 1) := by decide +kernel
theorem dX12_places_9 : decode cX12_places 9 = .ok (.iload_n 2, 1) := by decide +kernel
theorem dX12_places_10 : decode cX12_places 10 = .ok (.invokevirtual 471, 3) := by decide +kernel
theorem dX12_places_13 : decode cX12_places 13 = .ok (.ifCond .eq 26, 3) := by decide +kernel
theorem dX12_places_16 : decode cX12_places 16 = .ok (.iload_n 3, 1) := by decide +kernel
theorem dX12_places_17 : decode cX12_places 17 = .ok (.bipush (-9), 2) := by decide +kernel
theorem dX12_places_19 : decode cX12_places 19 = .ok (.bipush 9, 2) := by decide +kernel
theorem dX12_places_21 : decode cX12_places 21 = .ok (.invokestatic 422, 3) := by decide +kernel
theorem dX12_places_24 : decode cX12_places 24 = .ok (.ifCond .eq 15, 3) := by decide +kernel
theorem dX12_places_27 : decode cX12_places 27 = .ok (.aload_n 0, 1) := by decide +kernel
theorem dX12_places_28 : decode cX12_places 28 = .ok (.getfield 76, 3) := by decide +kernel
theorem dX12_places_31 : decode cX12_places 31 = .ok (.bipush 96, 2) := by decide +kernel
theorem dX12_places_33 : decode cX12_places 33 = .ok (.iaload, 1) := by decide +kernel
theorem dX12_places_34 : decode cX12_places 34 = .ok (.bipush 12, 2) := by decide +kernel
theorem dX12_places_36 : decode cX12_places 36 = .ok (.if_icmp .ne 5, 3) := by decide +kernel
theorem dX12_places_39 : decode cX12_places 39 = .ok (.iconst (-1), 1) := by decide +kernel
theorem dX12_places_40 : decode cX12_places 40 = .ok (.ireturn, 1) := by decide +kernel
theorem dX12_places_41 : decode cX12_places 41 = .ok (.iconst 0, 1) := by decide +kernel
theorem dX12_places_42 : decode cX12_places 42 = .ok (.istore 4, 2) := by decide +kernel
theorem dX12_places_44 : decode cX12_places 44 = .ok (.iconst 0, 1) := by decide +kernel
theorem dX12_places_45 : decode cX12_places 45 = .ok (.istore 5, 2) := by decide +kernel
theorem dX12_places_47 : decode cX12_places 47 = .ok (.iload 5, 2) := by decide +kernel
theorem dX12_places_49 : decode cX12_places 49 = .ok (.aload_n 0, 1) := by decide +kernel
theorem dX12_places_50 : decode cX12_places 50 = .ok (.getfield 70, 3) := by decide +kernel
theorem dX12_places_53 : decode cX12_places 53 = .ok (.if_icmp .ge 49, 3) := by decide +kernel
theorem dX12_places_56 : decode cX12_places 56 = .ok (.aload_n 0, 1) := by decide +kernel
theorem dX12_places_57 : decode cX12_places 57 = .ok (.invokevirtual 462, 3) := by decide +kernel
theorem dX12_places_60 : decode cX12_places 60 = .ok (.aload_n 0, 1) := by decide +kernel
theorem dX12_places_61 : decode cX12_places 61 = .ok (.iload 5, 2) := by decide +kernel
theorem dX12_places_63 : decode cX12_places 63 = .ok (.iload_n 1, 1) := by decide +kernel
theorem dX12_places_64 : decode cX12_places 64 = .ok (.iload_n 2, 1) := by decide +kernel
theorem dX12_places_65 : decode cX12_places 65 = .ok (.iload_n 3, 1) := by decide +kernel
theorem dX12_places_66 : decode cX12_places 66 = .ok (.iconst (-1), 1) := by decide +kernel
theorem dX12_places_67 : decode cX12_places 67 = .ok (.iconst (-1), 1) := by decide +kernel
theorem dX12_places_68 : decode cX12_places 68 = .ok (.invokevirtual 493, 3) := by decide +kernel
theorem dX12_places_71 : decode cX12_places 71 = .ok (.iload 4, 2) := by decide +kernel
theorem dX12_places_73 : decode cX12_places 73 = .ok (.aload_n 0, 1) := by decide +kernel
theorem dX12_places_74 : decode cX12_places 74 = .ok (.iload_n 2, 1) := by decide +kernel
theorem dX12_places_75 : decode cX12_places 75 = .ok (.invokevirtual 474, 3) := by decide +kernel
theorem dX12_places_78 : decode cX12_places 78 = .ok (.iload_n 3, 1) := by decide +kernel
theorem dX12_places_79 : decode cX12_places 79 = .ok (.if_icmp .ne 7, 3) := by decide +kernel
theorem dX12_places_82 : decode cX12_places 82 = .ok (.iconst 1, 1) := by decide +kernel
theorem dX12_places_83 : decode cX12_places 83 = .ok (.goto 4, 3) := by decide +kernel
theorem dX12_places_86 : decode cX12_places 86 = .ok (.iconst 0, 1) := by decide +kernel
theorem dX12_places_87 : decode cX12_places 87 = .ok (.invokestatic 307, 3) := by decide +kernel
theorem dX12_places_90 : decode cX12_places 90 = .ok (.iload 5, 2) := by decide +kernel
theorem dX12_places_92 : decode cX12_places 92 = .ok (.ishl, 1) := by decide +kernel
theorem dX12_places_93 : decode cX12_places 93 = .ok (.ior, 1) := by decide +kernel
theorem dX12_places_94 : decode cX12_places 94 = .ok (.istore 4, 2) := by decide +kernel
theorem dX12_places_96 : decode cX12_places 96 = .ok (.iinc 5 1, 3) := by decide +kernel
theorem dX12_places_99 : decode cX12_places 99 = .ok (.goto (-52), 3) := by decide +kernel
theorem dX12_places_102 : decode cX12_places 102 = .ok (.iload 4, 2) := by decide +kernel
theorem dX12_places_104 : decode cX12_places 104 = .ok (.ireturn, 1) := by decide +kernel
theorem dX12_gapSet_0 : decode cX12_gapSet 0 = .ok (.iconst 0, 1) := by decide +kernel
theorem dX12_gapSet_1 : decode cX12_gapSet 1 = .ok (.istore_n 1, 1) := by decide +kernel
theorem dX12_gapSet_2 : decode cX12_gapSet 2 = .ok (.iconst 0, 1) := by decide +kernel
theorem dX12_gapSet_3 : decode cX12_gapSet 3 = .ok (.istore_n 2, 1) := by decide +kernel
theorem dX12_gapSet_4 : decode cX12_gapSet 4 = .ok (.iload_n 2, 1) := by decide +kernel
theorem dX12_gapSet_5 : decode cX12_gapSet 5 = .ok (.aload_n 0, 1) := by decide +kernel
theorem dX12_gapSet_6 : decode cX12_gapSet 6 = .ok (.getfield 70, 3) := by decide +kernel
theorem dX12_gapSet_9 : decode cX12_gapSet 9 = .ok (.if_icmp .ge 35, 3) := by decide +kernel
theorem dX12_gapSet_12 : decode cX12_gapSet 12 = .ok (.iload_n 1, 1) := by decide +kernel
theorem dX12_gapSet_13 : decode cX12_gapSet 13 = .ok (.aload_n 0, 1) := by decide +kernel
theorem dX12_gapSet_14 : decode cX12_gapSet 14 = .ok (.iload_n 2, 1) := by decide +kernel
theorem dX12_gapSet_15 : decode cX12_gapSet 15 = .ok (.invokevirtual 468, 3) := by decide +kernel
theorem dX12_gapSet_18 : decode cX12_gapSet 18 = .ok (.aload_n 0, 1) := by decide +kernel
theorem dX12_gapSet_19 : decode cX12_gapSet 19 = .ok (.invokevirtual 435, 3) := by decide +kernel
theorem dX12_gapSet_22 : decode cX12_gapSet 22 = .ok (.iand, 1) := by decide +kernel
theorem dX12_gapSet_23 : decode cX12_gapSet 23 = .ok (.ifCond .ne 7, 3) := by decide +kernel
theorem dX12_gapSet_26 : decode cX12_gapSet 26 = .ok (.iconst 1, 1) := by decide +kernel
theorem dX12_gapSet_27 : decode cX12_gapSet 27 = .ok (.goto 4, 3) := by decide +kernel
theorem dX12_gapSet_30 : decode cX12_gapSet 30 = .ok (.iconst 0, 1) := by decide +kernel
theorem dX12_gapSet_31 : decode cX12_gapSet 31 = .ok (.invokestatic 307, 3) := by decide +kernel
theorem dX12_gapSet_34 : decode cX12_gapSet 34 = .ok (.iload_n 2, 1) := by decide +kernel
theorem dX12_gapSet_35 : decode cX12_gapSet 35 = .ok (.ishl, 1) := by decide +kernel
theorem dX12_gapSet_36 : decode cX12_gapSet 36 = .ok (.ior, 1) := by decide +kernel
theorem dX12_gapSet_37 : decode cX12_gapSet 37 = .ok (.istore_n 1, 1) := by decide +kernel
theorem dX12_gapSet_38 : decode cX12_gapSet 38 = .ok (.iinc 2 1, 3) := by decide +kernel
theorem dX12_gapSet_41 : decode cX12_gapSet 41 = .ok (.goto (-37), 3) := by decide +kernel
theorem dX12_gapSet_44 : decode cX12_gapSet 44 = .ok (.iload_n 1, 1) := by decide +kernel
theorem dX12_gapSet_45 : decode cX12_gapSet 45 = .ok (.ireturn, 1) := by decide +kernel
theorem dX12_gaps_0 : decode cX12_gaps 0 = .ok (.aload_n 0, 1) := by decide +kernel
theorem dX12_gaps_1 : decode cX12_gaps 1 = .ok (.invokevirtual 462, 3) := by decide +kernel
theorem dX12_gaps_4 : decode cX12_gaps 4 = .ok (.aload_n 0, 1) := by decide +kernel
theorem dX12_gaps_5 : decode cX12_gaps 5 = .ok (.invokevirtual 524, 3) := by decide +kernel
theorem dX12_gaps_8 : decode cX12_gaps 8 = .ok (.ireturn, 1) := by decide +kernel
theorem dX12_widest_0 : decode cX12_widest 0 = .ok (.aload_n 0, 1) := by decide +kernel
theorem dX12_widest_1 : decode cX12_widest 1 = .ok (.invokevirtual 527, 3) := by decide +kernel
theorem dX12_widest_4 : decode cX12_widest 4 = .ok (.istore_n 1, 1) := by decide +kernel
theorem dX12_widest_5 : decode cX12_widest 5 = .ok (.iconst 0, 1) := by decide +kernel
theorem dX12_widest_6 : decode cX12_widest 6 = .ok (.istore_n 2, 1) := by decide +kernel
theorem dX12_widest_7 : decode cX12_widest 7 = .ok (.iconst 0, 1) := by decide +kernel
theorem dX12_widest_8 : decode cX12_widest 8 = .ok (.istore_n 3, 1) := by decide +kernel
theorem dX12_widest_9 : decode cX12_widest 9 = .ok (.iconst 0, 1) := by decide +kernel
theorem dX12_widest_10 : decode cX12_widest 10 = .ok (.istore 4, 2) := by decide +kernel
theorem dX12_widest_12 : decode cX12_widest 12 = .ok (.iload 4, 2) := by decide +kernel
theorem dX12_widest_14 : decode cX12_widest 14 = .ok (.aload_n 0, 1) := by decide +kernel
theorem dX12_widest_15 : decode cX12_widest 15 = .ok (.getfield 70, 3) := by decide +kernel
theorem dX12_widest_18 : decode cX12_widest 18 = .ok (.if_icmp .ge 38, 3) := by decide +kernel
theorem dX12_widest_21 : decode cX12_widest 21 = .ok (.iload_n 1, 1) := by decide +kernel
theorem dX12_widest_22 : decode cX12_widest 22 = .ok (.iload 4, 2) := by decide +kernel
theorem dX12_widest_24 : decode cX12_widest 24 = .ok (.ishr, 1) := by decide +kernel
theorem dX12_widest_25 : decode cX12_widest 25 = .ok (.iconst 1, 1) := by decide +kernel
theorem dX12_widest_26 : decode cX12_widest 26 = .ok (.iand, 1) := by decide +kernel
theorem dX12_widest_27 : decode cX12_widest 27 = .ok (.iconst 1, 1) := by decide +kernel
theorem dX12_widest_28 : decode cX12_widest 28 = .ok (.if_icmp .ne 9, 3) := by decide +kernel
theorem dX12_widest_31 : decode cX12_widest 31 = .ok (.iload_n 3, 1) := by decide +kernel
theorem dX12_widest_32 : decode cX12_widest 32 = .ok (.iconst 1, 1) := by decide +kernel
theorem dX12_widest_33 : decode cX12_widest 33 = .ok (.iadd, 1) := by decide +kernel
theorem dX12_widest_34 : decode cX12_widest 34 = .ok (.goto 4, 3) := by decide +kernel
theorem dX12_widest_37 : decode cX12_widest 37 = .ok (.iconst 0, 1) := by decide +kernel
theorem dX12_widest_38 : decode cX12_widest 38 = .ok (.istore_n 3, 1) := by decide +kernel
theorem dX12_widest_39 : decode cX12_widest 39 = .ok (.iload_n 3, 1) := by decide +kernel
theorem dX12_widest_40 : decode cX12_widest 40 = .ok (.iload_n 2, 1) := by decide +kernel
theorem dX12_widest_41 : decode cX12_widest 41 = .ok (.if_icmp .le 7, 3) := by decide +kernel
theorem dX12_widest_44 : decode cX12_widest 44 = .ok (.iload_n 3, 1) := by decide +kernel
theorem dX12_widest_45 : decode cX12_widest 45 = .ok (.goto 4, 3) := by decide +kernel
theorem dX12_widest_48 : decode cX12_widest 48 = .ok (.iload_n 2, 1) := by decide +kernel
theorem dX12_widest_49 : decode cX12_widest 49 = .ok (.istore_n 2, 1) := by decide +kernel
theorem dX12_widest_50 : decode cX12_widest 50 = .ok (.iinc 4 1, 3) := by decide +kernel
theorem dX12_widest_53 : decode cX12_widest 53 = .ok (.goto (-41), 3) := by decide +kernel
theorem dX12_widest_56 : decode cX12_widest 56 = .ok (.iload_n 2, 1) := by decide +kernel
theorem dX12_widest_57 : decode cX12_widest 57 = .ok (.ireturn, 1) := by decide +kernel
theorem dX12_closes_0 : decode cX12_closes 0 = .ok (.iload_n 1, 1) := by decide +kernel
theorem dX12_closes_1 : decode cX12_closes 1 = .ok (.iconst 1, 1) := by decide +kernel
theorem dX12_closes_2 : decode cX12_closes 2 = .ok (.bipush 12, 2) := by decide +kernel
theorem dX12_closes_4 : decode cX12_closes 4 = .ok (.invokestatic 422, 3) := by decide +kernel
theorem dX12_closes_7 : decode cX12_closes 7 = .ok (.ifCond .ne 5, 3) := by decide +kernel
theorem dX12_closes_10 : decode cX12_closes 10 = .ok (.iconst (-1), 1) := by decide +kernel
theorem dX12_closes_11 : decode cX12_closes 11 = .ok (.ireturn, 1) := by decide +kernel
theorem dX12_closes_12 : decode cX12_closes 12 = .ok (.aload_n 0, 1) := by decide +kernel
theorem dX12_closes_13 : decode cX12_closes 13 = .ok (.invokevirtual 527, 3) := by decide +kernel
theorem dX12_closes_16 : decode cX12_closes 16 = .ok (.istore_n 2, 1) := by decide +kernel
theorem dX12_closes_17 : decode cX12_closes 17 = .ok (.iconst 0, 1) := by decide +kernel
theorem dX12_closes_18 : decode cX12_closes 18 = .ok (.istore_n 3, 1) := by decide +kernel
theorem dX12_closes_19 : decode cX12_closes 19 = .ok (.iconst 0, 1) := by decide +kernel
theorem dX12_closes_20 : decode cX12_closes 20 = .ok (.istore 4, 2) := by decide +kernel
theorem dX12_closes_22 : decode cX12_closes 22 = .ok (.iconst 0, 1) := by decide +kernel
theorem dX12_closes_23 : decode cX12_closes 23 = .ok (.istore 5, 2) := by decide +kernel
theorem dX12_closes_25 : decode cX12_closes 25 = .ok (.iload 5, 2) := by decide +kernel
theorem dX12_closes_27 : decode cX12_closes 27 = .ok (.aload_n 0, 1) := by decide +kernel
theorem dX12_closes_28 : decode cX12_closes 28 = .ok (.getfield 70, 3) := by decide +kernel
theorem dX12_closes_31 : decode cX12_closes 31 = .ok (.if_icmp .ge 44, 3) := by decide +kernel
theorem dX12_closes_34 : decode cX12_closes 34 = .ok (.iload_n 2, 1) := by decide +kernel
theorem dX12_closes_35 : decode cX12_closes 35 = .ok (.iload 5, 2) := by decide +kernel
theorem dX12_closes_37 : decode cX12_closes 37 = .ok (.ishr, 1) := by decide +kernel
theorem dX12_closes_38 : decode cX12_closes 38 = .ok (.iconst 1, 1) := by decide +kernel
theorem dX12_closes_39 : decode cX12_closes 39 = .ok (.iand, 1) := by decide +kernel
theorem dX12_closes_40 : decode cX12_closes 40 = .ok (.iconst 1, 1) := by decide +kernel
theorem dX12_closes_41 : decode cX12_closes 41 = .ok (.if_icmp .ne 10, 3) := by decide +kernel
theorem dX12_closes_44 : decode cX12_closes 44 = .ok (.iload 4, 2) := by decide +kernel
theorem dX12_closes_46 : decode cX12_closes 46 = .ok (.iconst 1, 1) := by decide +kernel
theorem dX12_closes_47 : decode cX12_closes 47 = .ok (.iadd, 1) := by decide +kernel
theorem dX12_closes_48 : decode cX12_closes 48 = .ok (.goto 4, 3) := by decide +kernel
theorem dX12_closes_51 : decode cX12_closes 51 = .ok (.iconst 0, 1) := by decide +kernel
theorem dX12_closes_52 : decode cX12_closes 52 = .ok (.istore 4, 2) := by decide +kernel
theorem dX12_closes_54 : decode cX12_closes 54 = .ok (.iload 4, 2) := by decide +kernel
theorem dX12_closes_56 : decode cX12_closes 56 = .ok (.iload_n 1, 1) := by decide +kernel
theorem dX12_closes_57 : decode cX12_closes 57 = .ok (.if_icmp .ge 6, 3) := by decide +kernel
theorem dX12_closes_60 : decode cX12_closes 60 = .ok (.goto 9, 3) := by decide +kernel
theorem dX12_closes_63 : decode cX12_closes 63 = .ok (.iinc 3 1, 3) := by decide +kernel
theorem dX12_closes_66 : decode cX12_closes 66 = .ok (.iconst 0, 1) := by decide +kernel
theorem dX12_closes_67 : decode cX12_closes 67 = .ok (.istore 4, 2) := by decide +kernel
theorem dX12_closes_69 : decode cX12_closes 69 = .ok (.iinc 5 1, 3) := by decide +kernel
theorem dX12_closes_72 : decode cX12_closes 72 = .ok (.goto (-47), 3) := by decide +kernel
theorem dX12_closes_75 : decode cX12_closes 75 = .ok (.iload_n 3, 1) := by decide +kernel
theorem dX12_closes_76 : decode cX12_closes 76 = .ok (.ireturn, 1) := by decide +kernel
theorem dX12_walk_0 : decode cX12_walk 0 = .ok (.aload_n 0, 1) := by decide +kernel
theorem dX12_walk_1 : decode cX12_walk 1 = .ok (.iload_n 1, 1) := by decide +kernel
theorem dX12_walk_2 : decode cX12_walk 2 = .ok (.invokevirtual 465, 3) := by decide +kernel
theorem dX12_walk_5 : decode cX12_walk 5 = .ok (.ifCond .eq 19, 3) := by decide +kernel
theorem dX12_walk_8 : decode cX12_walk 8 = .ok (.iload_n 2, 1) := by decide +kernel
theorem dX12_walk_9 : decode cX12_walk 9 = .ok (.iconst 0, 1) := by decide +kernel
theorem dX12_walk_10 : decode cX12_walk 10 = .ok (.iconst 1, 1) := by decide +kernel
theorem dX12_walk_11 : decode cX12_walk 11 = .ok (.aload_n 0, 1) := by decide +kernel
theorem dX12_walk_12 : decode cX12_walk 12 = .ok (.getfield 70, 3) := by decide +kernel
theorem dX12_walk_15 : decode cX12_walk 15 = .ok (.ishl, 1) := by decide +kernel
theorem dX12_walk_16 : decode cX12_walk 16 = .ok (.iconst 1, 1) := by decide +kernel
theorem dX12_walk_17 : decode cX12_walk 17 = .ok (.isub, 1) := by decide +kernel
theorem dX12_walk_18 : decode cX12_walk 18 = .ok (.invokestatic 422, 3) := by decide +kernel
theorem dX12_walk_21 : decode cX12_walk 21 = .ok (.ifCond .ne 5, 3) := by decide +kernel
theorem dX12_walk_24 : decode cX12_walk 24 = .ok (.iconst (-1), 1) := by decide +kernel
theorem dX12_walk_25 : decode cX12_walk 25 = .ok (.ireturn, 1) := by decide +kernel
theorem dX12_walk_26 : decode cX12_walk 26 = .ok (.iload_n 1, 1) := by decide +kernel
theorem dX12_walk_27 : decode cX12_walk 27 = .ok (.istore_n 3, 1) := by decide +kernel
theorem dX12_walk_28 : decode cX12_walk 28 = .ok (.iload_n 1, 1) := by decide +kernel
theorem dX12_walk_29 : decode cX12_walk 29 = .ok (.istore 4, 2) := by decide +kernel
theorem dX12_walk_31 : decode cX12_walk 31 = .ok (.iconst 0, 1) := by decide +kernel
theorem dX12_walk_32 : decode cX12_walk 32 = .ok (.istore 5, 2) := by decide +kernel
theorem dX12_walk_34 : decode cX12_walk 34 = .ok (.iload 5, 2) := by decide +kernel
theorem dX12_walk_36 : decode cX12_walk 36 = .ok (.aload_n 0, 1) := by decide +kernel
theorem dX12_walk_37 : decode cX12_walk 37 = .ok (.getfield 70, 3) := by decide +kernel
theorem dX12_walk_40 : decode cX12_walk 40 = .ok (.if_icmp .ge 50, 3) := by decide +kernel
theorem dX12_walk_43 : decode cX12_walk 43 = .ok (.iload_n 2, 1) := by decide +kernel
theorem dX12_walk_44 : decode cX12_walk 44 = .ok (.iload 5, 2) := by decide +kernel
theorem dX12_walk_46 : decode cX12_walk 46 = .ok (.ishr, 1) := by decide +kernel
theorem dX12_walk_47 : decode cX12_walk 47 = .ok (.iconst 1, 1) := by decide +kernel
theorem dX12_walk_48 : decode cX12_walk 48 = .ok (.iand, 1) := by decide +kernel
theorem dX12_walk_49 : decode cX12_walk 49 = .ok (.ifCond .ne 6, 3) := by decide +kernel
theorem dX12_walk_52 : decode cX12_walk 52 = .ok (.goto 32, 3) := by decide +kernel
theorem dX12_walk_55 : decode cX12_walk 55 = .ok (.iload 5, 2) := by decide +kernel
theorem dX12_walk_57 : decode cX12_walk 57 = .ok (.iload_n 3, 1) := by decide +kernel
theorem dX12_walk_58 : decode cX12_walk 58 = .ok (.if_icmp .ge 8, 3) := by decide +kernel
theorem dX12_walk_61 : decode cX12_walk 61 = .ok (.iload 5, 2) := by decide +kernel
theorem dX12_walk_63 : decode cX12_walk 63 = .ok (.goto 4, 3) := by decide +kernel
theorem dX12_walk_66 : decode cX12_walk 66 = .ok (.iload_n 3, 1) := by decide +kernel
theorem dX12_walk_67 : decode cX12_walk 67 = .ok (.istore_n 3, 1) := by decide +kernel
theorem dX12_walk_68 : decode cX12_walk 68 = .ok (.iload 5, 2) := by decide +kernel
theorem dX12_walk_70 : decode cX12_walk 70 = .ok (.iload 4, 2) := by decide +kernel
theorem dX12_walk_72 : decode cX12_walk 72 = .ok (.if_icmp .le 8, 3) := by decide +kernel
theorem dX12_walk_75 : decode cX12_walk 75 = .ok (.iload 5, 2) := by decide +kernel
theorem dX12_walk_77 : decode cX12_walk 77 = .ok (.goto 5, 3) := by decide +kernel
theorem dX12_walk_80 : decode cX12_walk 80 = .ok (.iload 4, 2) := by decide +kernel
theorem dX12_walk_82 : decode cX12_walk 82 = .ok (.istore 4, 2) := by decide +kernel
theorem dX12_walk_84 : decode cX12_walk 84 = .ok (.iinc 5 1, 3) := by decide +kernel
theorem dX12_walk_87 : decode cX12_walk 87 = .ok (.goto (-53), 3) := by decide +kernel
theorem dX12_walk_90 : decode cX12_walk 90 = .ok (.iload_n 1, 1) := by decide +kernel
theorem dX12_walk_91 : decode cX12_walk 91 = .ok (.iload_n 3, 1) := by decide +kernel
theorem dX12_walk_92 : decode cX12_walk 92 = .ok (.isub, 1) := by decide +kernel
theorem dX12_walk_93 : decode cX12_walk 93 = .ok (.istore 5, 2) := by decide +kernel
theorem dX12_walk_95 : decode cX12_walk 95 = .ok (.iload 4, 2) := by decide +kernel
theorem dX12_walk_97 : decode cX12_walk 97 = .ok (.iload_n 1, 1) := by decide +kernel
theorem dX12_walk_98 : decode cX12_walk 98 = .ok (.isub, 1) := by decide +kernel
theorem dX12_walk_99 : decode cX12_walk 99 = .ok (.istore 6, 2) := by decide +kernel
theorem dX12_walk_101 : decode cX12_walk 101 = .ok (.iload 5, 2) := by decide +kernel
theorem dX12_walk_103 : decode cX12_walk 103 = .ok (.iload 6, 2) := by decide +kernel
theorem dX12_walk_105 : decode cX12_walk 105 = .ok (.iadd, 1) := by decide +kernel
theorem dX12_walk_106 : decode cX12_walk 106 = .ok (.iload 5, 2) := by decide +kernel
theorem dX12_walk_108 : decode cX12_walk 108 = .ok (.iload 6, 2) := by decide +kernel
theorem dX12_walk_110 : decode cX12_walk 110 = .ok (.if_icmp .ge 8, 3) := by decide +kernel
theorem dX12_walk_113 : decode cX12_walk 113 = .ok (.iload 5, 2) := by decide +kernel
theorem dX12_walk_115 : decode cX12_walk 115 = .ok (.goto 5, 3) := by decide +kernel
theorem dX12_walk_118 : decode cX12_walk 118 = .ok (.iload 6, 2) := by decide +kernel
theorem dX12_walk_120 : decode cX12_walk 120 = .ok (.iadd, 1) := by decide +kernel
theorem dX12_walk_121 : decode cX12_walk 121 = .ok (.ireturn, 1) := by decide +kernel
theorem dX12_layCuts_0 : decode cX12_layCuts 0 = .ok (.iload_n 1, 1) := by decide +kernel
theorem dX12_layCuts_1 : decode cX12_layCuts 1 = .ok (.istore_n 3, 1) := by decide +kernel
theorem dX12_layCuts_2 : decode cX12_layCuts 2 = .ok (.iload_n 2, 1) := by decide +kernel
theorem dX12_layCuts_3 : decode cX12_layCuts 3 = .ok (.iconst 1, 1) := by decide +kernel
theorem dX12_layCuts_4 : decode cX12_layCuts 4 = .ok (.isub, 1) := by decide +kernel
theorem dX12_layCuts_5 : decode cX12_layCuts 5 = .ok (.istore 4, 2) := by decide +kernel
theorem dX12_layCuts_7 : decode cX12_layCuts 7 = .ok (.iload 4, 2) := by decide +kernel
theorem dX12_layCuts_9 : decode cX12_layCuts 9 = .ok (.ifCond .lt 35, 3) := by decide +kernel
theorem dX12_layCuts_12 : decode cX12_layCuts 12 = .ok (.aload_n 0, 1) := by decide +kernel
theorem dX12_layCuts_13 : decode cX12_layCuts 13 = .ok (.getfield 85, 3) := by decide +kernel
theorem dX12_layCuts_16 : decode cX12_layCuts 16 = .ok (.iload 4, 2) := by decide +kernel
theorem dX12_layCuts_18 : decode cX12_layCuts 18 = .ok (.iload_n 3, 1) := by decide +kernel
theorem dX12_layCuts_19 : decode cX12_layCuts 19 = .ok (.aload_n 0, 1) := by decide +kernel
theorem dX12_layCuts_20 : decode cX12_layCuts 20 = .ok (.getfield 70, 3) := by decide +kernel
theorem dX12_layCuts_23 : decode cX12_layCuts 23 = .ok (.iconst 1, 1) := by decide +kernel
theorem dX12_layCuts_24 : decode cX12_layCuts 24 = .ok (.iadd, 1) := by decide +kernel
theorem dX12_layCuts_25 : decode cX12_layCuts 25 = .ok (.irem, 1) := by decide +kernel
theorem dX12_layCuts_26 : decode cX12_layCuts 26 = .ok (.iconst 1, 1) := by decide +kernel
theorem dX12_layCuts_27 : decode cX12_layCuts 27 = .ok (.isub, 1) := by decide +kernel
theorem dX12_layCuts_28 : decode cX12_layCuts 28 = .ok (.iastore, 1) := by decide +kernel
theorem dX12_layCuts_29 : decode cX12_layCuts 29 = .ok (.iload_n 3, 1) := by decide +kernel
theorem dX12_layCuts_30 : decode cX12_layCuts 30 = .ok (.aload_n 0, 1) := by decide +kernel
theorem dX12_layCuts_31 : decode cX12_layCuts 31 = .ok (.getfield 70, 3) := by decide +kernel
theorem dX12_layCuts_34 : decode cX12_layCuts 34 = .ok (.iconst 1, 1) := by decide +kernel
theorem dX12_layCuts_35 : decode cX12_layCuts 35 = .ok (.iadd, 1) := by decide +kernel
theorem dX12_layCuts_36 : decode cX12_layCuts 36 = .ok (.idiv, 1) := by decide +kernel
theorem dX12_layCuts_37 : decode cX12_layCuts 37 = .ok (.istore_n 3, 1) := by decide +kernel
theorem dX12_layCuts_38 : decode cX12_layCuts 38 = .ok (.iinc 4 (-1), 3) := by decide +kernel
theorem dX12_layCuts_41 : decode cX12_layCuts 41 = .ok (.goto (-34), 3) := by decide +kernel
theorem dX12_layCuts_44 : decode cX12_layCuts 44 = .ok (.return_, 1) := by decide +kernel
theorem dX12_cutsOf_0 : decode cX12_cutsOf 0 = .ok (.iconst 0, 1) := by decide +kernel
theorem dX12_cutsOf_1 : decode cX12_cutsOf 1 = .ok (.istore_n 2, 1) := by decide +kernel
theorem dX12_cutsOf_2 : decode cX12_cutsOf 2 = .ok (.iconst 0, 1) := by decide +kernel
theorem dX12_cutsOf_3 : decode cX12_cutsOf 3 = .ok (.istore_n 3, 1) := by decide +kernel
theorem dX12_cutsOf_4 : decode cX12_cutsOf 4 = .ok (.iload_n 3, 1) := by decide +kernel
theorem dX12_cutsOf_5 : decode cX12_cutsOf 5 = .ok (.iload_n 1, 1) := by decide +kernel
theorem dX12_cutsOf_6 : decode cX12_cutsOf 6 = .ok (.if_icmp .ge 29, 3) := by decide +kernel
theorem dX12_cutsOf_9 : decode cX12_cutsOf 9 = .ok (.iload_n 2, 1) := by decide +kernel
theorem dX12_cutsOf_10 : decode cX12_cutsOf 10 = .ok (.aload_n 0, 1) := by decide +kernel
theorem dX12_cutsOf_11 : decode cX12_cutsOf 11 = .ok (.getfield 85, 3) := by decide +kernel
theorem dX12_cutsOf_14 : decode cX12_cutsOf 14 = .ok (.iload_n 3, 1) := by decide +kernel
theorem dX12_cutsOf_15 : decode cX12_cutsOf 15 = .ok (.iaload, 1) := by decide +kernel
theorem dX12_cutsOf_16 : decode cX12_cutsOf 16 = .ok (.ifCond .lt 7, 3) := by decide +kernel
theorem dX12_cutsOf_19 : decode cX12_cutsOf 19 = .ok (.iconst 1, 1) := by decide +kernel
theorem dX12_cutsOf_20 : decode cX12_cutsOf 20 = .ok (.goto 4, 3) := by decide +kernel
theorem dX12_cutsOf_23 : decode cX12_cutsOf 23 = .ok (.iconst 0, 1) := by decide +kernel
theorem dX12_cutsOf_24 : decode cX12_cutsOf 24 = .ok (.invokestatic 307, 3) := by decide +kernel
theorem dX12_cutsOf_27 : decode cX12_cutsOf 27 = .ok (.iadd, 1) := by decide +kernel
theorem dX12_cutsOf_28 : decode cX12_cutsOf 28 = .ok (.istore_n 2, 1) := by decide +kernel
theorem dX12_cutsOf_29 : decode cX12_cutsOf 29 = .ok (.iinc 3 1, 3) := by decide +kernel
theorem dX12_cutsOf_32 : decode cX12_cutsOf 32 = .ok (.goto (-28), 3) := by decide +kernel
theorem dX12_cutsOf_35 : decode cX12_cutsOf 35 = .ok (.iload_n 2, 1) := by decide +kernel
theorem dX12_cutsOf_36 : decode cX12_cutsOf 36 = .ok (.ireturn, 1) := by decide +kernel
theorem dX12_standBy_0 : decode cX12_standBy 0 = .ok (.aload_n 0, 1) := by decide +kernel
theorem dX12_standBy_1 : decode cX12_standBy 1 = .ok (.invokevirtual 462, 3) := by decide +kernel
theorem dX12_standBy_4 : decode cX12_standBy 4 = .ok (.iconst 0, 1) := by decide +kernel
theorem dX12_standBy_5 : decode cX12_standBy 5 = .ok (.istore_n 3, 1) := by decide +kernel
theorem dX12_standBy_6 : decode cX12_standBy 6 = .ok (.iload_n 3, 1) := by decide +kernel
theorem dX12_standBy_7 : decode cX12_standBy 7 = .ok (.iload_n 1, 1) := by decide +kernel
theorem dX12_standBy_8 : decode cX12_standBy 8 = .ok (.if_icmp .ge 34, 3) := by decide +kernel
theorem dX12_standBy_11 : decode cX12_standBy 11 = .ok (.aload_n 0, 1) := by decide +kernel
theorem dX12_standBy_12 : decode cX12_standBy 12 = .ok (.getfield 85, 3) := by decide +kernel
theorem dX12_standBy_15 : decode cX12_standBy 15 = .ok (.iload_n 3, 1) := by decide +kernel
theorem dX12_standBy_16 : decode cX12_standBy 16 = .ok (.iaload, 1) := by decide +kernel
theorem dX12_standBy_17 : decode cX12_standBy 17 = .ok (.ifCond .lt 14, 3) := by decide +kernel
theorem dX12_standBy_20 : decode cX12_standBy 20 = .ok (.aload_n 0, 1) := by decide +kernel
theorem dX12_standBy_21 : decode cX12_standBy 21 = .ok (.aload_n 0, 1) := by decide +kernel
theorem dX12_standBy_22 : decode cX12_standBy 22 = .ok (.getfield 85, 3) := by decide +kernel
theorem dX12_standBy_25 : decode cX12_standBy 25 = .ok (.iload_n 3, 1) := by decide +kernel
theorem dX12_standBy_26 : decode cX12_standBy 26 = .ok (.iaload, 1) := by decide +kernel
theorem dX12_standBy_27 : decode cX12_standBy 27 = .ok (.iload_n 2, 1) := by decide +kernel
theorem dX12_standBy_28 : decode cX12_standBy 28 = .ok (.invokevirtual 503, 3) := by decide +kernel
theorem dX12_standBy_31 : decode cX12_standBy 31 = .ok (.aload_n 0, 1) := by decide +kernel
theorem dX12_standBy_32 : decode cX12_standBy 32 = .ok (.invokevirtual 506, 3) := by decide +kernel
theorem dX12_standBy_35 : decode cX12_standBy 35 = .ok (.pop, 1) := by decide +kernel
theorem dX12_standBy_36 : decode cX12_standBy 36 = .ok (.iinc 3 1, 3) := by decide +kernel
theorem dX12_standBy_39 : decode cX12_standBy 39 = .ok (.goto (-33), 3) := by decide +kernel
theorem dX12_standBy_42 : decode cX12_standBy 42 = .ok (.aload_n 0, 1) := by decide +kernel
theorem dX12_standBy_43 : decode cX12_standBy 43 = .ok (.invokevirtual 441, 3) := by decide +kernel
theorem dX12_standBy_46 : decode cX12_standBy 46 = .ok (.invokestatic 456, 3) := by decide +kernel
theorem dX12_standBy_49 : decode cX12_standBy 49 = .ok (.ireturn, 1) := by decide +kernel
theorem dX12_plan_0 : decode cX12_plan 0 = .ok (.aload_n 0, 1) := by decide +kernel
theorem dX12_plan_1 : decode cX12_plan 1 = .ok (.iconst 0, 1) := by decide +kernel
theorem dX12_plan_2 : decode cX12_plan 2 = .ok (.putfield 419, 3) := by decide +kernel
theorem dX12_plan_5 : decode cX12_plan 5 = .ok (.iload_n 1, 1) := by decide +kernel
theorem dX12_plan_6 : decode cX12_plan 6 = .ok (.iconst 1, 1) := by decide +kernel
theorem dX12_plan_7 : decode cX12_plan 7 = .ok (.iconst 3, 1) := by decide +kernel
theorem dX12_plan_8 : decode cX12_plan 8 = .ok (.invokestatic 422, 3) := by decide +kernel
theorem dX12_plan_11 : decode cX12_plan 11 = .ok (.ifCond .eq 13, 3) := by decide +kernel
theorem dX12_plan_14 : decode cX12_plan 14 = .ok (.iload_n 2, 1) := by decide +kernel
theorem dX12_plan_15 : decode cX12_plan 15 = .ok (.iconst 1, 1) := by decide +kernel
theorem dX12_plan_16 : decode cX12_plan 16 = .ok (.bipush 99, 2) := by decide +kernel
theorem dX12_plan_18 : decode cX12_plan 18 = .ok (.invokestatic 422, 3) := by decide +kernel
theorem dX12_plan_21 : decode cX12_plan 21 = .ok (.ifCond .ne 5, 3) := by decide +kernel
theorem dX12_plan_24 : decode cX12_plan 24 = .ok (.iconst (-1), 1) := by decide +kernel
theorem dX12_plan_25 : decode cX12_plan 25 = .ok (.ireturn, 1) := by decide +kernel
theorem dX12_plan_26 : decode cX12_plan 26 = .ok (.iconst 1, 1) := by decide +kernel
theorem dX12_plan_27 : decode cX12_plan 27 = .ok (.istore_n 3, 1) := by decide +kernel
theorem dX12_plan_28 : decode cX12_plan 28 = .ok (.iconst 0, 1) := by decide +kernel
theorem dX12_plan_29 : decode cX12_plan 29 = .ok (.istore 4, 2) := by decide +kernel
theorem dX12_plan_31 : decode cX12_plan 31 = .ok (.iload 4, 2) := by decide +kernel
theorem dX12_plan_33 : decode cX12_plan 33 = .ok (.iload_n 1, 1) := by decide +kernel
theorem dX12_plan_34 : decode cX12_plan 34 = .ok (.if_icmp .ge 18, 3) := by decide +kernel
theorem dX12_plan_37 : decode cX12_plan 37 = .ok (.iload_n 3, 1) := by decide +kernel
theorem dX12_plan_38 : decode cX12_plan 38 = .ok (.aload_n 0, 1) := by decide +kernel
theorem dX12_plan_39 : decode cX12_plan 39 = .ok (.getfield 70, 3) := by decide +kernel
theorem dX12_plan_42 : decode cX12_plan 42 = .ok (.iconst 1, 1) := by decide +kernel
theorem dX12_plan_43 : decode cX12_plan 43 = .ok (.iadd, 1) := by decide +kernel
theorem dX12_plan_44 : decode cX12_plan 44 = .ok (.imul, 1) := by decide +kernel
theorem dX12_plan_45 : decode cX12_plan 45 = .ok (.istore_n 3, 1) := by decide +kernel
theorem dX12_plan_46 : decode cX12_plan 46 = .ok (.iinc 4 1, 3) := by decide +kernel
theorem dX12_plan_49 : decode cX12_plan 49 = .ok (.goto (-18), 3) := by decide +kernel
theorem dX12_plan_52 : decode cX12_plan 52 = .ok (.iconst (-1), 1) := by decide +kernel
theorem dX12_plan_53 : decode cX12_plan 53 = .ok (.istore 4, 2) := by decide +kernel
theorem dX12_plan_55 : decode cX12_plan 55 = .ok (.iconst 0, 1) := by decide +kernel
theorem dX12_plan_56 : decode cX12_plan 56 = .ok (.istore 5, 2) := by decide +kernel
theorem dX12_plan_58 : decode cX12_plan 58 = .ok (.iconst 0, 1) := by decide +kernel
theorem dX12_plan_59 : decode cX12_plan 59 = .ok (.istore 6, 2) := by decide +kernel
theorem dX12_plan_61 : decode cX12_plan 61 = .ok (.iload 6, 2) := by decide +kernel
theorem dX12_plan_63 : decode cX12_plan 63 = .ok (.iload_n 3, 1) := by decide +kernel
theorem dX12_plan_64 : decode cX12_plan 64 = .ok (.if_icmp .ge 91, 3) := by decide +kernel
theorem dX12_plan_67 : decode cX12_plan 67 = .ok (.aload_n 0, 1) := by decide +kernel
theorem dX12_plan_68 : decode cX12_plan 68 = .ok (.iload 6, 2) := by decide +kernel
theorem dX12_plan_70 : decode cX12_plan 70 = .ok (.iload_n 1, 1) := by decide +kernel
theorem dX12_plan_71 : decode cX12_plan 71 = .ok (.invokevirtual 530, 3) := by decide +kernel
theorem dX12_plan_74 : decode cX12_plan 74 = .ok (.aload_n 0, 1) := by decide +kernel
theorem dX12_plan_75 : decode cX12_plan 75 = .ok (.iload_n 1, 1) := by decide +kernel
theorem dX12_plan_76 : decode cX12_plan 76 = .ok (.iload_n 2, 1) := by decide +kernel
theorem dX12_plan_77 : decode cX12_plan 77 = .ok (.invokevirtual 533, 3) := by decide +kernel
theorem dX12_plan_80 : decode cX12_plan 80 = .ok (.istore 7, 2) := by decide +kernel
theorem dX12_plan_82 : decode cX12_plan 82 = .ok (.iload 7, 2) := by decide +kernel
theorem dX12_plan_84 : decode cX12_plan 84 = .ok (.iload 4, 2) := by decide +kernel
theorem dX12_plan_86 : decode cX12_plan 86 = .ok (.if_icmp .lt 63, 3) := by decide +kernel
theorem dX12_plan_89 : decode cX12_plan 89 = .ok (.iload 7, 2) := by decide +kernel
theorem dX12_plan_91 : decode cX12_plan 91 = .ok (.iload 4, 2) := by decide +kernel
theorem dX12_plan_93 : decode cX12_plan 93 = .ok (.if_icmp .ne 16, 3) := by decide +kernel
theorem dX12_plan_96 : decode cX12_plan 96 = .ok (.aload_n 0, 1) := by decide +kernel
theorem dX12_plan_97 : decode cX12_plan 97 = .ok (.iload_n 1, 1) := by decide +kernel
theorem dX12_plan_98 : decode cX12_plan 98 = .ok (.invokevirtual 536, 3) := by decide +kernel
theorem dX12_plan_101 : decode cX12_plan 101 = .ok (.iload 5, 2) := by decide +kernel
theorem dX12_plan_103 : decode cX12_plan 103 = .ok (.if_icmp .lt 6, 3) := by decide +kernel
theorem dX12_plan_106 : decode cX12_plan 106 = .ok (.goto 43, 3) := by decide +kernel
theorem dX12_plan_109 : decode cX12_plan 109 = .ok (.iload 7, 2) := by decide +kernel
theorem dX12_plan_111 : decode cX12_plan 111 = .ok (.istore 4, 2) := by decide +kernel
theorem dX12_plan_113 : decode cX12_plan 113 = .ok (.aload_n 0, 1) := by decide +kernel
theorem dX12_plan_114 : decode cX12_plan 114 = .ok (.iload_n 1, 1) := by decide +kernel
theorem dX12_plan_115 : decode cX12_plan 115 = .ok (.invokevirtual 536, 3) := by decide +kernel
theorem dX12_plan_118 : decode cX12_plan 118 = .ok (.istore 5, 2) := by decide +kernel
theorem dX12_plan_120 : decode cX12_plan 120 = .ok (.iconst 0, 1) := by decide +kernel
theorem dX12_plan_121 : decode cX12_plan 121 = .ok (.istore 8, 2) := by decide +kernel
theorem dX12_plan_123 : decode cX12_plan 123 = .ok (.iload 8, 2) := by decide +kernel
theorem dX12_plan_125 : decode cX12_plan 125 = .ok (.iload_n 1, 1) := by decide +kernel
theorem dX12_plan_126 : decode cX12_plan 126 = .ok (.if_icmp .ge 23, 3) := by decide +kernel
theorem dX12_plan_129 : decode cX12_plan 129 = .ok (.aload_n 0, 1) := by decide +kernel
theorem dX12_plan_130 : decode cX12_plan 130 = .ok (.getfield 88, 3) := by decide +kernel
theorem dX12_plan_133 : decode cX12_plan 133 = .ok (.iload 8, 2) := by decide +kernel
theorem dX12_plan_135 : decode cX12_plan 135 = .ok (.aload_n 0, 1) := by decide +kernel
theorem dX12_plan_136 : decode cX12_plan 136 = .ok (.getfield 85, 3) := by decide +kernel
theorem dX12_plan_139 : decode cX12_plan 139 = .ok (.iload 8, 2) := by decide +kernel
theorem dX12_plan_141 : decode cX12_plan 141 = .ok (.iaload, 1) := by decide +kernel
theorem dX12_plan_142 : decode cX12_plan 142 = .ok (.iastore, 1) := by decide +kernel
theorem dX12_plan_143 : decode cX12_plan 143 = .ok (.iinc 8 1, 3) := by decide +kernel
theorem dX12_plan_146 : decode cX12_plan 146 = .ok (.goto (-23), 3) := by decide +kernel
theorem dX12_plan_149 : decode cX12_plan 149 = .ok (.iinc 6 1, 3) := by decide +kernel
theorem dX12_plan_152 : decode cX12_plan 152 = .ok (.goto (-91), 3) := by decide +kernel
theorem dX12_plan_155 : decode cX12_plan 155 = .ok (.aload_n 0, 1) := by decide +kernel
theorem dX12_plan_156 : decode cX12_plan 156 = .ok (.iload_n 1, 1) := by decide +kernel
theorem dX12_plan_157 : decode cX12_plan 157 = .ok (.putfield 419, 3) := by decide +kernel
theorem dX12_plan_160 : decode cX12_plan 160 = .ok (.iload 4, 2) := by decide +kernel
theorem dX12_plan_162 : decode cX12_plan 162 = .ok (.ireturn, 1) := by decide +kernel
theorem dX12_joyOf_0 : decode cX12_joyOf 0 = .ok (.iconst 0, 1) := by decide +kernel
theorem dX12_joyOf_1 : decode cX12_joyOf 1 = .ok (.istore_n 2, 1) := by decide +kernel
theorem dX12_joyOf_2 : decode cX12_joyOf 2 = .ok (.iconst 0, 1) := by decide +kernel
theorem dX12_joyOf_3 : decode cX12_joyOf 3 = .ok (.istore_n 3, 1) := by decide +kernel
theorem dX12_joyOf_4 : decode cX12_joyOf 4 = .ok (.iload_n 3, 1) := by decide +kernel
theorem dX12_joyOf_5 : decode cX12_joyOf 5 = .ok (.aload_n 0, 1) := by decide +kernel
theorem dX12_joyOf_6 : decode cX12_joyOf 6 = .ok (.getfield 398, 3) := by decide +kernel
theorem dX12_joyOf_9 : decode cX12_joyOf 9 = .ok (.if_icmp .ge 58, 3) := by decide +kernel
theorem dX12_joyOf_12 : decode cX12_joyOf 12 = .ok (.iload_n 2, 1) := by decide +kernel
theorem dX12_joyOf_13 : decode cX12_joyOf 13 = .ok (.aload_n 0, 1) := by decide +kernel
theorem dX12_joyOf_14 : decode cX12_joyOf 14 = .ok (.getfield 57, 3) := by decide +kernel
theorem dX12_joyOf_17 : decode cX12_joyOf 17 = .ok (.iconst 4, 1) := by decide +kernel
theorem dX12_joyOf_18 : decode cX12_joyOf 18 = .ok (.iload_n 1, 1) := by decide +kernel
theorem dX12_joyOf_19 : decode cX12_joyOf 19 = .ok (.imul, 1) := by decide +kernel
theorem dX12_joyOf_20 : decode cX12_joyOf 20 = .ok (.iload_n 3, 1) := by decide +kernel
theorem dX12_joyOf_21 : decode cX12_joyOf 21 = .ok (.iadd, 1) := by decide +kernel
theorem dX12_joyOf_22 : decode cX12_joyOf 22 = .ok (.iaload, 1) := by decide +kernel
theorem dX12_joyOf_23 : decode cX12_joyOf 23 = .ok (.ifCond .ne 7, 3) := by decide +kernel
theorem dX12_joyOf_26 : decode cX12_joyOf 26 = .ok (.iconst 0, 1) := by decide +kernel
theorem dX12_joyOf_27 : decode cX12_joyOf 27 = .ok (.goto 32, 3) := by decide +kernel
theorem dX12_joyOf_30 : decode cX12_joyOf 30 = .ok (.aload_n 0, 1) := by decide +kernel
theorem dX12_joyOf_31 : decode cX12_joyOf 31 = .ok (.getfield 57, 3) := by decide +kernel
theorem dX12_joyOf_34 : decode cX12_joyOf 34 = .ok (.iconst 4, 1) := by decide +kernel
theorem dX12_joyOf_35 : decode cX12_joyOf 35 = .ok (.iload_n 1, 1) := by decide +kernel
theorem dX12_joyOf_36 : decode cX12_joyOf 36 = .ok (.imul, 1) := by decide +kernel
theorem dX12_joyOf_37 : decode cX12_joyOf 37 = .ok (.iload_n 3, 1) := by decide +kernel
theorem dX12_joyOf_38 : decode cX12_joyOf 38 = .ok (.iadd, 1) := by decide +kernel
theorem dX12_joyOf_39 : decode cX12_joyOf 39 = .ok (.iaload, 1) := by decide +kernel
theorem dX12_joyOf_40 : decode cX12_joyOf 40 = .ok (.aload_n 0, 1) := by decide +kernel
theorem dX12_joyOf_41 : decode cX12_joyOf 41 = .ok (.iload_n 3, 1) := by decide +kernel
theorem dX12_joyOf_42 : decode cX12_joyOf 42 = .ok (.invokevirtual 474, 3) := by decide +kernel
theorem dX12_joyOf_45 : decode cX12_joyOf 45 = .ok (.aload_n 0, 1) := by decide +kernel
theorem dX12_joyOf_46 : decode cX12_joyOf 46 = .ok (.getfield 54, 3) := by decide +kernel
theorem dX12_joyOf_49 : decode cX12_joyOf 49 = .ok (.iconst 4, 1) := by decide +kernel
theorem dX12_joyOf_50 : decode cX12_joyOf 50 = .ok (.iload_n 1, 1) := by decide +kernel
theorem dX12_joyOf_51 : decode cX12_joyOf 51 = .ok (.imul, 1) := by decide +kernel
theorem dX12_joyOf_52 : decode cX12_joyOf 52 = .ok (.iload_n 3, 1) := by decide +kernel
theorem dX12_joyOf_53 : decode cX12_joyOf 53 = .ok (.iadd, 1) := by decide +kernel
theorem dX12_joyOf_54 : decode cX12_joyOf 54 = .ok (.iaload, 1) := by decide +kernel
theorem dX12_joyOf_55 : decode cX12_joyOf 55 = .ok (.invokestatic 444, 3) := by decide +kernel
theorem dX12_joyOf_58 : decode cX12_joyOf 58 = .ok (.imul, 1) := by decide +kernel
theorem dX12_joyOf_59 : decode cX12_joyOf 59 = .ok (.isub, 1) := by decide +kernel
theorem dX12_joyOf_60 : decode cX12_joyOf 60 = .ok (.istore_n 2, 1) := by decide +kernel
theorem dX12_joyOf_61 : decode cX12_joyOf 61 = .ok (.iinc 3 1, 3) := by decide +kernel
theorem dX12_joyOf_64 : decode cX12_joyOf 64 = .ok (.goto (-60), 3) := by decide +kernel
theorem dX12_joyOf_67 : decode cX12_joyOf 67 = .ok (.iload_n 2, 1) := by decide +kernel
theorem dX12_joyOf_68 : decode cX12_joyOf 68 = .ok (.ireturn, 1) := by decide +kernel
theorem dX12_isParty_0 : decode cX12_isParty 0 = .ok (.iload_n 1, 1) := by decide +kernel
theorem dX12_isParty_1 : decode cX12_isParty 1 = .ok (.iconst 0, 1) := by decide +kernel
theorem dX12_isParty_2 : decode cX12_isParty 2 = .ok (.aload_n 0, 1) := by decide +kernel
theorem dX12_isParty_3 : decode cX12_isParty 3 = .ok (.getfield 401, 3) := by decide +kernel
theorem dX12_isParty_6 : decode cX12_isParty 6 = .ok (.iconst 1, 1) := by decide +kernel
theorem dX12_isParty_7 : decode cX12_isParty 7 = .ok (.isub, 1) := by decide +kernel
theorem dX12_isParty_8 : decode cX12_isParty 8 = .ok (.invokestatic 422, 3) := by decide +kernel
theorem dX12_isParty_11 : decode cX12_isParty 11 = .ok (.ireturn, 1) := by decide +kernel
theorem dX12_joy_0 : decode cX12_joy 0 = .ok (.aload_n 0, 1) := by decide +kernel
theorem dX12_joy_1 : decode cX12_joy 1 = .ok (.invokevirtual 462, 3) := by decide +kernel
theorem dX12_joy_4 : decode cX12_joy 4 = .ok (.aload_n 0, 1) := by decide +kernel
theorem dX12_joy_5 : decode cX12_joy 5 = .ok (.iload_n 1, 1) := by decide +kernel
theorem dX12_joy_6 : decode cX12_joy 6 = .ok (.invokevirtual 539, 3) := by decide +kernel
theorem dX12_joy_9 : decode cX12_joy 9 = .ok (.ifCond .eq 11, 3) := by decide +kernel
theorem dX12_joy_12 : decode cX12_joy 12 = .ok (.aload_n 0, 1) := by decide +kernel
theorem dX12_joy_13 : decode cX12_joy 13 = .ok (.iload_n 1, 1) := by decide +kernel
theorem dX12_joy_14 : decode cX12_joy 14 = .ok (.invokevirtual 542, 3) := by decide +kernel
theorem dX12_joy_17 : decode cX12_joy 17 = .ok (.goto 4, 3) := by decide +kernel
theorem dX12_joy_20 : decode cX12_joy 20 = .ok (.iconst 1, 1) := by decide +kernel
theorem dX12_joy_21 : decode cX12_joy 21 = .ok (.ireturn, 1) := by decide +kernel
theorem dX12_saddest_0 : decode cX12_saddest 0 = .ok (.aload_n 0, 1) := by decide +kernel
theorem dX12_saddest_1 : decode cX12_saddest 1 = .ok (.invokevirtual 462, 3) := by decide +kernel
theorem dX12_saddest_4 : decode cX12_saddest 4 = .ok (.iconst (-1), 1) := by decide +kernel
theorem dX12_saddest_5 : decode cX12_saddest 5 = .ok (.istore_n 1, 1) := by decide +kernel
theorem dX12_saddest_6 : decode cX12_saddest 6 = .ok (.iconst 0, 1) := by decide +kernel
theorem dX12_saddest_7 : decode cX12_saddest 7 = .ok (.istore_n 2, 1) := by decide +kernel
theorem dX12_saddest_8 : decode cX12_saddest 8 = .ok (.iload_n 2, 1) := by decide +kernel
theorem dX12_saddest_9 : decode cX12_saddest 9 = .ok (.aload_n 0, 1) := by decide +kernel
theorem dX12_saddest_10 : decode cX12_saddest 10 = .ok (.getfield 401, 3) := by decide +kernel
theorem dX12_saddest_13 : decode cX12_saddest 13 = .ok (.if_icmp .ge 32, 3) := by decide +kernel
theorem dX12_saddest_16 : decode cX12_saddest 16 = .ok (.iload_n 1, 1) := by decide +kernel
theorem dX12_saddest_17 : decode cX12_saddest 17 = .ok (.ifCond .lt 16, 3) := by decide +kernel
theorem dX12_saddest_20 : decode cX12_saddest 20 = .ok (.aload_n 0, 1) := by decide +kernel
theorem dX12_saddest_21 : decode cX12_saddest 21 = .ok (.iload_n 2, 1) := by decide +kernel
theorem dX12_saddest_22 : decode cX12_saddest 22 = .ok (.invokevirtual 542, 3) := by decide +kernel
theorem dX12_saddest_25 : decode cX12_saddest 25 = .ok (.aload_n 0, 1) := by decide +kernel
theorem dX12_saddest_26 : decode cX12_saddest 26 = .ok (.iload_n 1, 1) := by decide +kernel
theorem dX12_saddest_27 : decode cX12_saddest 27 = .ok (.invokevirtual 542, 3) := by decide +kernel
theorem dX12_saddest_30 : decode cX12_saddest 30 = .ok (.if_icmp .ge 7, 3) := by decide +kernel
theorem dX12_saddest_33 : decode cX12_saddest 33 = .ok (.iload_n 2, 1) := by decide +kernel
theorem dX12_saddest_34 : decode cX12_saddest 34 = .ok (.goto 4, 3) := by decide +kernel
theorem dX12_saddest_37 : decode cX12_saddest 37 = .ok (.iload_n 1, 1) := by decide +kernel
theorem dX12_saddest_38 : decode cX12_saddest 38 = .ok (.istore_n 1, 1) := by decide +kernel
theorem dX12_saddest_39 : decode cX12_saddest 39 = .ok (.iinc 2 1, 3) := by decide +kernel
theorem dX12_saddest_42 : decode cX12_saddest 42 = .ok (.goto (-34), 3) := by decide +kernel
theorem dX12_saddest_45 : decode cX12_saddest 45 = .ok (.iload_n 1, 1) := by decide +kernel
theorem dX12_saddest_46 : decode cX12_saddest 46 = .ok (.ireturn, 1) := by decide +kernel
theorem dX12_layEnd_0 : decode cX12_layEnd 0 = .ok (.aload_n 0, 1) := by decide +kernel
theorem dX12_layEnd_1 : decode cX12_layEnd 1 = .ok (.invokevirtual 462, 3) := by decide +kernel
theorem dX12_layEnd_4 : decode cX12_layEnd 4 = .ok (.iconst 1, 1) := by decide +kernel
theorem dX12_layEnd_5 : decode cX12_layEnd 5 = .ok (.istore_n 1, 1) := by decide +kernel
theorem dX12_layEnd_6 : decode cX12_layEnd 6 = .ok (.iconst 0, 1) := by decide +kernel
theorem dX12_layEnd_7 : decode cX12_layEnd 7 = .ok (.istore_n 2, 1) := by decide +kernel
theorem dX12_layEnd_8 : decode cX12_layEnd 8 = .ok (.iload_n 2, 1) := by decide +kernel
theorem dX12_layEnd_9 : decode cX12_layEnd 9 = .ok (.aload_n 0, 1) := by decide +kernel
theorem dX12_layEnd_10 : decode cX12_layEnd 10 = .ok (.getfield 401, 3) := by decide +kernel
theorem dX12_layEnd_13 : decode cX12_layEnd 13 = .ok (.if_icmp .ge 64, 3) := by decide +kernel
theorem dX12_layEnd_16 : decode cX12_layEnd 16 = .ok (.iload_n 1, 1) := by decide +kernel
theorem dX12_layEnd_17 : decode cX12_layEnd 17 = .ok (.ifCond .eq 60, 3) := by decide +kernel
theorem dX12_layEnd_20 : decode cX12_layEnd 20 = .ok (.aload_n 0, 1) := by decide +kernel
theorem dX12_layEnd_21 : decode cX12_layEnd 21 = .ok (.getfield 97, 3) := by decide +kernel
theorem dX12_layEnd_24 : decode cX12_layEnd 24 = .ok (.iload_n 2, 1) := by decide +kernel
theorem dX12_layEnd_25 : decode cX12_layEnd 25 = .ok (.iaload, 1) := by decide +kernel
theorem dX12_layEnd_26 : decode cX12_layEnd 26 = .ok (.ifCond .lt 16, 3) := by decide +kernel
theorem dX12_layEnd_29 : decode cX12_layEnd 29 = .ok (.aload_n 0, 1) := by decide +kernel
theorem dX12_layEnd_30 : decode cX12_layEnd 30 = .ok (.aload_n 0, 1) := by decide +kernel
theorem dX12_layEnd_31 : decode cX12_layEnd 31 = .ok (.getfield 97, 3) := by decide +kernel
theorem dX12_layEnd_34 : decode cX12_layEnd 34 = .ok (.iload_n 2, 1) := by decide +kernel
theorem dX12_layEnd_35 : decode cX12_layEnd 35 = .ok (.iaload, 1) := by decide +kernel
theorem dX12_layEnd_36 : decode cX12_layEnd 36 = .ok (.invokevirtual 432, 3) := by decide +kernel
theorem dX12_layEnd_39 : decode cX12_layEnd 39 = .ok (.ifCond .eq 7, 3) := by decide +kernel
theorem dX12_layEnd_42 : decode cX12_layEnd 42 = .ok (.iconst 1, 1) := by decide +kernel
theorem dX12_layEnd_43 : decode cX12_layEnd 43 = .ok (.goto 4, 3) := by decide +kernel
theorem dX12_layEnd_46 : decode cX12_layEnd 46 = .ok (.iconst 0, 1) := by decide +kernel
theorem dX12_layEnd_47 : decode cX12_layEnd 47 = .ok (.istore_n 1, 1) := by decide +kernel
theorem dX12_layEnd_48 : decode cX12_layEnd 48 = .ok (.iload_n 1, 1) := by decide +kernel
theorem dX12_layEnd_49 : decode cX12_layEnd 49 = .ok (.ifCond .eq 22, 3) := by decide +kernel
theorem dX12_layEnd_52 : decode cX12_layEnd 52 = .ok (.aload_n 0, 1) := by decide +kernel
theorem dX12_layEnd_53 : decode cX12_layEnd 53 = .ok (.getfield 97, 3) := by decide +kernel
theorem dX12_layEnd_56 : decode cX12_layEnd 56 = .ok (.iload_n 2, 1) := by decide +kernel
theorem dX12_layEnd_57 : decode cX12_layEnd 57 = .ok (.iaload, 1) := by decide +kernel
theorem dX12_layEnd_58 : decode cX12_layEnd 58 = .ok (.ifCond .lt 13, 3) := by decide +kernel
theorem dX12_layEnd_61 : decode cX12_layEnd 61 = .ok (.aload_n 0, 1) := by decide +kernel
theorem dX12_layEnd_62 : decode cX12_layEnd 62 = .ok (.aload_n 0, 1) := by decide +kernel
theorem dX12_layEnd_63 : decode cX12_layEnd 63 = .ok (.getfield 97, 3) := by decide +kernel
theorem dX12_layEnd_66 : decode cX12_layEnd 66 = .ok (.iload_n 2, 1) := by decide +kernel
theorem dX12_layEnd_67 : decode cX12_layEnd 67 = .ok (.iaload, 1) := by decide +kernel
theorem dX12_layEnd_68 : decode cX12_layEnd 68 = .ok (.invokevirtual 480, 3) := by decide +kernel
theorem dX12_layEnd_71 : decode cX12_layEnd 71 = .ok (.iinc 2 1, 3) := by decide +kernel
theorem dX12_layEnd_74 : decode cX12_layEnd 74 = .ok (.goto (-66), 3) := by decide +kernel
theorem dX12_layEnd_77 : decode cX12_layEnd 77 = .ok (.iconst 0, 1) := by decide +kernel
theorem dX12_layEnd_78 : decode cX12_layEnd 78 = .ok (.istore_n 2, 1) := by decide +kernel
theorem dX12_layEnd_79 : decode cX12_layEnd 79 = .ok (.iload_n 2, 1) := by decide +kernel
theorem dX12_layEnd_80 : decode cX12_layEnd 80 = .ok (.aload_n 0, 1) := by decide +kernel
theorem dX12_layEnd_81 : decode cX12_layEnd 81 = .ok (.getfield 401, 3) := by decide +kernel
theorem dX12_layEnd_84 : decode cX12_layEnd 84 = .ok (.if_icmp .ge 24, 3) := by decide +kernel
theorem dX12_layEnd_87 : decode cX12_layEnd 87 = .ok (.iload_n 1, 1) := by decide +kernel
theorem dX12_layEnd_88 : decode cX12_layEnd 88 = .ok (.ifCond .eq 20, 3) := by decide +kernel
theorem dX12_layEnd_91 : decode cX12_layEnd 91 = .ok (.aload_n 0, 1) := by decide +kernel
theorem dX12_layEnd_92 : decode cX12_layEnd 92 = .ok (.getfield 91, 3) := by decide +kernel
theorem dX12_layEnd_95 : decode cX12_layEnd 95 = .ok (.iload_n 2, 1) := by decide +kernel
theorem dX12_layEnd_96 : decode cX12_layEnd 96 = .ok (.aload_n 0, 1) := by decide +kernel
theorem dX12_layEnd_97 : decode cX12_layEnd 97 = .ok (.iload_n 2, 1) := by decide +kernel
theorem dX12_layEnd_98 : decode cX12_layEnd 98 = .ok (.invokevirtual 542, 3) := by decide +kernel
theorem dX12_layEnd_101 : decode cX12_layEnd 101 = .ok (.iastore, 1) := by decide +kernel
theorem dX12_layEnd_102 : decode cX12_layEnd 102 = .ok (.iinc 2 1, 3) := by decide +kernel
theorem dX12_layEnd_105 : decode cX12_layEnd 105 = .ok (.goto (-26), 3) := by decide +kernel
theorem dX12_layEnd_108 : decode cX12_layEnd 108 = .ok (.iload_n 1, 1) := by decide +kernel
theorem dX12_layEnd_109 : decode cX12_layEnd 109 = .ok (.ireturn, 1) := by decide +kernel
theorem dX12_layThird_0 : decode cX12_layThird 0 = .ok (.bipush (-2), 2) := by decide +kernel
theorem dX12_layThird_2 : decode cX12_layThird 2 = .ok (.istore_n 1, 1) := by decide +kernel
theorem dX12_layThird_3 : decode cX12_layThird 3 = .ok (.iconst (-1), 1) := by decide +kernel
theorem dX12_layThird_4 : decode cX12_layThird 4 = .ok (.istore_n 2, 1) := by decide +kernel
theorem dX12_layThird_5 : decode cX12_layThird 5 = .ok (.iload_n 2, 1) := by decide +kernel
theorem dX12_layThird_6 : decode cX12_layThird 6 = .ok (.aload_n 0, 1) := by decide +kernel
theorem dX12_layThird_7 : decode cX12_layThird 7 = .ok (.getfield 76, 3) := by decide +kernel
theorem dX12_layThird_10 : decode cX12_layThird 10 = .ok (.bipush 96, 2) := by decide +kernel
theorem dX12_layThird_12 : decode cX12_layThird 12 = .ok (.iaload, 1) := by decide +kernel
theorem dX12_layThird_13 : decode cX12_layThird 13 = .ok (.if_icmp .ge 77, 3) := by decide +kernel
theorem dX12_layThird_16 : decode cX12_layThird 16 = .ok (.aload_n 0, 1) := by decide +kernel
theorem dX12_layThird_17 : decode cX12_layThird 17 = .ok (.getfield 97, 3) := by decide +kernel
theorem dX12_layThird_20 : decode cX12_layThird 20 = .ok (.iconst 2, 1) := by decide +kernel
theorem dX12_layThird_21 : decode cX12_layThird 21 = .ok (.iload_n 2, 1) := by decide +kernel
theorem dX12_layThird_22 : decode cX12_layThird 22 = .ok (.iastore, 1) := by decide +kernel
theorem dX12_layThird_23 : decode cX12_layThird 23 = .ok (.aload_n 0, 1) := by decide +kernel
theorem dX12_layThird_24 : decode cX12_layThird 24 = .ok (.invokevirtual 545, 3) := by decide +kernel
theorem dX12_layThird_27 : decode cX12_layThird 27 = .ok (.ifCond .eq 57, 3) := by decide +kernel
theorem dX12_layThird_30 : decode cX12_layThird 30 = .ok (.iload_n 1, 1) := by decide +kernel
theorem dX12_layThird_31 : decode cX12_layThird 31 = .ok (.bipush (-2), 2) := by decide +kernel
theorem dX12_layThird_33 : decode cX12_layThird 33 = .ok (.if_icmp .eq 21, 3) := by decide +kernel
theorem dX12_layThird_36 : decode cX12_layThird 36 = .ok (.aload_n 0, 1) := by decide +kernel
theorem dX12_layThird_37 : decode cX12_layThird 37 = .ok (.getfield 91, 3) := by decide +kernel
theorem dX12_layThird_40 : decode cX12_layThird 40 = .ok (.iconst 2, 1) := by decide +kernel
theorem dX12_layThird_41 : decode cX12_layThird 41 = .ok (.iaload, 1) := by decide +kernel
theorem dX12_layThird_42 : decode cX12_layThird 42 = .ok (.aload_n 0, 1) := by decide +kernel
theorem dX12_layThird_43 : decode cX12_layThird 43 = .ok (.getfield 94, 3) := by decide +kernel
theorem dX12_layThird_46 : decode cX12_layThird 46 = .ok (.iconst 2, 1) := by decide +kernel
theorem dX12_layThird_47 : decode cX12_layThird 47 = .ok (.iaload, 1) := by decide +kernel
theorem dX12_layThird_48 : decode cX12_layThird 48 = .ok (.if_icmp .gt 6, 3) := by decide +kernel
theorem dX12_layThird_51 : decode cX12_layThird 51 = .ok (.goto 33, 3) := by decide +kernel
theorem dX12_layThird_54 : decode cX12_layThird 54 = .ok (.iload_n 2, 1) := by decide +kernel
theorem dX12_layThird_55 : decode cX12_layThird 55 = .ok (.istore_n 1, 1) := by decide +kernel
theorem dX12_layThird_56 : decode cX12_layThird 56 = .ok (.iconst 0, 1) := by decide +kernel
theorem dX12_layThird_57 : decode cX12_layThird 57 = .ok (.istore_n 3, 1) := by decide +kernel
theorem dX12_layThird_58 : decode cX12_layThird 58 = .ok (.iload_n 3, 1) := by decide +kernel
theorem dX12_layThird_59 : decode cX12_layThird 59 = .ok (.aload_n 0, 1) := by decide +kernel
theorem dX12_layThird_60 : decode cX12_layThird 60 = .ok (.getfield 401, 3) := by decide +kernel
theorem dX12_layThird_63 : decode cX12_layThird 63 = .ok (.if_icmp .ge 21, 3) := by decide +kernel
theorem dX12_layThird_66 : decode cX12_layThird 66 = .ok (.aload_n 0, 1) := by decide +kernel
theorem dX12_layThird_67 : decode cX12_layThird 67 = .ok (.getfield 94, 3) := by decide +kernel
theorem dX12_layThird_70 : decode cX12_layThird 70 = .ok (.iload_n 3, 1) := by decide +kernel
theorem dX12_layThird_71 : decode cX12_layThird 71 = .ok (.aload_n 0, 1) := by decide +kernel
theorem dX12_layThird_72 : decode cX12_layThird 72 = .ok (.getfield 91, 3) := by decide +kernel
theorem dX12_layThird_75 : decode cX12_layThird 75 = .ok (.iload_n 3, 1) := by decide +kernel
theorem dX12_layThird_76 : decode cX12_layThird 76 = .ok (.iaload, 1) := by decide +kernel
theorem dX12_layThird_77 : decode cX12_layThird 77 = .ok (.iastore, 1) := by decide +kernel
theorem dX12_layThird_78 : decode cX12_layThird 78 = .ok (.iinc 3 1, 3) := by decide +kernel
theorem dX12_layThird_81 : decode cX12_layThird 81 = .ok (.goto (-23), 3) := by decide +kernel
theorem dX12_layThird_84 : decode cX12_layThird 84 = .ok (.iinc 2 1, 3) := by decide +kernel
theorem dX12_layThird_87 : decode cX12_layThird 87 = .ok (.goto (-82), 3) := by decide +kernel
theorem dX12_layThird_90 : decode cX12_layThird 90 = .ok (.aload_n 0, 1) := by decide +kernel
theorem dX12_layThird_91 : decode cX12_layThird 91 = .ok (.getfield 97, 3) := by decide +kernel
theorem dX12_layThird_94 : decode cX12_layThird 94 = .ok (.iconst 2, 1) := by decide +kernel
theorem dX12_layThird_95 : decode cX12_layThird 95 = .ok (.iload_n 1, 1) := by decide +kernel
theorem dX12_layThird_96 : decode cX12_layThird 96 = .ok (.iastore, 1) := by decide +kernel
theorem dX12_layThird_97 : decode cX12_layThird 97 = .ok (.return_, 1) := by decide +kernel
theorem dX12_canPull_0 : decode cX12_canPull 0 = .ok (.iload_n 1, 1) := by decide +kernel
theorem dX12_canPull_1 : decode cX12_canPull 1 = .ok (.aload_n 0, 1) := by decide +kernel
theorem dX12_canPull_2 : decode cX12_canPull 2 = .ok (.getfield 401, 3) := by decide +kernel
theorem dX12_canPull_5 : decode cX12_canPull 5 = .ok (.if_icmp .lt 15, 3) := by decide +kernel
theorem dX12_canPull_8 : decode cX12_canPull 8 = .ok (.iload_n 2, 1) := by decide +kernel
theorem dX12_canPull_9 : decode cX12_canPull 9 = .ok (.ifCond .ge 7, 3) := by decide +kernel
theorem dX12_canPull_12 : decode cX12_canPull 12 = .ok (.iconst 1, 1) := by decide +kernel
theorem dX12_canPull_13 : decode cX12_canPull 13 = .ok (.goto 30, 3) := by decide +kernel
theorem dX12_canPull_16 : decode cX12_canPull 16 = .ok (.iconst 0, 1) := by decide +kernel
theorem dX12_canPull_17 : decode cX12_canPull 17 = .ok (.goto 26, 3) := by decide +kernel
theorem dX12_canPull_20 : decode cX12_canPull 20 = .ok (.iload_n 2, 1) := by decide +kernel
theorem dX12_canPull_21 : decode cX12_canPull 21 = .ok (.ifCond .lt 17, 3) := by decide +kernel
theorem dX12_canPull_24 : decode cX12_canPull 24 = .ok (.aload_n 0, 1) := by decide +kernel
theorem dX12_canPull_25 : decode cX12_canPull 25 = .ok (.getfield 76, 3) := by decide +kernel
theorem dX12_canPull_28 : decode cX12_canPull 28 = .ok (.bipush 8, 2) := by decide +kernel
theorem dX12_canPull_30 : decode cX12_canPull 30 = .ok (.iload_n 2, 1) := by decide +kernel
theorem dX12_canPull_31 : decode cX12_canPull 31 = .ok (.imul, 1) := by decide +kernel
theorem dX12_canPull_32 : decode cX12_canPull 32 = .ok (.iconst 0, 1) := by decide +kernel
theorem dX12_canPull_33 : decode cX12_canPull 33 = .ok (.iadd, 1) := by decide +kernel
theorem dX12_canPull_34 : decode cX12_canPull 34 = .ok (.iaload, 1) := by decide +kernel
theorem dX12_canPull_35 : decode cX12_canPull 35 = .ok (.ifCond .le 7, 3) := by decide +kernel
theorem dX12_canPull_38 : decode cX12_canPull 38 = .ok (.iconst 1, 1) := by decide +kernel
theorem dX12_canPull_39 : decode cX12_canPull 39 = .ok (.goto 4, 3) := by decide +kernel
theorem dX12_canPull_42 : decode cX12_canPull 42 = .ok (.iconst 0, 1) := by decide +kernel
theorem dX12_canPull_43 : decode cX12_canPull 43 = .ok (.ireturn, 1) := by decide +kernel
theorem dX12_laySecond_0 : decode cX12_laySecond 0 = .ok (.aload_n 0, 1) := by decide +kernel
theorem dX12_laySecond_1 : decode cX12_laySecond 1 = .ok (.bipush (-2), 2) := by decide +kernel
theorem dX12_laySecond_3 : decode cX12_laySecond 3 = .ok (.putfield 548, 3) := by decide +kernel
theorem dX12_laySecond_6 : decode cX12_laySecond 6 = .ok (.iconst (-1), 1) := by decide +kernel
theorem dX12_laySecond_7 : decode cX12_laySecond 7 = .ok (.istore_n 1, 1) := by decide +kernel
theorem dX12_laySecond_8 : decode cX12_laySecond 8 = .ok (.iload_n 1, 1) := by decide +kernel
theorem dX12_laySecond_9 : decode cX12_laySecond 9 = .ok (.aload_n 0, 1) := by decide +kernel
theorem dX12_laySecond_10 : decode cX12_laySecond 10 = .ok (.getfield 76, 3) := by decide +kernel
theorem dX12_laySecond_13 : decode cX12_laySecond 13 = .ok (.bipush 96, 2) := by decide +kernel
theorem dX12_laySecond_15 : decode cX12_laySecond 15 = .ok (.iaload, 1) := by decide +kernel
theorem dX12_laySecond_16 : decode cX12_laySecond 16 = .ok (.if_icmp .ge 113, 3) := by decide +kernel
theorem dX12_laySecond_19 : decode cX12_laySecond 19 = .ok (.aload_n 0, 1) := by decide +kernel
theorem dX12_laySecond_20 : decode cX12_laySecond 20 = .ok (.iconst 1, 1) := by decide +kernel
theorem dX12_laySecond_21 : decode cX12_laySecond 21 = .ok (.iload_n 1, 1) := by decide +kernel
theorem dX12_laySecond_22 : decode cX12_laySecond 22 = .ok (.invokevirtual 551, 3) := by decide +kernel
theorem dX12_laySecond_25 : decode cX12_laySecond 25 = .ok (.ifCond .eq 98, 3) := by decide +kernel
theorem dX12_laySecond_28 : decode cX12_laySecond 28 = .ok (.iload_n 1, 1) := by decide +kernel
theorem dX12_laySecond_29 : decode cX12_laySecond 29 = .ok (.ifCond .lt 16, 3) := by decide +kernel
theorem dX12_laySecond_32 : decode cX12_laySecond 32 = .ok (.iload_n 1, 1) := by decide +kernel
theorem dX12_laySecond_33 : decode cX12_laySecond 33 = .ok (.aload_n 0, 1) := by decide +kernel
theorem dX12_laySecond_34 : decode cX12_laySecond 34 = .ok (.getfield 97, 3) := by decide +kernel
theorem dX12_laySecond_37 : decode cX12_laySecond 37 = .ok (.iconst 0, 1) := by decide +kernel
theorem dX12_laySecond_38 : decode cX12_laySecond 38 = .ok (.iaload, 1) := by decide +kernel
theorem dX12_laySecond_39 : decode cX12_laySecond 39 = .ok (.if_icmp .ne 6, 3) := by decide +kernel
theorem dX12_laySecond_42 : decode cX12_laySecond 42 = .ok (.goto 81, 3) := by decide +kernel
theorem dX12_laySecond_45 : decode cX12_laySecond 45 = .ok (.aload_n 0, 1) := by decide +kernel
theorem dX12_laySecond_46 : decode cX12_laySecond 46 = .ok (.getfield 97, 3) := by decide +kernel
theorem dX12_laySecond_49 : decode cX12_laySecond 49 = .ok (.iconst 1, 1) := by decide +kernel
theorem dX12_laySecond_50 : decode cX12_laySecond 50 = .ok (.iload_n 1, 1) := by decide +kernel
theorem dX12_laySecond_51 : decode cX12_laySecond 51 = .ok (.iastore, 1) := by decide +kernel
theorem dX12_laySecond_52 : decode cX12_laySecond 52 = .ok (.aload_n 0, 1) := by decide +kernel
theorem dX12_laySecond_53 : decode cX12_laySecond 53 = .ok (.invokevirtual 554, 3) := by decide +kernel
theorem dX12_laySecond_56 : decode cX12_laySecond 56 = .ok (.aload_n 0, 1) := by decide +kernel
theorem dX12_laySecond_57 : decode cX12_laySecond 57 = .ok (.getfield 548, 3) := by decide +kernel
theorem dX12_laySecond_60 : decode cX12_laySecond 60 = .ok (.bipush (-2), 2) := by decide +kernel
theorem dX12_laySecond_62 : decode cX12_laySecond 62 = .ok (.if_icmp .eq 21, 3) := by decide +kernel
theorem dX12_laySecond_65 : decode cX12_laySecond 65 = .ok (.aload_n 0, 1) := by decide +kernel
theorem dX12_laySecond_66 : decode cX12_laySecond 66 = .ok (.getfield 94, 3) := by decide +kernel
theorem dX12_laySecond_69 : decode cX12_laySecond 69 = .ok (.iconst 1, 1) := by decide +kernel
theorem dX12_laySecond_70 : decode cX12_laySecond 70 = .ok (.iaload, 1) := by decide +kernel
theorem dX12_laySecond_71 : decode cX12_laySecond 71 = .ok (.aload_n 0, 1) := by decide +kernel
theorem dX12_laySecond_72 : decode cX12_laySecond 72 = .ok (.getfield 100, 3) := by decide +kernel
theorem dX12_laySecond_75 : decode cX12_laySecond 75 = .ok (.iconst 1, 1) := by decide +kernel
theorem dX12_laySecond_76 : decode cX12_laySecond 76 = .ok (.iaload, 1) := by decide +kernel
theorem dX12_laySecond_77 : decode cX12_laySecond 77 = .ok (.if_icmp .gt 6, 3) := by decide +kernel
theorem dX12_laySecond_80 : decode cX12_laySecond 80 = .ok (.goto 43, 3) := by decide +kernel
theorem dX12_laySecond_83 : decode cX12_laySecond 83 = .ok (.aload_n 0, 1) := by decide +kernel
theorem dX12_laySecond_84 : decode cX12_laySecond 84 = .ok (.iload_n 1, 1) := by decide +kernel
theorem dX12_laySecond_85 : decode cX12_laySecond 85 = .ok (.putfield 548, 3) := by decide +kernel
theorem dX12_laySecond_88 : decode cX12_laySecond 88 = .ok (.aload_n 0, 1) := by decide +kernel
theorem dX12_laySecond_89 : decode cX12_laySecond 89 = .ok (.aload_n 0, 1) := by decide +kernel
theorem dX12_laySecond_90 : decode cX12_laySecond 90 = .ok (.getfield 97, 3) := by decide +kernel
theorem dX12_laySecond_93 : decode cX12_laySecond 93 = .ok (.iconst 2, 1) := by decide +kernel
theorem dX12_laySecond_94 : decode cX12_laySecond 94 = .ok (.iaload, 1) := by decide +kernel
theorem dX12_laySecond_95 : decode cX12_laySecond 95 = .ok (.putfield 557, 3) := by decide +kernel
theorem dX12_laySecond_98 : decode cX12_laySecond 98 = .ok (.iconst 0, 1) := by decide +kernel
theorem dX12_laySecond_99 : decode cX12_laySecond 99 = .ok (.istore_n 2, 1) := by decide +kernel
theorem dX12_laySecond_100 : decode cX12_laySecond 100 = .ok (.iload_n 2, 1) := by decide +kernel
theorem dX12_laySecond_101 : decode cX12_laySecond 101 = .ok (.iconst 3, 1) := by decide +kernel
theorem dX12_laySecond_102 : decode cX12_laySecond 102 = .ok (.if_icmp .ge 21, 3) := by decide +kernel
theorem dX12_laySecond_105 : decode cX12_laySecond 105 = .ok (.aload_n 0, 1) := by decide +kernel
theorem dX12_laySecond_106 : decode cX12_laySecond 106 = .ok (.getfield 100, 3) := by decide +kernel
theorem dX12_laySecond_109 : decode cX12_laySecond 109 = .ok (.iload_n 2, 1) := by decide +kernel
theorem dX12_laySecond_110 : decode cX12_laySecond 110 = .ok (.aload_n 0, 1) := by decide +kernel
theorem dX12_laySecond_111 : decode cX12_laySecond 111 = .ok (.getfield 94, 3) := by decide +kernel
theorem dX12_laySecond_114 : decode cX12_laySecond 114 = .ok (.iload_n 2, 1) := by decide +kernel
theorem dX12_laySecond_115 : decode cX12_laySecond 115 = .ok (.iaload, 1) := by decide +kernel
theorem dX12_laySecond_116 : decode cX12_laySecond 116 = .ok (.iastore, 1) := by decide +kernel
theorem dX12_laySecond_117 : decode cX12_laySecond 117 = .ok (.iinc 2 1, 3) := by decide +kernel
theorem dX12_laySecond_120 : decode cX12_laySecond 120 = .ok (.goto (-20), 3) := by decide +kernel
theorem dX12_laySecond_123 : decode cX12_laySecond 123 = .ok (.iinc 1 1, 3) := by decide +kernel
theorem dX12_laySecond_126 : decode cX12_laySecond 126 = .ok (.goto (-118), 3) := by decide +kernel
theorem dX12_laySecond_129 : decode cX12_laySecond 129 = .ok (.return_, 1) := by decide +kernel
theorem dX12_layLast_0 : decode cX12_layLast 0 = .ok (.aload_n 0, 1) := by decide +kernel
theorem dX12_layLast_1 : decode cX12_layLast 1 = .ok (.getfield 97, 3) := by decide +kernel
theorem dX12_layLast_4 : decode cX12_layLast 4 = .ok (.iconst 2, 1) := by decide +kernel
theorem dX12_layLast_5 : decode cX12_layLast 5 = .ok (.iconst (-1), 1) := by decide +kernel
theorem dX12_layLast_6 : decode cX12_layLast 6 = .ok (.iastore, 1) := by decide +kernel
theorem dX12_layLast_7 : decode cX12_layLast 7 = .ok (.aload_n 0, 1) := by decide +kernel
theorem dX12_layLast_8 : decode cX12_layLast 8 = .ok (.getfield 401, 3) := by decide +kernel
theorem dX12_layLast_11 : decode cX12_layLast 11 = .ok (.iconst 3, 1) := by decide +kernel
theorem dX12_layLast_12 : decode cX12_layLast 12 = .ok (.if_icmp .ne 8, 3) := by decide +kernel
theorem dX12_layLast_15 : decode cX12_layLast 15 = .ok (.aload_n 0, 1) := by decide +kernel
theorem dX12_layLast_16 : decode cX12_layLast 16 = .ok (.invokevirtual 560, 3) := by decide +kernel
theorem dX12_layLast_19 : decode cX12_layLast 19 = .ok (.return_, 1) := by decide +kernel
theorem dX12_layLast_20 : decode cX12_layLast 20 = .ok (.aload_n 0, 1) := by decide +kernel
theorem dX12_layLast_21 : decode cX12_layLast 21 = .ok (.invokevirtual 545, 3) := by decide +kernel
theorem dX12_layLast_24 : decode cX12_layLast 24 = .ok (.ifCond .eq 31, 3) := by decide +kernel
theorem dX12_layLast_27 : decode cX12_layLast 27 = .ok (.iconst 0, 1) := by decide +kernel
theorem dX12_layLast_28 : decode cX12_layLast 28 = .ok (.istore_n 1, 1) := by decide +kernel
theorem dX12_layLast_29 : decode cX12_layLast 29 = .ok (.iload_n 1, 1) := by decide +kernel
theorem dX12_layLast_30 : decode cX12_layLast 30 = .ok (.aload_n 0, 1) := by decide +kernel
theorem dX12_layLast_31 : decode cX12_layLast 31 = .ok (.getfield 401, 3) := by decide +kernel
theorem dX12_layLast_34 : decode cX12_layLast 34 = .ok (.if_icmp .ge 21, 3) := by decide +kernel
theorem dX12_layLast_37 : decode cX12_layLast 37 = .ok (.aload_n 0, 1) := by decide +kernel
theorem dX12_layLast_38 : decode cX12_layLast 38 = .ok (.getfield 94, 3) := by decide +kernel
theorem dX12_layLast_41 : decode cX12_layLast 41 = .ok (.iload_n 1, 1) := by decide +kernel
theorem dX12_layLast_42 : decode cX12_layLast 42 = .ok (.aload_n 0, 1) := by decide +kernel
theorem dX12_layLast_43 : decode cX12_layLast 43 = .ok (.getfield 91, 3) := by decide +kernel
theorem dX12_layLast_46 : decode cX12_layLast 46 = .ok (.iload_n 1, 1) := by decide +kernel
theorem dX12_layLast_47 : decode cX12_layLast 47 = .ok (.iaload, 1) := by decide +kernel
theorem dX12_layLast_48 : decode cX12_layLast 48 = .ok (.iastore, 1) := by decide +kernel
theorem dX12_layLast_49 : decode cX12_layLast 49 = .ok (.iinc 1 1, 3) := by decide +kernel
theorem dX12_layLast_52 : decode cX12_layLast 52 = .ok (.goto (-23), 3) := by decide +kernel
theorem dX12_layLast_55 : decode cX12_layLast 55 = .ok (.return_, 1) := by decide +kernel
theorem dX12_game_0 : decode cX12_game 0 = .ok (.aload_n 0, 1) := by decide +kernel
theorem dX12_game_1 : decode cX12_game 1 = .ok (.iconst 0, 1) := by decide +kernel
theorem dX12_game_2 : decode cX12_game 2 = .ok (.putfield 419, 3) := by decide +kernel
theorem dX12_game_5 : decode cX12_game 5 = .ok (.ldc_w 563, 3) := by decide +kernel
theorem dX12_game_8 : decode cX12_game 8 = .ok (.istore_n 1, 1) := by decide +kernel
theorem dX12_game_9 : decode cX12_game 9 = .ok (.iconst 0, 1) := by decide +kernel
theorem dX12_game_10 : decode cX12_game 10 = .ok (.istore_n 2, 1) := by decide +kernel
theorem dX12_game_11 : decode cX12_game 11 = .ok (.iconst (-1), 1) := by decide +kernel
theorem dX12_game_12 : decode cX12_game 12 = .ok (.istore_n 3, 1) := by decide +kernel
theorem dX12_game_13 : decode cX12_game 13 = .ok (.iload_n 3, 1) := by decide +kernel
theorem dX12_game_14 : decode cX12_game 14 = .ok (.aload_n 0, 1) := by decide +kernel
theorem dX12_game_15 : decode cX12_game 15 = .ok (.getfield 76, 3) := by decide +kernel
theorem dX12_game_18 : decode cX12_game 18 = .ok (.bipush 96, 2) := by decide +kernel
theorem dX12_game_20 : decode cX12_game 20 = .ok (.iaload, 1) := by decide +kernel
theorem dX12_game_21 : decode cX12_game 21 = .ok (.if_icmp .ge 92, 3) := by decide +kernel
theorem dX12_game_24 : decode cX12_game 24 = .ok (.aload_n 0, 1) := by decide +kernel
theorem dX12_game_25 : decode cX12_game 25 = .ok (.getfield 401, 3) := by decide +kernel
theorem dX12_game_28 : decode cX12_game 28 = .ok (.ifCond .le 85, 3) := by decide +kernel
theorem dX12_game_31 : decode cX12_game 31 = .ok (.aload_n 0, 1) := by decide +kernel
theorem dX12_game_32 : decode cX12_game 32 = .ok (.iconst 0, 1) := by decide +kernel
theorem dX12_game_33 : decode cX12_game 33 = .ok (.iload_n 3, 1) := by decide +kernel
theorem dX12_game_34 : decode cX12_game 34 = .ok (.invokevirtual 551, 3) := by decide +kernel
theorem dX12_game_37 : decode cX12_game 37 = .ok (.ifCond .ne 6, 3) := by decide +kernel
theorem dX12_game_40 : decode cX12_game 40 = .ok (.goto 67, 3) := by decide +kernel
theorem dX12_game_43 : decode cX12_game 43 = .ok (.aload_n 0, 1) := by decide +kernel
theorem dX12_game_44 : decode cX12_game 44 = .ok (.getfield 97, 3) := by decide +kernel
theorem dX12_game_47 : decode cX12_game 47 = .ok (.iconst 0, 1) := by decide +kernel
theorem dX12_game_48 : decode cX12_game 48 = .ok (.iload_n 3, 1) := by decide +kernel
theorem dX12_game_49 : decode cX12_game 49 = .ok (.iastore, 1) := by decide +kernel
theorem dX12_game_50 : decode cX12_game 50 = .ok (.aload_n 0, 1) := by decide +kernel
theorem dX12_game_51 : decode cX12_game 51 = .ok (.invokevirtual 564, 3) := by decide +kernel
theorem dX12_game_54 : decode cX12_game 54 = .ok (.iload_n 2, 1) := by decide +kernel
theorem dX12_game_55 : decode cX12_game 55 = .ok (.ifCond .eq 16, 3) := by decide +kernel
theorem dX12_game_58 : decode cX12_game 58 = .ok (.aload_n 0, 1) := by decide +kernel
theorem dX12_game_59 : decode cX12_game 59 = .ok (.getfield 100, 3) := by decide +kernel
theorem dX12_game_62 : decode cX12_game 62 = .ok (.iconst 0, 1) := by decide +kernel
theorem dX12_game_63 : decode cX12_game 63 = .ok (.iaload, 1) := by decide +kernel
theorem dX12_game_64 : decode cX12_game 64 = .ok (.iload_n 1, 1) := by decide +kernel
theorem dX12_game_65 : decode cX12_game 65 = .ok (.if_icmp .gt 6, 3) := by decide +kernel
theorem dX12_game_68 : decode cX12_game 68 = .ok (.goto 39, 3) := by decide +kernel
theorem dX12_game_71 : decode cX12_game 71 = .ok (.iconst 1, 1) := by decide +kernel
theorem dX12_game_72 : decode cX12_game 72 = .ok (.istore_n 2, 1) := by decide +kernel
theorem dX12_game_73 : decode cX12_game 73 = .ok (.aload_n 0, 1) := by decide +kernel
theorem dX12_game_74 : decode cX12_game 74 = .ok (.getfield 100, 3) := by decide +kernel
theorem dX12_game_77 : decode cX12_game 77 = .ok (.iconst 0, 1) := by decide +kernel
theorem dX12_game_78 : decode cX12_game 78 = .ok (.iaload, 1) := by decide +kernel
theorem dX12_game_79 : decode cX12_game 79 = .ok (.istore_n 1, 1) := by decide +kernel
theorem dX12_game_80 : decode cX12_game 80 = .ok (.aload_n 0, 1) := by decide +kernel
theorem dX12_game_81 : decode cX12_game 81 = .ok (.getfield 88, 3) := by decide +kernel
theorem dX12_game_84 : decode cX12_game 84 = .ok (.iconst 0, 1) := by decide +kernel
theorem dX12_game_85 : decode cX12_game 85 = .ok (.iload_n 3, 1) := by decide +kernel
theorem dX12_game_86 : decode cX12_game 86 = .ok (.iastore, 1) := by decide +kernel
theorem dX12_game_87 : decode cX12_game 87 = .ok (.aload_n 0, 1) := by decide +kernel
theorem dX12_game_88 : decode cX12_game 88 = .ok (.getfield 88, 3) := by decide +kernel
theorem dX12_game_91 : decode cX12_game 91 = .ok (.iconst 1, 1) := by decide +kernel
theorem dX12_game_92 : decode cX12_game 92 = .ok (.aload_n 0, 1) := by decide +kernel
theorem dX12_game_93 : decode cX12_game 93 = .ok (.getfield 548, 3) := by decide +kernel
theorem dX12_game_96 : decode cX12_game 96 = .ok (.iastore, 1) := by decide +kernel
theorem dX12_game_97 : decode cX12_game 97 = .ok (.aload_n 0, 1) := by decide +kernel
theorem dX12_game_98 : decode cX12_game 98 = .ok (.getfield 88, 3) := by decide +kernel
theorem dX12_game_101 : decode cX12_game 101 = .ok (.iconst 2, 1) := by decide +kernel
theorem dX12_game_102 : decode cX12_game 102 = .ok (.aload_n 0, 1) := by decide +kernel
theorem dX12_game_103 : decode cX12_game 103 = .ok (.getfield 557, 3) := by decide +kernel
theorem dX12_game_106 : decode cX12_game 106 = .ok (.iastore, 1) := by decide +kernel
theorem dX12_game_107 : decode cX12_game 107 = .ok (.iinc 3 1, 3) := by decide +kernel
theorem dX12_game_110 : decode cX12_game 110 = .ok (.goto (-97), 3) := by decide +kernel
theorem dX12_game_113 : decode cX12_game 113 = .ok (.aload_n 0, 1) := by decide +kernel
theorem dX12_game_114 : decode cX12_game 114 = .ok (.aload_n 0, 1) := by decide +kernel
theorem dX12_game_115 : decode cX12_game 115 = .ok (.getfield 401, 3) := by decide +kernel
theorem dX12_game_118 : decode cX12_game 118 = .ok (.putfield 419, 3) := by decide +kernel
theorem dX12_game_121 : decode cX12_game 121 = .ok (.iconst 0, 1) := by decide +kernel
theorem dX12_game_122 : decode cX12_game 122 = .ok (.istore_n 3, 1) := by decide +kernel
theorem dX12_game_123 : decode cX12_game 123 = .ok (.iconst 0, 1) := by decide +kernel
theorem dX12_game_124 : decode cX12_game 124 = .ok (.istore 4, 2) := by decide +kernel
theorem dX12_game_126 : decode cX12_game 126 = .ok (.iload 4, 2) := by decide +kernel
theorem dX12_game_128 : decode cX12_game 128 = .ok (.aload_n 0, 1) := by decide +kernel
theorem dX12_game_129 : decode cX12_game 129 = .ok (.getfield 401, 3) := by decide +kernel
theorem dX12_game_132 : decode cX12_game 132 = .ok (.if_icmp .ge 30, 3) := by decide +kernel
theorem dX12_game_135 : decode cX12_game 135 = .ok (.iload_n 3, 1) := by decide +kernel
theorem dX12_game_136 : decode cX12_game 136 = .ok (.aload_n 0, 1) := by decide +kernel
theorem dX12_game_137 : decode cX12_game 137 = .ok (.getfield 88, 3) := by decide +kernel
theorem dX12_game_140 : decode cX12_game 140 = .ok (.iload 4, 2) := by decide +kernel
theorem dX12_game_142 : decode cX12_game 142 = .ok (.iaload, 1) := by decide +kernel
theorem dX12_game_143 : decode cX12_game 143 = .ok (.ifCond .lt 7, 3) := by decide +kernel
theorem dX12_game_146 : decode cX12_game 146 = .ok (.iconst 1, 1) := by decide +kernel
theorem dX12_game_147 : decode cX12_game 147 = .ok (.goto 4, 3) := by decide +kernel
theorem dX12_game_150 : decode cX12_game 150 = .ok (.iconst 0, 1) := by decide +kernel
theorem dX12_game_151 : decode cX12_game 151 = .ok (.invokestatic 307, 3) := by decide +kernel
theorem dX12_game_154 : decode cX12_game 154 = .ok (.iadd, 1) := by decide +kernel
theorem dX12_game_155 : decode cX12_game 155 = .ok (.istore_n 3, 1) := by decide +kernel
theorem dX12_game_156 : decode cX12_game 156 = .ok (.iinc 4 1, 3) := by decide +kernel
theorem dX12_game_159 : decode cX12_game 159 = .ok (.goto (-33), 3) := by decide +kernel
theorem dX12_game_162 : decode cX12_game 162 = .ok (.iload_n 3, 1) := by decide +kernel
theorem dX12_game_163 : decode cX12_game 163 = .ok (.ireturn, 1) := by decide +kernel
theorem dX12_lies_0 : decode cX12_lies 0 = .ok (.iload_n 1, 1) := by decide +kernel
theorem dX12_lies_1 : decode cX12_lies 1 = .ok (.iconst 0, 1) := by decide +kernel
theorem dX12_lies_2 : decode cX12_lies 2 = .ok (.aload_n 0, 1) := by decide +kernel
theorem dX12_lies_3 : decode cX12_lies 3 = .ok (.getfield 419, 3) := by decide +kernel
theorem dX12_lies_6 : decode cX12_lies 6 = .ok (.iconst 1, 1) := by decide +kernel
theorem dX12_lies_7 : decode cX12_lies 7 = .ok (.isub, 1) := by decide +kernel
theorem dX12_lies_8 : decode cX12_lies 8 = .ok (.invokestatic 422, 3) := by decide +kernel
theorem dX12_lies_11 : decode cX12_lies 11 = .ok (.ifCond .eq 12, 3) := by decide +kernel
theorem dX12_lies_14 : decode cX12_lies 14 = .ok (.aload_n 0, 1) := by decide +kernel
theorem dX12_lies_15 : decode cX12_lies 15 = .ok (.getfield 88, 3) := by decide +kernel
theorem dX12_lies_18 : decode cX12_lies 18 = .ok (.iload_n 1, 1) := by decide +kernel
theorem dX12_lies_19 : decode cX12_lies 19 = .ok (.iaload, 1) := by decide +kernel
theorem dX12_lies_20 : decode cX12_lies 20 = .ok (.goto 5, 3) := by decide +kernel
theorem dX12_lies_23 : decode cX12_lies 23 = .ok (.bipush (-2), 2) := by decide +kernel
theorem dX12_lies_25 : decode cX12_lies 25 = .ok (.ireturn, 1) := by decide +kernel
theorem dX12_firstBills_0 : decode cX12_firstBills 0 = .ok (.aload_n 0, 1) := by decide +kernel
theorem dX12_firstBills_1 : decode cX12_firstBills 1 = .ok (.getfield 76, 3) := by decide +kernel
theorem dX12_firstBills_4 : decode cX12_firstBills 4 = .ok (.bipush 96, 2) := by decide +kernel
theorem dX12_firstBills_6 : decode cX12_firstBills 6 = .ok (.iaload, 1) := by decide +kernel
theorem dX12_firstBills_7 : decode cX12_firstBills 7 = .ok (.iconst 5, 1) := by decide +kernel
theorem dX12_firstBills_8 : decode cX12_firstBills 8 = .ok (.if_icmp .ge 13, 3) := by decide +kernel
theorem dX12_firstBills_11 : decode cX12_firstBills 11 = .ok (.aload_n 0, 1) := by decide +kernel
theorem dX12_firstBills_12 : decode cX12_firstBills 12 = .ok (.getfield 76, 3) := by decide +kernel
theorem dX12_firstBills_15 : decode cX12_firstBills 15 = .ok (.bipush 96, 2) := by decide +kernel
theorem dX12_firstBills_17 : decode cX12_firstBills 17 = .ok (.iaload, 1) := by decide +kernel
theorem dX12_firstBills_18 : decode cX12_firstBills 18 = .ok (.goto 4, 3) := by decide +kernel
theorem dX12_firstBills_21 : decode cX12_firstBills 21 = .ok (.iconst 5, 1) := by decide +kernel
theorem dX12_firstBills_22 : decode cX12_firstBills 22 = .ok (.ireturn, 1) := by decide +kernel
theorem dX12_isFirst_0 : decode cX12_isFirst 0 = .ok (.iload_n 1, 1) := by decide +kernel
theorem dX12_isFirst_1 : decode cX12_isFirst 1 = .ok (.iconst 0, 1) := by decide +kernel
theorem dX12_isFirst_2 : decode cX12_isFirst 2 = .ok (.aload_n 0, 1) := by decide +kernel
theorem dX12_isFirst_3 : decode cX12_isFirst 3 = .ok (.invokevirtual 567, 3) := by decide +kernel
theorem dX12_isFirst_6 : decode cX12_isFirst 6 = .ok (.iconst 1, 1) := by decide +kernel
theorem dX12_isFirst_7 : decode cX12_isFirst 7 = .ok (.isub, 1) := by decide +kernel
theorem dX12_isFirst_8 : decode cX12_isFirst 8 = .ok (.invokestatic 422, 3) := by decide +kernel
theorem dX12_isFirst_11 : decode cX12_isFirst 11 = .ok (.ireturn, 1) := by decide +kernel
theorem dX12_ring_0 : decode cX12_ring 0 = .ok (.aload_n 0, 1) := by decide +kernel
theorem dX12_ring_1 : decode cX12_ring 1 = .ok (.iload_n 1, 1) := by decide +kernel
theorem dX12_ring_2 : decode cX12_ring 2 = .ok (.invokevirtual 570, 3) := by decide +kernel
theorem dX12_ring_5 : decode cX12_ring 5 = .ok (.ifCond .eq 25, 3) := by decide +kernel
theorem dX12_ring_8 : decode cX12_ring 8 = .ok (.aload_n 0, 1) := by decide +kernel
theorem dX12_ring_9 : decode cX12_ring 9 = .ok (.iload_n 2, 1) := by decide +kernel
theorem dX12_ring_10 : decode cX12_ring 10 = .ok (.invokevirtual 570, 3) := by decide +kernel
theorem dX12_ring_13 : decode cX12_ring 13 = .ok (.ifCond .eq 17, 3) := by decide +kernel
theorem dX12_ring_16 : decode cX12_ring 16 = .ok (.iload_n 1, 1) := by decide +kernel
theorem dX12_ring_17 : decode cX12_ring 17 = .ok (.iload_n 2, 1) := by decide +kernel
theorem dX12_ring_18 : decode cX12_ring 18 = .ok (.if_icmp .eq 12, 3) := by decide +kernel
theorem dX12_ring_21 : decode cX12_ring 21 = .ok (.aload_n 0, 1) := by decide +kernel
theorem dX12_ring_22 : decode cX12_ring 22 = .ok (.getfield 416, 3) := by decide +kernel
theorem dX12_ring_25 : decode cX12_ring 25 = .ok (.bipush 30, 2) := by decide +kernel
theorem dX12_ring_27 : decode cX12_ring 27 = .ok (.if_icmp .ne 5, 3) := by decide +kernel
theorem dX12_ring_30 : decode cX12_ring 30 = .ok (.iconst (-1), 1) := by decide +kernel
theorem dX12_ring_31 : decode cX12_ring 31 = .ok (.ireturn, 1) := by decide +kernel
theorem dX12_ring_32 : decode cX12_ring 32 = .ok (.aload_n 0, 1) := by decide +kernel
theorem dX12_ring_33 : decode cX12_ring 33 = .ok (.getfield 103, 3) := by decide +kernel
theorem dX12_ring_36 : decode cX12_ring 36 = .ok (.aload_n 0, 1) := by decide +kernel
theorem dX12_ring_37 : decode cX12_ring 37 = .ok (.getfield 416, 3) := by decide +kernel
theorem dX12_ring_40 : decode cX12_ring 40 = .ok (.iload_n 1, 1) := by decide +kernel
theorem dX12_ring_41 : decode cX12_ring 41 = .ok (.iastore, 1) := by decide +kernel
theorem dX12_ring_42 : decode cX12_ring 42 = .ok (.aload_n 0, 1) := by decide +kernel
theorem dX12_ring_43 : decode cX12_ring 43 = .ok (.getfield 106, 3) := by decide +kernel
theorem dX12_ring_46 : decode cX12_ring 46 = .ok (.aload_n 0, 1) := by decide +kernel
theorem dX12_ring_47 : decode cX12_ring 47 = .ok (.getfield 416, 3) := by decide +kernel
theorem dX12_ring_50 : decode cX12_ring 50 = .ok (.iload_n 2, 1) := by decide +kernel
theorem dX12_ring_51 : decode cX12_ring 51 = .ok (.iastore, 1) := by decide +kernel
theorem dX12_ring_52 : decode cX12_ring 52 = .ok (.aload_n 0, 1) := by decide +kernel
theorem dX12_ring_53 : decode cX12_ring 53 = .ok (.getfield 115, 3) := by decide +kernel
theorem dX12_ring_56 : decode cX12_ring 56 = .ok (.aload_n 0, 1) := by decide +kernel
theorem dX12_ring_57 : decode cX12_ring 57 = .ok (.getfield 416, 3) := by decide +kernel
theorem dX12_ring_60 : decode cX12_ring 60 = .ok (.iload_n 3, 1) := by decide +kernel
theorem dX12_ring_61 : decode cX12_ring 61 = .ok (.bastore, 1) := by decide +kernel
theorem dX12_ring_62 : decode cX12_ring 62 = .ok (.aload_n 0, 1) := by decide +kernel
theorem dX12_ring_63 : decode cX12_ring 63 = .ok (.getfield 109, 3) := by decide +kernel
theorem dX12_ring_66 : decode cX12_ring 66 = .ok (.aload_n 0, 1) := by decide +kernel
theorem dX12_ring_67 : decode cX12_ring 67 = .ok (.getfield 416, 3) := by decide +kernel
theorem dX12_ring_70 : decode cX12_ring 70 = .ok (.aload_n 0, 1) := by decide +kernel
theorem dX12_ring_71 : decode cX12_ring 71 = .ok (.getfield 573, 3) := by decide +kernel
theorem dX12_ring_74 : decode cX12_ring 74 = .ok (.iastore, 1) := by decide +kernel
theorem dX12_ring_75 : decode cX12_ring 75 = .ok (.aload_n 0, 1) := by decide +kernel
theorem dX12_ring_76 : decode cX12_ring 76 = .ok (.getfield 112, 3) := by decide +kernel
theorem dX12_ring_79 : decode cX12_ring 79 = .ok (.aload_n 0, 1) := by decide +kernel
theorem dX12_ring_80 : decode cX12_ring 80 = .ok (.getfield 416, 3) := by decide +kernel
theorem dX12_ring_83 : decode cX12_ring 83 = .ok (.iconst (-1), 1) := by decide +kernel
theorem dX12_ring_84 : decode cX12_ring 84 = .ok (.iastore, 1) := by decide +kernel
theorem dX12_ring_85 : decode cX12_ring 85 = .ok (.aload_n 0, 1) := by decide +kernel
theorem dX12_ring_86 : decode cX12_ring 86 = .ok (.dup, 1) := by decide +kernel
theorem dX12_ring_87 : decode cX12_ring 87 = .ok (.getfield 416, 3) := by decide +kernel
theorem dX12_ring_90 : decode cX12_ring 90 = .ok (.iconst 1, 1) := by decide +kernel
theorem dX12_ring_91 : decode cX12_ring 91 = .ok (.iadd, 1) := by decide +kernel
theorem dX12_ring_92 : decode cX12_ring 92 = .ok (.putfield 416, 3) := by decide +kernel
theorem dX12_ring_95 : decode cX12_ring 95 = .ok (.aload_n 0, 1) := by decide +kernel
theorem dX12_ring_96 : decode cX12_ring 96 = .ok (.getfield 416, 3) := by decide +kernel
theorem dX12_ring_99 : decode cX12_ring 99 = .ok (.iconst 1, 1) := by decide +kernel
theorem dX12_ring_100 : decode cX12_ring 100 = .ok (.isub, 1) := by decide +kernel
theorem dX12_ring_101 : decode cX12_ring 101 = .ok (.ireturn, 1) := by decide +kernel
theorem dX12_untell_0 : decode cX12_untell 0 = .ok (.iload_n 1, 1) := by decide +kernel
theorem dX12_untell_1 : decode cX12_untell 1 = .ok (.iconst 0, 1) := by decide +kernel
theorem dX12_untell_2 : decode cX12_untell 2 = .ok (.aload_n 0, 1) := by decide +kernel
theorem dX12_untell_3 : decode cX12_untell 3 = .ok (.getfield 416, 3) := by decide +kernel
theorem dX12_untell_6 : decode cX12_untell 6 = .ok (.iconst 1, 1) := by decide +kernel
theorem dX12_untell_7 : decode cX12_untell 7 = .ok (.isub, 1) := by decide +kernel
theorem dX12_untell_8 : decode cX12_untell 8 = .ok (.invokestatic 422, 3) := by decide +kernel
theorem dX12_untell_11 : decode cX12_untell 11 = .ok (.ifCond .eq 12, 3) := by decide +kernel
theorem dX12_untell_14 : decode cX12_untell 14 = .ok (.aload_n 0, 1) := by decide +kernel
theorem dX12_untell_15 : decode cX12_untell 15 = .ok (.getfield 112, 3) := by decide +kernel
theorem dX12_untell_18 : decode cX12_untell 18 = .ok (.iload_n 1, 1) := by decide +kernel
theorem dX12_untell_19 : decode cX12_untell 19 = .ok (.iaload, 1) := by decide +kernel
theorem dX12_untell_20 : decode cX12_untell 20 = .ok (.ifCond .lt 5, 3) := by decide +kernel
theorem dX12_untell_23 : decode cX12_untell 23 = .ok (.iconst 0, 1) := by decide +kernel
theorem dX12_untell_24 : decode cX12_untell 24 = .ok (.ireturn, 1) := by decide +kernel
theorem dX12_untell_25 : decode cX12_untell 25 = .ok (.aload_n 0, 1) := by decide +kernel
theorem dX12_untell_26 : decode cX12_untell 26 = .ok (.getfield 112, 3) := by decide +kernel
theorem dX12_untell_29 : decode cX12_untell 29 = .ok (.iload_n 1, 1) := by decide +kernel
theorem dX12_untell_30 : decode cX12_untell 30 = .ok (.aload_n 0, 1) := by decide +kernel
theorem dX12_untell_31 : decode cX12_untell 31 = .ok (.getfield 573, 3) := by decide +kernel
theorem dX12_untell_34 : decode cX12_untell 34 = .ok (.iastore, 1) := by decide +kernel
theorem dX12_untell_35 : decode cX12_untell 35 = .ok (.iconst 1, 1) := by decide +kernel
theorem dX12_untell_36 : decode cX12_untell 36 = .ok (.ireturn, 1) := by decide +kernel
theorem dX12_later_0 : decode cX12_later 0 = .ok (.iload_n 1, 1) := by decide +kernel
theorem dX12_later_1 : decode cX12_later 1 = .ok (.ifCond .lt 22, 3) := by decide +kernel
theorem dX12_later_4 : decode cX12_later 4 = .ok (.iload_n 1, 1) := by decide +kernel
theorem dX12_later_5 : decode cX12_later 5 = .ok (.sipush 1000, 3) := by decide +kernel
theorem dX12_later_8 : decode cX12_later 8 = .ok (.if_icmp .gt 15, 3) := by decide +kernel
theorem dX12_later_11 : decode cX12_later 11 = .ok (.aload_n 0, 1) := by decide +kernel
theorem dX12_later_12 : decode cX12_later 12 = .ok (.getfield 573, 3) := by decide +kernel
theorem dX12_later_15 : decode cX12_later 15 = .ok (.iload_n 1, 1) := by decide +kernel
theorem dX12_later_16 : decode cX12_later 16 = .ok (.iadd, 1) := by decide +kernel
theorem dX12_later_17 : decode cX12_later 17 = .ok (.ldc_w 576, 3) := by decide +kernel
theorem dX12_later_20 : decode cX12_later 20 = .ok (.if_icmp .le 5, 3) := by decide +kernel
theorem dX12_later_23 : decode cX12_later 23 = .ok (.iconst (-1), 1) := by decide +kernel
theorem dX12_later_24 : decode cX12_later 24 = .ok (.ireturn, 1) := by decide +kernel
theorem dX12_later_25 : decode cX12_later 25 = .ok (.aload_n 0, 1) := by decide +kernel
theorem dX12_later_26 : decode cX12_later 26 = .ok (.dup, 1) := by decide +kernel
theorem dX12_later_27 : decode cX12_later 27 = .ok (.getfield 573, 3) := by decide +kernel
theorem dX12_later_30 : decode cX12_later 30 = .ok (.iload_n 1, 1) := by decide +kernel
theorem dX12_later_31 : decode cX12_later 31 = .ok (.iadd, 1) := by decide +kernel
theorem dX12_later_32 : decode cX12_later 32 = .ok (.putfield 573, 3) := by decide +kernel
theorem dX12_later_35 : decode cX12_later 35 = .ok (.aload_n 0, 1) := by decide +kernel
theorem dX12_later_36 : decode cX12_later 36 = .ok (.getfield 573, 3) := by decide +kernel
theorem dX12_later_39 : decode cX12_later 39 = .ok (.ireturn, 1) := by decide +kernel
theorem dX12_nextOrder_0 : decode cX12_nextOrder 0 = .ok (.iload_n 1, 1) := by decide +kernel
theorem dX12_nextOrder_1 : decode cX12_nextOrder 1 = .ok (.iconst 2, 1) := by decide +kernel
theorem dX12_nextOrder_2 : decode cX12_nextOrder 2 = .ok (.isub, 1) := by decide +kernel
theorem dX12_nextOrder_3 : decode cX12_nextOrder 3 = .ok (.istore_n 2, 1) := by decide +kernel
theorem dX12_nextOrder_4 : decode cX12_nextOrder 4 = .ok (.iload_n 2, 1) := by decide +kernel
theorem dX12_nextOrder_5 : decode cX12_nextOrder 5 = .ok (.ifCond .lt 26, 3) := by decide +kernel
theorem dX12_nextOrder_8 : decode cX12_nextOrder 8 = .ok (.aload_n 0, 1) := by decide +kernel
theorem dX12_nextOrder_9 : decode cX12_nextOrder 9 = .ok (.getfield 118, 3) := by decide +kernel
theorem dX12_nextOrder_12 : decode cX12_nextOrder 12 = .ok (.iload_n 2, 1) := by decide +kernel
theorem dX12_nextOrder_13 : decode cX12_nextOrder 13 = .ok (.iaload, 1) := by decide +kernel
theorem dX12_nextOrder_14 : decode cX12_nextOrder 14 = .ok (.aload_n 0, 1) := by decide +kernel
theorem dX12_nextOrder_15 : decode cX12_nextOrder 15 = .ok (.getfield 118, 3) := by decide +kernel
theorem dX12_nextOrder_18 : decode cX12_nextOrder 18 = .ok (.iload_n 2, 1) := by decide +kernel
theorem dX12_nextOrder_19 : decode cX12_nextOrder 19 = .ok (.iconst 1, 1) := by decide +kernel
theorem dX12_nextOrder_20 : decode cX12_nextOrder 20 = .ok (.iadd, 1) := by decide +kernel
theorem dX12_nextOrder_21 : decode cX12_nextOrder 21 = .ok (.iaload, 1) := by decide +kernel
theorem dX12_nextOrder_22 : decode cX12_nextOrder 22 = .ok (.if_icmp .le 9, 3) := by decide +kernel
theorem dX12_nextOrder_25 : decode cX12_nextOrder 25 = .ok (.iinc 2 (-1), 3) := by decide +kernel
theorem dX12_nextOrder_28 : decode cX12_nextOrder 28 = .ok (.goto (-24), 3) := by decide +kernel
theorem dX12_nextOrder_31 : decode cX12_nextOrder 31 = .ok (.iload_n 2, 1) := by decide +kernel
theorem dX12_nextOrder_32 : decode cX12_nextOrder 32 = .ok (.ifCond .ge 5, 3) := by decide +kernel
theorem dX12_nextOrder_35 : decode cX12_nextOrder 35 = .ok (.iconst 0, 1) := by decide +kernel
theorem dX12_nextOrder_36 : decode cX12_nextOrder 36 = .ok (.ireturn, 1) := by decide +kernel
theorem dX12_nextOrder_37 : decode cX12_nextOrder 37 = .ok (.iload_n 1, 1) := by decide +kernel
theorem dX12_nextOrder_38 : decode cX12_nextOrder 38 = .ok (.iconst 1, 1) := by decide +kernel
theorem dX12_nextOrder_39 : decode cX12_nextOrder 39 = .ok (.isub, 1) := by decide +kernel
theorem dX12_nextOrder_40 : decode cX12_nextOrder 40 = .ok (.istore_n 3, 1) := by decide +kernel
theorem dX12_nextOrder_41 : decode cX12_nextOrder 41 = .ok (.aload_n 0, 1) := by decide +kernel
theorem dX12_nextOrder_42 : decode cX12_nextOrder 42 = .ok (.getfield 118, 3) := by decide +kernel
theorem dX12_nextOrder_45 : decode cX12_nextOrder 45 = .ok (.iload_n 3, 1) := by decide +kernel
theorem dX12_nextOrder_46 : decode cX12_nextOrder 46 = .ok (.iaload, 1) := by decide +kernel
theorem dX12_nextOrder_47 : decode cX12_nextOrder 47 = .ok (.aload_n 0, 1) := by decide +kernel
theorem dX12_nextOrder_48 : decode cX12_nextOrder 48 = .ok (.getfield 118, 3) := by decide +kernel
theorem dX12_nextOrder_51 : decode cX12_nextOrder 51 = .ok (.iload_n 2, 1) := by decide +kernel
theorem dX12_nextOrder_52 : decode cX12_nextOrder 52 = .ok (.iaload, 1) := by decide +kernel
theorem dX12_nextOrder_53 : decode cX12_nextOrder 53 = .ok (.if_icmp .ge 9, 3) := by decide +kernel
theorem dX12_nextOrder_56 : decode cX12_nextOrder 56 = .ok (.iinc 3 (-1), 3) := by decide +kernel
theorem dX12_nextOrder_59 : decode cX12_nextOrder 59 = .ok (.goto (-18), 3) := by decide +kernel
theorem dX12_nextOrder_62 : decode cX12_nextOrder 62 = .ok (.aload_n 0, 1) := by decide +kernel
theorem dX12_nextOrder_63 : decode cX12_nextOrder 63 = .ok (.iload_n 2, 1) := by decide +kernel
theorem dX12_nextOrder_64 : decode cX12_nextOrder 64 = .ok (.iload_n 3, 1) := by decide +kernel
theorem dX12_nextOrder_65 : decode cX12_nextOrder 65 = .ok (.invokevirtual 577, 3) := by decide +kernel
theorem dX12_nextOrder_68 : decode cX12_nextOrder 68 = .ok (.iload_n 2, 1) := by decide +kernel
theorem dX12_nextOrder_69 : decode cX12_nextOrder 69 = .ok (.iconst 1, 1) := by decide +kernel
theorem dX12_nextOrder_70 : decode cX12_nextOrder 70 = .ok (.iadd, 1) := by decide +kernel
theorem dX12_nextOrder_71 : decode cX12_nextOrder 71 = .ok (.istore 4, 2) := by decide +kernel
theorem dX12_nextOrder_73 : decode cX12_nextOrder 73 = .ok (.iload_n 1, 1) := by decide +kernel
theorem dX12_nextOrder_74 : decode cX12_nextOrder 74 = .ok (.iconst 1, 1) := by decide +kernel
theorem dX12_nextOrder_75 : decode cX12_nextOrder 75 = .ok (.isub, 1) := by decide +kernel
theorem dX12_nextOrder_76 : decode cX12_nextOrder 76 = .ok (.istore 5, 2) := by decide +kernel
theorem dX12_nextOrder_78 : decode cX12_nextOrder 78 = .ok (.iload 4, 2) := by decide +kernel
theorem dX12_nextOrder_80 : decode cX12_nextOrder 80 = .ok (.iload 5, 2) := by decide +kernel
theorem dX12_nextOrder_82 : decode cX12_nextOrder 82 = .ok (.if_icmp .ge 20, 3) := by decide +kernel
theorem dX12_nextOrder_85 : decode cX12_nextOrder 85 = .ok (.aload_n 0, 1) := by decide +kernel
theorem dX12_nextOrder_86 : decode cX12_nextOrder 86 = .ok (.iload 4, 2) := by decide +kernel
theorem dX12_nextOrder_88 : decode cX12_nextOrder 88 = .ok (.iload 5, 2) := by decide +kernel
theorem dX12_nextOrder_90 : decode cX12_nextOrder 90 = .ok (.invokevirtual 577, 3) := by decide +kernel
theorem dX12_nextOrder_93 : decode cX12_nextOrder 93 = .ok (.iinc 4 1, 3) := by decide +kernel
theorem dX12_nextOrder_96 : decode cX12_nextOrder 96 = .ok (.iinc 5 (-1), 3) := by decide +kernel
theorem dX12_nextOrder_99 : decode cX12_nextOrder 99 = .ok (.goto (-21), 3) := by decide +kernel
theorem dX12_nextOrder_102 : decode cX12_nextOrder 102 = .ok (.iconst 1, 1) := by decide +kernel
theorem dX12_nextOrder_103 : decode cX12_nextOrder 103 = .ok (.ireturn, 1) := by decide +kernel
theorem dX12_exchangeOrder_0 : decode cX12_exchangeOrder 0 = .ok (.aload_n 0, 1) := by decide +kernel
theorem dX12_exchangeOrder_1 : decode cX12_exchangeOrder 1 = .ok (.getfield 118, 3) := by decide +kernel
theorem dX12_exchangeOrder_4 : decode cX12_exchangeOrder 4 = .ok (.iload_n 1, 1) := by decide +kernel
theorem dX12_exchangeOrder_5 : decode cX12_exchangeOrder 5 = .ok (.iaload, 1) := by decide +kernel
theorem dX12_exchangeOrder_6 : decode cX12_exchangeOrder 6 = .ok (.istore_n 3, 1) := by decide +kernel
theorem dX12_exchangeOrder_7 : decode cX12_exchangeOrder 7 = .ok (.aload_n 0, 1) := by decide +kernel
theorem dX12_exchangeOrder_8 : decode cX12_exchangeOrder 8 = .ok (.getfield 118, 3) := by decide +kernel
theorem dX12_exchangeOrder_11 : decode cX12_exchangeOrder 11 = .ok (.iload_n 1, 1) := by decide +kernel
theorem dX12_exchangeOrder_12 : decode cX12_exchangeOrder 12 = .ok (.aload_n 0, 1) := by decide +kernel
theorem dX12_exchangeOrder_13 : decode cX12_exchangeOrder 13 = .ok (.getfield 118, 3) := by decide +kernel
theorem dX12_exchangeOrder_16 : decode cX12_exchangeOrder 16 = .ok (.iload_n 2, 1) := by decide +kernel
theorem dX12_exchangeOrder_17 : decode cX12_exchangeOrder 17 = .ok (.iaload, 1) := by decide +kernel
theorem dX12_exchangeOrder_18 : decode cX12_exchangeOrder 18 = .ok (.iastore, 1) := by decide +kernel
theorem dX12_exchangeOrder_19 : decode cX12_exchangeOrder 19 = .ok (.aload_n 0, 1) := by decide +kernel
theorem dX12_exchangeOrder_20 : decode cX12_exchangeOrder 20 = .ok (.getfield 118, 3) := by decide +kernel
theorem dX12_exchangeOrder_23 : decode cX12_exchangeOrder 23 = .ok (.iload_n 2, 1) := by decide +kernel
theorem dX12_exchangeOrder_24 : decode cX12_exchangeOrder 24 = .ok (.iload_n 3, 1) := by decide +kernel
theorem dX12_exchangeOrder_25 : decode cX12_exchangeOrder 25 = .ok (.iastore, 1) := by decide +kernel
theorem dX12_exchangeOrder_26 : decode cX12_exchangeOrder 26 = .ok (.return_, 1) := by decide +kernel
theorem dX12_isBehind_0 : decode cX12_isBehind 0 = .ok (.aload_n 0, 1) := by decide +kernel
theorem dX12_isBehind_1 : decode cX12_isBehind 1 = .ok (.getfield 76, 3) := by decide +kernel
theorem dX12_isBehind_4 : decode cX12_isBehind 4 = .ok (.bipush 8, 2) := by decide +kernel
theorem dX12_isBehind_6 : decode cX12_isBehind 6 = .ok (.iload_n 1, 1) := by decide +kernel
theorem dX12_isBehind_7 : decode cX12_isBehind 7 = .ok (.imul, 1) := by decide +kernel
theorem dX12_isBehind_8 : decode cX12_isBehind 8 = .ok (.iload_n 2, 1) := by decide +kernel
theorem dX12_isBehind_9 : decode cX12_isBehind 9 = .ok (.iadd, 1) := by decide +kernel
theorem dX12_isBehind_10 : decode cX12_isBehind 10 = .ok (.iaload, 1) := by decide +kernel
theorem dX12_isBehind_11 : decode cX12_isBehind 11 = .ok (.istore_n 3, 1) := by decide +kernel
theorem dX12_isBehind_12 : decode cX12_isBehind 12 = .ok (.iload_n 3, 1) := by decide +kernel
theorem dX12_isBehind_13 : decode cX12_isBehind 13 = .ok (.ifCond .lt 18, 3) := by decide +kernel
theorem dX12_isBehind_16 : decode cX12_isBehind 16 = .ok (.aload_n 0, 1) := by decide +kernel
theorem dX12_isBehind_17 : decode cX12_isBehind 17 = .ok (.getfield 121, 3) := by decide +kernel
theorem dX12_isBehind_20 : decode cX12_isBehind 20 = .ok (.iload_n 1, 1) := by decide +kernel
theorem dX12_isBehind_21 : decode cX12_isBehind 21 = .ok (.iaload, 1) := by decide +kernel
theorem dX12_isBehind_22 : decode cX12_isBehind 22 = .ok (.aload_n 0, 1) := by decide +kernel
theorem dX12_isBehind_23 : decode cX12_isBehind 23 = .ok (.getfield 121, 3) := by decide +kernel
theorem dX12_isBehind_26 : decode cX12_isBehind 26 = .ok (.iload_n 3, 1) := by decide +kernel
theorem dX12_isBehind_27 : decode cX12_isBehind 27 = .ok (.iaload, 1) := by decide +kernel
theorem dX12_isBehind_28 : decode cX12_isBehind 28 = .ok (.if_icmp .le 7, 3) := by decide +kernel
theorem dX12_isBehind_31 : decode cX12_isBehind 31 = .ok (.iconst 1, 1) := by decide +kernel
theorem dX12_isBehind_32 : decode cX12_isBehind 32 = .ok (.goto 4, 3) := by decide +kernel
theorem dX12_isBehind_35 : decode cX12_isBehind 35 = .ok (.iconst 0, 1) := by decide +kernel
theorem dX12_isBehind_36 : decode cX12_isBehind 36 = .ok (.ireturn, 1) := by decide +kernel
theorem dX12_isOrder_0 : decode cX12_isOrder 0 = .ok (.iconst 0, 1) := by decide +kernel
theorem dX12_isOrder_1 : decode cX12_isOrder 1 = .ok (.istore_n 3, 1) := by decide +kernel
theorem dX12_isOrder_2 : decode cX12_isOrder 2 = .ok (.iload_n 3, 1) := by decide +kernel
theorem dX12_isOrder_3 : decode cX12_isOrder 3 = .ok (.iload_n 1, 1) := by decide +kernel
theorem dX12_isOrder_4 : decode cX12_isOrder 4 = .ok (.if_icmp .ge 21, 3) := by decide +kernel
theorem dX12_isOrder_7 : decode cX12_isOrder 7 = .ok (.aload_n 0, 1) := by decide +kernel
theorem dX12_isOrder_8 : decode cX12_isOrder 8 = .ok (.getfield 121, 3) := by decide +kernel
theorem dX12_isOrder_11 : decode cX12_isOrder 11 = .ok (.aload_n 0, 1) := by decide +kernel
theorem dX12_isOrder_12 : decode cX12_isOrder 12 = .ok (.getfield 118, 3) := by decide +kernel
theorem dX12_isOrder_15 : decode cX12_isOrder 15 = .ok (.iload_n 3, 1) := by decide +kernel
theorem dX12_isOrder_16 : decode cX12_isOrder 16 = .ok (.iaload, 1) := by decide +kernel
theorem dX12_isOrder_17 : decode cX12_isOrder 17 = .ok (.iload_n 3, 1) := by decide +kernel
theorem dX12_isOrder_18 : decode cX12_isOrder 18 = .ok (.iastore, 1) := by decide +kernel
theorem dX12_isOrder_19 : decode cX12_isOrder 19 = .ok (.iinc 3 1, 3) := by decide +kernel
theorem dX12_isOrder_22 : decode cX12_isOrder 22 = .ok (.goto (-20), 3) := by decide +kernel
theorem dX12_isOrder_25 : decode cX12_isOrder 25 = .ok (.iconst 1, 1) := by decide +kernel
theorem dX12_isOrder_26 : decode cX12_isOrder 26 = .ok (.istore_n 3, 1) := by decide +kernel
theorem dX12_isOrder_27 : decode cX12_isOrder 27 = .ok (.iconst 0, 1) := by decide +kernel
theorem dX12_isOrder_28 : decode cX12_isOrder 28 = .ok (.istore 4, 2) := by decide +kernel
theorem dX12_isOrder_30 : decode cX12_isOrder 30 = .ok (.iload 4, 2) := by decide +kernel
theorem dX12_isOrder_32 : decode cX12_isOrder 32 = .ok (.iload_n 1, 1) := by decide +kernel
theorem dX12_isOrder_33 : decode cX12_isOrder 33 = .ok (.if_icmp .ge 41, 3) := by decide +kernel
theorem dX12_isOrder_36 : decode cX12_isOrder 36 = .ok (.iload_n 3, 1) := by decide +kernel
theorem dX12_isOrder_37 : decode cX12_isOrder 37 = .ok (.ifCond .eq 29, 3) := by decide +kernel
theorem dX12_isOrder_40 : decode cX12_isOrder 40 = .ok (.aload_n 0, 1) := by decide +kernel
theorem dX12_isOrder_41 : decode cX12_isOrder 41 = .ok (.iload 4, 2) := by decide +kernel
theorem dX12_isOrder_43 : decode cX12_isOrder 43 = .ok (.bipush 6, 2) := by decide +kernel
theorem dX12_isOrder_45 : decode cX12_isOrder 45 = .ok (.invokevirtual 580, 3) := by decide +kernel
theorem dX12_isOrder_48 : decode cX12_isOrder 48 = .ok (.ifCond .eq 18, 3) := by decide +kernel
theorem dX12_isOrder_51 : decode cX12_isOrder 51 = .ok (.aload_n 0, 1) := by decide +kernel
theorem dX12_isOrder_52 : decode cX12_isOrder 52 = .ok (.iload 4, 2) := by decide +kernel
theorem dX12_isOrder_54 : decode cX12_isOrder 54 = .ok (.bipush 7, 2) := by decide +kernel
theorem dX12_isOrder_56 : decode cX12_isOrder 56 = .ok (.invokevirtual 580, 3) := by decide +kernel
theorem dX12_isOrder_59 : decode cX12_isOrder 59 = .ok (.ifCond .eq 7, 3) := by decide +kernel
theorem dX12_isOrder_62 : decode cX12_isOrder 62 = .ok (.iconst 1, 1) := by decide +kernel
theorem dX12_isOrder_63 : decode cX12_isOrder 63 = .ok (.goto 4, 3) := by decide +kernel
theorem dX12_isOrder_66 : decode cX12_isOrder 66 = .ok (.iconst 0, 1) := by decide +kernel
theorem dX12_isOrder_67 : decode cX12_isOrder 67 = .ok (.istore_n 3, 1) := by decide +kernel
theorem dX12_isOrder_68 : decode cX12_isOrder 68 = .ok (.iinc 4 1, 3) := by decide +kernel
theorem dX12_isOrder_71 : decode cX12_isOrder 71 = .ok (.goto (-41), 3) := by decide +kernel
theorem dX12_isOrder_74 : decode cX12_isOrder 74 = .ok (.iconst 0, 1) := by decide +kernel
theorem dX12_isOrder_75 : decode cX12_isOrder 75 = .ok (.istore 4, 2) := by decide +kernel
theorem dX12_isOrder_77 : decode cX12_isOrder 77 = .ok (.iload 4, 2) := by decide +kernel
theorem dX12_isOrder_79 : decode cX12_isOrder 79 = .ok (.aload_n 0, 1) := by decide +kernel
theorem dX12_isOrder_80 : decode cX12_isOrder 80 = .ok (.getfield 416, 3) := by decide +kernel
theorem dX12_isOrder_83 : decode cX12_isOrder 83 = .ok (.if_icmp .ge 118, 3) := by decide +kernel
theorem dX12_isOrder_86 : decode cX12_isOrder 86 = .ok (.iload_n 3, 1) := by decide +kernel
theorem dX12_isOrder_87 : decode cX12_isOrder 87 = .ok (.ifCond .eq 114, 3) := by decide +kernel
theorem dX12_isOrder_90 : decode cX12_isOrder 90 = .ok (.aload_n 0, 1) := by decide +kernel
theorem dX12_isOrder_91 : decode cX12_isOrder 91 = .ok (.getfield 109, 3) := by decide +kernel
theorem dX12_isOrder_94 : decode cX12_isOrder 94 = .ok (.iload 4, 2) := by decide +kernel
theorem dX12_isOrder_96 : decode cX12_isOrder 96 = .ok (.iaload, 1) := by decide +kernel
theorem dX12_isOrder_97 : decode cX12_isOrder 97 = .ok (.iload_n 2, 1) := by decide +kernel
theorem dX12_isOrder_98 : decode cX12_isOrder 98 = .ok (.if_icmp .gt 97, 3) := by decide +kernel
theorem dX12_isOrder_101 : decode cX12_isOrder 101 = .ok (.aload_n 0, 1) := by decide +kernel
theorem dX12_isOrder_102 : decode cX12_isOrder 102 = .ok (.getfield 112, 3) := by decide +kernel
theorem dX12_isOrder_105 : decode cX12_isOrder 105 = .ok (.iload 4, 2) := by decide +kernel
theorem dX12_isOrder_107 : decode cX12_isOrder 107 = .ok (.iaload, 1) := by decide +kernel
theorem dX12_isOrder_108 : decode cX12_isOrder 108 = .ok (.ifCond .lt 14, 3) := by decide +kernel
theorem dX12_isOrder_111 : decode cX12_isOrder 111 = .ok (.aload_n 0, 1) := by decide +kernel
theorem dX12_isOrder_112 : decode cX12_isOrder 112 = .ok (.getfield 112, 3) := by decide +kernel
theorem dX12_isOrder_115 : decode cX12_isOrder 115 = .ok (.iload 4, 2) := by decide +kernel
theorem dX12_isOrder_117 : decode cX12_isOrder 117 = .ok (.iaload, 1) := by decide +kernel
theorem dX12_isOrder_118 : decode cX12_isOrder 118 = .ok (.iload_n 2, 1) := by decide +kernel
theorem dX12_isOrder_119 : decode cX12_isOrder 119 = .ok (.if_icmp .le 76, 3) := by decide +kernel
theorem dX12_isOrder_122 : decode cX12_isOrder 122 = .ok (.aload_n 0, 1) := by decide +kernel
theorem dX12_isOrder_123 : decode cX12_isOrder 123 = .ok (.getfield 103, 3) := by decide +kernel
theorem dX12_isOrder_126 : decode cX12_isOrder 126 = .ok (.iload 4, 2) := by decide +kernel
theorem dX12_isOrder_128 : decode cX12_isOrder 128 = .ok (.iaload, 1) := by decide +kernel
theorem dX12_isOrder_129 : decode cX12_isOrder 129 = .ok (.iload_n 1, 1) := by decide +kernel
theorem dX12_isOrder_130 : decode cX12_isOrder 130 = .ok (.if_icmp .ge 65, 3) := by decide +kernel
theorem dX12_isOrder_133 : decode cX12_isOrder 133 = .ok (.aload_n 0, 1) := by decide +kernel
theorem dX12_isOrder_134 : decode cX12_isOrder 134 = .ok (.getfield 106, 3) := by decide +kernel
theorem dX12_isOrder_137 : decode cX12_isOrder 137 = .ok (.iload 4, 2) := by decide +kernel
theorem dX12_isOrder_139 : decode cX12_isOrder 139 = .ok (.iaload, 1) := by decide +kernel
theorem dX12_isOrder_140 : decode cX12_isOrder 140 = .ok (.iload_n 1, 1) := by decide +kernel
theorem dX12_isOrder_141 : decode cX12_isOrder 141 = .ok (.if_icmp .lt 6, 3) := by decide +kernel
theorem dX12_isOrder_144 : decode cX12_isOrder 144 = .ok (.goto 51, 3) := by decide +kernel
theorem dX12_isOrder_147 : decode cX12_isOrder 147 = .ok (.aload_n 0, 1) := by decide +kernel
theorem dX12_isOrder_148 : decode cX12_isOrder 148 = .ok (.getfield 121, 3) := by decide +kernel
theorem dX12_isOrder_151 : decode cX12_isOrder 151 = .ok (.aload_n 0, 1) := by decide +kernel
theorem dX12_isOrder_152 : decode cX12_isOrder 152 = .ok (.getfield 103, 3) := by decide +kernel
theorem dX12_isOrder_155 : decode cX12_isOrder 155 = .ok (.iload 4, 2) := by decide +kernel
theorem dX12_isOrder_157 : decode cX12_isOrder 157 = .ok (.iaload, 1) := by decide +kernel
theorem dX12_isOrder_158 : decode cX12_isOrder 158 = .ok (.iaload, 1) := by decide +kernel
theorem dX12_isOrder_159 : decode cX12_isOrder 159 = .ok (.aload_n 0, 1) := by decide +kernel
theorem dX12_isOrder_160 : decode cX12_isOrder 160 = .ok (.getfield 121, 3) := by decide +kernel
theorem dX12_isOrder_163 : decode cX12_isOrder 163 = .ok (.aload_n 0, 1) := by decide +kernel
theorem dX12_isOrder_164 : decode cX12_isOrder 164 = .ok (.getfield 106, 3) := by decide +kernel
theorem dX12_isOrder_167 : decode cX12_isOrder 167 = .ok (.iload 4, 2) := by decide +kernel
theorem dX12_isOrder_169 : decode cX12_isOrder 169 = .ok (.iaload, 1) := by decide +kernel
theorem dX12_isOrder_170 : decode cX12_isOrder 170 = .ok (.iaload, 1) := by decide +kernel
theorem dX12_isOrder_171 : decode cX12_isOrder 171 = .ok (.if_icmp .ge 7, 3) := by decide +kernel
theorem dX12_isOrder_174 : decode cX12_isOrder 174 = .ok (.iconst 1, 1) := by decide +kernel
theorem dX12_isOrder_175 : decode cX12_isOrder 175 = .ok (.goto 4, 3) := by decide +kernel
theorem dX12_isOrder_178 : decode cX12_isOrder 178 = .ok (.iconst 0, 1) := by decide +kernel
theorem dX12_isOrder_179 : decode cX12_isOrder 179 = .ok (.aload_n 0, 1) := by decide +kernel
theorem dX12_isOrder_180 : decode cX12_isOrder 180 = .ok (.getfield 115, 3) := by decide +kernel
theorem dX12_isOrder_183 : decode cX12_isOrder 183 = .ok (.iload 4, 2) := by decide +kernel
theorem dX12_isOrder_185 : decode cX12_isOrder 185 = .ok (.baload, 1) := by decide +kernel
theorem dX12_isOrder_186 : decode cX12_isOrder 186 = .ok (.if_icmp .ne 7, 3) := by decide +kernel
theorem dX12_isOrder_189 : decode cX12_isOrder 189 = .ok (.iconst 1, 1) := by decide +kernel
theorem dX12_isOrder_190 : decode cX12_isOrder 190 = .ok (.goto 4, 3) := by decide +kernel
theorem dX12_isOrder_193 : decode cX12_isOrder 193 = .ok (.iconst 0, 1) := by decide +kernel
theorem dX12_isOrder_194 : decode cX12_isOrder 194 = .ok (.istore_n 3, 1) := by decide +kernel
theorem dX12_isOrder_195 : decode cX12_isOrder 195 = .ok (.iinc 4 1, 3) := by decide +kernel
theorem dX12_isOrder_198 : decode cX12_isOrder 198 = .ok (.goto (-121), 3) := by decide +kernel
theorem dX12_isOrder_201 : decode cX12_isOrder 201 = .ok (.iload_n 3, 1) := by decide +kernel
theorem dX12_isOrder_202 : decode cX12_isOrder 202 = .ok (.ireturn, 1) := by decide +kernel
theorem dX12_layOrders_0 : decode cX12_layOrders 0 = .ok (.aload_n 0, 1) := by decide +kernel
theorem dX12_layOrders_1 : decode cX12_layOrders 1 = .ok (.invokevirtual 567, 3) := by decide +kernel
theorem dX12_layOrders_4 : decode cX12_layOrders 4 = .ok (.istore_n 2, 1) := by decide +kernel
theorem dX12_layOrders_5 : decode cX12_layOrders 5 = .ok (.iconst 0, 1) := by decide +kernel
theorem dX12_layOrders_6 : decode cX12_layOrders 6 = .ok (.istore_n 3, 1) := by decide +kernel
theorem dX12_layOrders_7 : decode cX12_layOrders 7 = .ok (.iload_n 3, 1) := by decide +kernel
theorem dX12_layOrders_8 : decode cX12_layOrders 8 = .ok (.bipush 25, 2) := by decide +kernel
theorem dX12_layOrders_10 : decode cX12_layOrders 10 = .ok (.if_icmp .ge 16, 3) := by decide +kernel
theorem dX12_layOrders_13 : decode cX12_layOrders 13 = .ok (.aload_n 0, 1) := by decide +kernel
theorem dX12_layOrders_14 : decode cX12_layOrders 14 = .ok (.getfield 124, 3) := by decide +kernel
theorem dX12_layOrders_17 : decode cX12_layOrders 17 = .ok (.iload_n 3, 1) := by decide +kernel
theorem dX12_layOrders_18 : decode cX12_layOrders 18 = .ok (.iconst 0, 1) := by decide +kernel
theorem dX12_layOrders_19 : decode cX12_layOrders 19 = .ok (.iastore, 1) := by decide +kernel
theorem dX12_layOrders_20 : decode cX12_layOrders 20 = .ok (.iinc 3 1, 3) := by decide +kernel
theorem dX12_layOrders_23 : decode cX12_layOrders 23 = .ok (.goto (-16), 3) := by decide +kernel
theorem dX12_layOrders_26 : decode cX12_layOrders 26 = .ok (.iconst 0, 1) := by decide +kernel
theorem dX12_layOrders_27 : decode cX12_layOrders 27 = .ok (.istore_n 3, 1) := by decide +kernel
theorem dX12_layOrders_28 : decode cX12_layOrders 28 = .ok (.iload_n 3, 1) := by decide +kernel
theorem dX12_layOrders_29 : decode cX12_layOrders 29 = .ok (.iload_n 2, 1) := by decide +kernel
theorem dX12_layOrders_30 : decode cX12_layOrders 30 = .ok (.if_icmp .ge 16, 3) := by decide +kernel
theorem dX12_layOrders_33 : decode cX12_layOrders 33 = .ok (.aload_n 0, 1) := by decide +kernel
theorem dX12_layOrders_34 : decode cX12_layOrders 34 = .ok (.getfield 118, 3) := by decide +kernel
theorem dX12_layOrders_37 : decode cX12_layOrders 37 = .ok (.iload_n 3, 1) := by decide +kernel
theorem dX12_layOrders_38 : decode cX12_layOrders 38 = .ok (.iload_n 3, 1) := by decide +kernel
theorem dX12_layOrders_39 : decode cX12_layOrders 39 = .ok (.iastore, 1) := by decide +kernel
theorem dX12_layOrders_40 : decode cX12_layOrders 40 = .ok (.iinc 3 1, 3) := by decide +kernel
theorem dX12_layOrders_43 : decode cX12_layOrders 43 = .ok (.goto (-15), 3) := by decide +kernel
theorem dX12_layOrders_46 : decode cX12_layOrders 46 = .ok (.iconst 0, 1) := by decide +kernel
theorem dX12_layOrders_47 : decode cX12_layOrders 47 = .ok (.istore_n 3, 1) := by decide +kernel
theorem dX12_layOrders_48 : decode cX12_layOrders 48 = .ok (.iconst 1, 1) := by decide +kernel
theorem dX12_layOrders_49 : decode cX12_layOrders 49 = .ok (.istore 4, 2) := by decide +kernel
theorem dX12_layOrders_51 : decode cX12_layOrders 51 = .ok (.iload 4, 2) := by decide +kernel
theorem dX12_layOrders_53 : decode cX12_layOrders 53 = .ok (.ifCond .eq 61, 3) := by decide +kernel
theorem dX12_layOrders_56 : decode cX12_layOrders 56 = .ok (.aload_n 0, 1) := by decide +kernel
theorem dX12_layOrders_57 : decode cX12_layOrders 57 = .ok (.iload_n 2, 1) := by decide +kernel
theorem dX12_layOrders_58 : decode cX12_layOrders 58 = .ok (.iload_n 1, 1) := by decide +kernel
theorem dX12_layOrders_59 : decode cX12_layOrders 59 = .ok (.invokevirtual 583, 3) := by decide +kernel
theorem dX12_layOrders_62 : decode cX12_layOrders 62 = .ok (.ifCond .eq 42, 3) := by decide +kernel
theorem dX12_layOrders_65 : decode cX12_layOrders 65 = .ok (.iinc 3 1, 3) := by decide +kernel
theorem dX12_layOrders_68 : decode cX12_layOrders 68 = .ok (.iconst 0, 1) := by decide +kernel
theorem dX12_layOrders_69 : decode cX12_layOrders 69 = .ok (.istore 5, 2) := by decide +kernel
theorem dX12_layOrders_71 : decode cX12_layOrders 71 = .ok (.iload 5, 2) := by decide +kernel
theorem dX12_layOrders_73 : decode cX12_layOrders 73 = .ok (.iload_n 2, 1) := by decide +kernel
theorem dX12_layOrders_74 : decode cX12_layOrders 74 = .ok (.if_icmp .ge 30, 3) := by decide +kernel
theorem dX12_layOrders_77 : decode cX12_layOrders 77 = .ok (.aload_n 0, 1) := by decide +kernel
theorem dX12_layOrders_78 : decode cX12_layOrders 78 = .ok (.getfield 124, 3) := by decide +kernel
theorem dX12_layOrders_81 : decode cX12_layOrders 81 = .ok (.iconst 5, 1) := by decide +kernel
theorem dX12_layOrders_82 : decode cX12_layOrders 82 = .ok (.aload_n 0, 1) := by decide +kernel
theorem dX12_layOrders_83 : decode cX12_layOrders 83 = .ok (.getfield 118, 3) := by decide +kernel
theorem dX12_layOrders_86 : decode cX12_layOrders 86 = .ok (.iload 5, 2) := by decide +kernel
theorem dX12_layOrders_88 : decode cX12_layOrders 88 = .ok (.iaload, 1) := by decide +kernel
theorem dX12_layOrders_89 : decode cX12_layOrders 89 = .ok (.imul, 1) := by decide +kernel
theorem dX12_layOrders_90 : decode cX12_layOrders 90 = .ok (.iload 5, 2) := by decide +kernel
theorem dX12_layOrders_92 : decode cX12_layOrders 92 = .ok (.iadd, 1) := by decide +kernel
theorem dX12_layOrders_93 : decode cX12_layOrders 93 = .ok (.dup2, 1) := by decide +kernel
theorem dX12_layOrders_94 : decode cX12_layOrders 94 = .ok (.iaload, 1) := by decide +kernel
theorem dX12_layOrders_95 : decode cX12_layOrders 95 = .ok (.iconst 1, 1) := by decide +kernel
theorem dX12_layOrders_96 : decode cX12_layOrders 96 = .ok (.iadd, 1) := by decide +kernel
theorem dX12_layOrders_97 : decode cX12_layOrders 97 = .ok (.iastore, 1) := by decide +kernel
theorem dX12_layOrders_98 : decode cX12_layOrders 98 = .ok (.iinc 5 1, 3) := by decide +kernel
theorem dX12_layOrders_101 : decode cX12_layOrders 101 = .ok (.goto (-30), 3) := by decide +kernel
theorem dX12_layOrders_104 : decode cX12_layOrders 104 = .ok (.aload_n 0, 1) := by decide +kernel
theorem dX12_layOrders_105 : decode cX12_layOrders 105 = .ok (.iload_n 2, 1) := by decide +kernel
theorem dX12_layOrders_106 : decode cX12_layOrders 106 = .ok (.invokevirtual 586, 3) := by decide +kernel
theorem dX12_layOrders_109 : decode cX12_layOrders 109 = .ok (.istore 4, 2) := by decide +kernel
theorem dX12_layOrders_111 : decode cX12_layOrders 111 = .ok (.goto (-60), 3) := by decide +kernel
theorem dX12_layOrders_114 : decode cX12_layOrders 114 = .ok (.iload_n 3, 1) := by decide +kernel
theorem dX12_layOrders_115 : decode cX12_layOrders 115 = .ok (.ireturn, 1) := by decide +kernel
theorem dX12_orders_0 : decode cX12_orders 0 = .ok (.aload_n 0, 1) := by decide +kernel
theorem dX12_orders_1 : decode cX12_orders 1 = .ok (.iload_n 1, 1) := by decide +kernel
theorem dX12_orders_2 : decode cX12_orders 2 = .ok (.invokevirtual 589, 3) := by decide +kernel
theorem dX12_orders_5 : decode cX12_orders 5 = .ok (.ireturn, 1) := by decide +kernel
theorem dX12_mostOf_0 : decode cX12_mostOf 0 = .ok (.iconst 0, 1) := by decide +kernel
theorem dX12_mostOf_1 : decode cX12_mostOf 1 = .ok (.istore_n 2, 1) := by decide +kernel
theorem dX12_mostOf_2 : decode cX12_mostOf 2 = .ok (.iconst 0, 1) := by decide +kernel
theorem dX12_mostOf_3 : decode cX12_mostOf 3 = .ok (.istore_n 3, 1) := by decide +kernel
theorem dX12_mostOf_4 : decode cX12_mostOf 4 = .ok (.iload_n 3, 1) := by decide +kernel
theorem dX12_mostOf_5 : decode cX12_mostOf 5 = .ok (.iconst 5, 1) := by decide +kernel
theorem dX12_mostOf_6 : decode cX12_mostOf 6 = .ok (.if_icmp .ge 38, 3) := by decide +kernel
theorem dX12_mostOf_9 : decode cX12_mostOf 9 = .ok (.aload_n 0, 1) := by decide +kernel
theorem dX12_mostOf_10 : decode cX12_mostOf 10 = .ok (.getfield 124, 3) := by decide +kernel
theorem dX12_mostOf_13 : decode cX12_mostOf 13 = .ok (.iconst 5, 1) := by decide +kernel
theorem dX12_mostOf_14 : decode cX12_mostOf 14 = .ok (.iload_n 1, 1) := by decide +kernel
theorem dX12_mostOf_15 : decode cX12_mostOf 15 = .ok (.imul, 1) := by decide +kernel
theorem dX12_mostOf_16 : decode cX12_mostOf 16 = .ok (.iload_n 3, 1) := by decide +kernel
theorem dX12_mostOf_17 : decode cX12_mostOf 17 = .ok (.iadd, 1) := by decide +kernel
theorem dX12_mostOf_18 : decode cX12_mostOf 18 = .ok (.iaload, 1) := by decide +kernel
theorem dX12_mostOf_19 : decode cX12_mostOf 19 = .ok (.iload_n 2, 1) := by decide +kernel
theorem dX12_mostOf_20 : decode cX12_mostOf 20 = .ok (.if_icmp .le 16, 3) := by decide +kernel
theorem dX12_mostOf_23 : decode cX12_mostOf 23 = .ok (.aload_n 0, 1) := by decide +kernel
theorem dX12_mostOf_24 : decode cX12_mostOf 24 = .ok (.getfield 124, 3) := by decide +kernel
theorem dX12_mostOf_27 : decode cX12_mostOf 27 = .ok (.iconst 5, 1) := by decide +kernel
theorem dX12_mostOf_28 : decode cX12_mostOf 28 = .ok (.iload_n 1, 1) := by decide +kernel
theorem dX12_mostOf_29 : decode cX12_mostOf 29 = .ok (.imul, 1) := by decide +kernel
theorem dX12_mostOf_30 : decode cX12_mostOf 30 = .ok (.iload_n 3, 1) := by decide +kernel
theorem dX12_mostOf_31 : decode cX12_mostOf 31 = .ok (.iadd, 1) := by decide +kernel
theorem dX12_mostOf_32 : decode cX12_mostOf 32 = .ok (.iaload, 1) := by decide +kernel
theorem dX12_mostOf_33 : decode cX12_mostOf 33 = .ok (.goto 4, 3) := by decide +kernel
theorem dX12_mostOf_36 : decode cX12_mostOf 36 = .ok (.iload_n 2, 1) := by decide +kernel
theorem dX12_mostOf_37 : decode cX12_mostOf 37 = .ok (.istore_n 2, 1) := by decide +kernel
theorem dX12_mostOf_38 : decode cX12_mostOf 38 = .ok (.iinc 3 1, 3) := by decide +kernel
theorem dX12_mostOf_41 : decode cX12_mostOf 41 = .ok (.goto (-37), 3) := by decide +kernel
theorem dX12_mostOf_44 : decode cX12_mostOf 44 = .ok (.iload_n 2, 1) := by decide +kernel
theorem dX12_mostOf_45 : decode cX12_mostOf 45 = .ok (.ireturn, 1) := by decide +kernel
theorem dX12_sure_0 : decode cX12_sure 0 = .ok (.aload_n 0, 1) := by decide +kernel
theorem dX12_sure_1 : decode cX12_sure 1 = .ok (.iload_n 1, 1) := by decide +kernel
theorem dX12_sure_2 : decode cX12_sure 2 = .ok (.invokevirtual 570, 3) := by decide +kernel
theorem dX12_sure_5 : decode cX12_sure 5 = .ok (.ifCond .ne 5, 3) := by decide +kernel
theorem dX12_sure_8 : decode cX12_sure 8 = .ok (.iconst (-1), 1) := by decide +kernel
theorem dX12_sure_9 : decode cX12_sure 9 = .ok (.ireturn, 1) := by decide +kernel
theorem dX12_sure_10 : decode cX12_sure 10 = .ok (.aload_n 0, 1) := by decide +kernel
theorem dX12_sure_11 : decode cX12_sure 11 = .ok (.iload_n 2, 1) := by decide +kernel
theorem dX12_sure_12 : decode cX12_sure 12 = .ok (.invokevirtual 589, 3) := by decide +kernel
theorem dX12_sure_15 : decode cX12_sure 15 = .ok (.istore_n 3, 1) := by decide +kernel
theorem dX12_sure_16 : decode cX12_sure 16 = .ok (.iconst 0, 1) := by decide +kernel
theorem dX12_sure_17 : decode cX12_sure 17 = .ok (.istore 4, 2) := by decide +kernel
theorem dX12_sure_19 : decode cX12_sure 19 = .ok (.iload 4, 2) := by decide +kernel
theorem dX12_sure_21 : decode cX12_sure 21 = .ok (.iconst 5, 1) := by decide +kernel
theorem dX12_sure_22 : decode cX12_sure 22 = .ok (.if_icmp .ge 31, 3) := by decide +kernel
theorem dX12_sure_25 : decode cX12_sure 25 = .ok (.iload_n 3, 1) := by decide +kernel
theorem dX12_sure_26 : decode cX12_sure 26 = .ok (.ifCond .le 27, 3) := by decide +kernel
theorem dX12_sure_29 : decode cX12_sure 29 = .ok (.aload_n 0, 1) := by decide +kernel
theorem dX12_sure_30 : decode cX12_sure 30 = .ok (.getfield 124, 3) := by decide +kernel
theorem dX12_sure_33 : decode cX12_sure 33 = .ok (.iconst 5, 1) := by decide +kernel
theorem dX12_sure_34 : decode cX12_sure 34 = .ok (.iload_n 1, 1) := by decide +kernel
theorem dX12_sure_35 : decode cX12_sure 35 = .ok (.imul, 1) := by decide +kernel
theorem dX12_sure_36 : decode cX12_sure 36 = .ok (.iload 4, 2) := by decide +kernel
theorem dX12_sure_38 : decode cX12_sure 38 = .ok (.iadd, 1) := by decide +kernel
theorem dX12_sure_39 : decode cX12_sure 39 = .ok (.iaload, 1) := by decide +kernel
theorem dX12_sure_40 : decode cX12_sure 40 = .ok (.iload_n 3, 1) := by decide +kernel
theorem dX12_sure_41 : decode cX12_sure 41 = .ok (.if_icmp .ne 6, 3) := by decide +kernel
theorem dX12_sure_44 : decode cX12_sure 44 = .ok (.iload 4, 2) := by decide +kernel
theorem dX12_sure_46 : decode cX12_sure 46 = .ok (.ireturn, 1) := by decide +kernel
theorem dX12_sure_47 : decode cX12_sure 47 = .ok (.iinc 4 1, 3) := by decide +kernel
theorem dX12_sure_50 : decode cX12_sure 50 = .ok (.goto (-31), 3) := by decide +kernel
theorem dX12_sure_53 : decode cX12_sure 53 = .ok (.iload_n 3, 1) := by decide +kernel
theorem dX12_sure_54 : decode cX12_sure 54 = .ok (.ifCond .ne 7, 3) := by decide +kernel
theorem dX12_sure_57 : decode cX12_sure 57 = .ok (.iconst (-1), 1) := by decide +kernel
theorem dX12_sure_58 : decode cX12_sure 58 = .ok (.goto 5, 3) := by decide +kernel
theorem dX12_sure_61 : decode cX12_sure 61 = .ok (.bipush (-2), 2) := by decide +kernel
theorem dX12_sure_63 : decode cX12_sure 63 = .ok (.ireturn, 1) := by decide +kernel
theorem dX12_ask_0 : decode cX12_ask 0 = .ok (.aload_n 0, 1) := by decide +kernel
theorem dX12_ask_1 : decode cX12_ask 1 = .ok (.iload_n 2, 1) := by decide +kernel
theorem dX12_ask_2 : decode cX12_ask 2 = .ok (.invokevirtual 589, 3) := by decide +kernel
theorem dX12_ask_5 : decode cX12_ask 5 = .ok (.istore_n 3, 1) := by decide +kernel
theorem dX12_ask_6 : decode cX12_ask 6 = .ok (.iload_n 1, 1) := by decide +kernel
theorem dX12_ask_7 : decode cX12_ask 7 = .ok (.iconst 0, 1) := by decide +kernel
theorem dX12_ask_8 : decode cX12_ask 8 = .ok (.iconst 1, 1) := by decide +kernel
theorem dX12_ask_9 : decode cX12_ask 9 = .ok (.invokestatic 422, 3) := by decide +kernel
theorem dX12_ask_12 : decode cX12_ask 12 = .ok (.ifCond .eq 14, 3) := by decide +kernel
theorem dX12_ask_15 : decode cX12_ask 15 = .ok (.iload_n 3, 1) := by decide +kernel
theorem dX12_ask_16 : decode cX12_ask 16 = .ok (.ifCond .eq 10, 3) := by decide +kernel
theorem dX12_ask_19 : decode cX12_ask 19 = .ok (.aload_n 0, 1) := by decide +kernel
theorem dX12_ask_20 : decode cX12_ask 20 = .ok (.invokevirtual 567, 3) := by decide +kernel
theorem dX12_ask_23 : decode cX12_ask 23 = .ok (.ifCond .ne 5, 3) := by decide +kernel
theorem dX12_ask_26 : decode cX12_ask 26 = .ok (.iconst (-1), 1) := by decide +kernel
theorem dX12_ask_27 : decode cX12_ask 27 = .ok (.ireturn, 1) := by decide +kernel
theorem dX12_ask_28 : decode cX12_ask 28 = .ok (.iconst 0, 1) := by decide +kernel
theorem dX12_ask_29 : decode cX12_ask 29 = .ok (.istore 4, 2) := by decide +kernel
theorem dX12_ask_31 : decode cX12_ask 31 = .ok (.iconst 1, 1) := by decide +kernel
theorem dX12_ask_32 : decode cX12_ask 32 = .ok (.istore 5, 2) := by decide +kernel
theorem dX12_ask_34 : decode cX12_ask 34 = .ok (.iload 5, 2) := by decide +kernel
theorem dX12_ask_36 : decode cX12_ask 36 = .ok (.aload_n 0, 1) := by decide +kernel
theorem dX12_ask_37 : decode cX12_ask 37 = .ok (.invokevirtual 567, 3) := by decide +kernel
theorem dX12_ask_40 : decode cX12_ask 40 = .ok (.if_icmp .ge 33, 3) := by decide +kernel
theorem dX12_ask_43 : decode cX12_ask 43 = .ok (.aload_n 0, 1) := by decide +kernel
theorem dX12_ask_44 : decode cX12_ask 44 = .ok (.iload 5, 2) := by decide +kernel
theorem dX12_ask_46 : decode cX12_ask 46 = .ok (.invokevirtual 592, 3) := by decide +kernel
theorem dX12_ask_49 : decode cX12_ask 49 = .ok (.aload_n 0, 1) := by decide +kernel
theorem dX12_ask_50 : decode cX12_ask 50 = .ok (.iload 4, 2) := by decide +kernel
theorem dX12_ask_52 : decode cX12_ask 52 = .ok (.invokevirtual 592, 3) := by decide +kernel
theorem dX12_ask_55 : decode cX12_ask 55 = .ok (.if_icmp .ge 8, 3) := by decide +kernel
theorem dX12_ask_58 : decode cX12_ask 58 = .ok (.iload 5, 2) := by decide +kernel
theorem dX12_ask_60 : decode cX12_ask 60 = .ok (.goto 5, 3) := by decide +kernel
theorem dX12_ask_63 : decode cX12_ask 63 = .ok (.iload 4, 2) := by decide +kernel
theorem dX12_ask_65 : decode cX12_ask 65 = .ok (.istore 4, 2) := by decide +kernel
theorem dX12_ask_67 : decode cX12_ask 67 = .ok (.iinc 5 1, 3) := by decide +kernel
theorem dX12_ask_70 : decode cX12_ask 70 = .ok (.goto (-36), 3) := by decide +kernel
theorem dX12_ask_73 : decode cX12_ask 73 = .ok (.iload_n 1, 1) := by decide +kernel
theorem dX12_ask_74 : decode cX12_ask 74 = .ok (.ifCond .ne 8, 3) := by decide +kernel
theorem dX12_ask_77 : decode cX12_ask 77 = .ok (.iload 4, 2) := by decide +kernel
theorem dX12_ask_79 : decode cX12_ask 79 = .ok (.goto 9, 3) := by decide +kernel
theorem dX12_ask_82 : decode cX12_ask 82 = .ok (.aload_n 0, 1) := by decide +kernel
theorem dX12_ask_83 : decode cX12_ask 83 = .ok (.iload 4, 2) := by decide +kernel
theorem dX12_ask_85 : decode cX12_ask 85 = .ok (.invokevirtual 592, 3) := by decide +kernel
theorem dX12_ask_88 : decode cX12_ask 88 = .ok (.ireturn, 1) := by decide +kernel
theorem dX12_isBox_0 : decode cX12_isBox 0 = .ok (.iload_n 0, 1) := by decide +kernel
theorem dX12_isBox_1 : decode cX12_isBox 1 = .ok (.ifCond .lt 12, 3) := by decide +kernel
theorem dX12_isBox_4 : decode cX12_isBox 4 = .ok (.iload_n 0, 1) := by decide +kernel
theorem dX12_isBox_5 : decode cX12_isBox 5 = .ok (.iconst 3, 1) := by decide +kernel
theorem dX12_isBox_6 : decode cX12_isBox 6 = .ok (.if_icmp .ge 7, 3) := by decide +kernel
theorem dX12_isBox_9 : decode cX12_isBox 9 = .ok (.iconst 1, 1) := by decide +kernel
theorem dX12_isBox_10 : decode cX12_isBox 10 = .ok (.goto 4, 3) := by decide +kernel
theorem dX12_isBox_13 : decode cX12_isBox 13 = .ok (.iconst 0, 1) := by decide +kernel
theorem dX12_isBox_14 : decode cX12_isBox 14 = .ok (.ireturn, 1) := by decide +kernel
theorem dX12_image_0 : decode cX12_image 0 = .ok (.iload_n 1, 1) := by decide +kernel
theorem dX12_image_1 : decode cX12_image 1 = .ok (.invokestatic 595, 3) := by decide +kernel
theorem dX12_image_4 : decode cX12_image 4 = .ok (.ifCond .ne 5, 3) := by decide +kernel
theorem dX12_image_7 : decode cX12_image 7 = .ok (.iconst (-1), 1) := by decide +kernel
theorem dX12_image_8 : decode cX12_image 8 = .ok (.ireturn, 1) := by decide +kernel
theorem dX12_image_9 : decode cX12_image 9 = .ok (.aload_n 0, 1) := by decide +kernel
theorem dX12_image_10 : decode cX12_image 10 = .ok (.getfield 127, 3) := by decide +kernel
theorem dX12_image_13 : decode cX12_image 13 = .ok (.iload_n 1, 1) := by decide +kernel
theorem dX12_image_14 : decode cX12_image 14 = .ok (.iconst 1, 1) := by decide +kernel
theorem dX12_image_15 : decode cX12_image 15 = .ok (.bastore, 1) := by decide +kernel
theorem dX12_image_16 : decode cX12_image 16 = .ok (.iconst 0, 1) := by decide +kernel
theorem dX12_image_17 : decode cX12_image 17 = .ok (.istore_n 2, 1) := by decide +kernel
theorem dX12_image_18 : decode cX12_image 18 = .ok (.iload_n 2, 1) := by decide +kernel
theorem dX12_image_19 : decode cX12_image 19 = .ok (.bipush 99, 2) := by decide +kernel
theorem dX12_image_21 : decode cX12_image 21 = .ok (.if_icmp .ge 26, 3) := by decide +kernel
theorem dX12_image_24 : decode cX12_image 24 = .ok (.aload_n 0, 1) := by decide +kernel
theorem dX12_image_25 : decode cX12_image 25 = .ok (.getfield 130, 3) := by decide +kernel
theorem dX12_image_28 : decode cX12_image 28 = .ok (.bipush 99, 2) := by decide +kernel
theorem dX12_image_30 : decode cX12_image 30 = .ok (.iload_n 1, 1) := by decide +kernel
theorem dX12_image_31 : decode cX12_image 31 = .ok (.imul, 1) := by decide +kernel
theorem dX12_image_32 : decode cX12_image 32 = .ok (.iload_n 2, 1) := by decide +kernel
theorem dX12_image_33 : decode cX12_image 33 = .ok (.iadd, 1) := by decide +kernel
theorem dX12_image_34 : decode cX12_image 34 = .ok (.aload_n 0, 1) := by decide +kernel
theorem dX12_image_35 : decode cX12_image 35 = .ok (.getfield 76, 3) := by decide +kernel
theorem dX12_image_38 : decode cX12_image 38 = .ok (.iload_n 2, 1) := by decide +kernel
theorem dX12_image_39 : decode cX12_image 39 = .ok (.iaload, 1) := by decide +kernel
theorem dX12_image_40 : decode cX12_image 40 = .ok (.iastore, 1) := by decide +kernel
theorem dX12_image_41 : decode cX12_image 41 = .ok (.iinc 2 1, 3) := by decide +kernel
theorem dX12_image_44 : decode cX12_image 44 = .ok (.goto (-26), 3) := by decide +kernel
theorem dX12_image_47 : decode cX12_image 47 = .ok (.aload_n 0, 1) := by decide +kernel
theorem dX12_image_48 : decode cX12_image 48 = .ok (.getfield 76, 3) := by decide +kernel
theorem dX12_image_51 : decode cX12_image 51 = .ok (.bipush 97, 2) := by decide +kernel
theorem dX12_image_53 : decode cX12_image 53 = .ok (.iaload, 1) := by decide +kernel
theorem dX12_image_54 : decode cX12_image 54 = .ok (.ireturn, 1) := by decide +kernel
theorem dX12_back_0 : decode cX12_back 0 = .ok (.iload_n 1, 1) := by decide +kernel
theorem dX12_back_1 : decode cX12_back 1 = .ok (.invokestatic 595, 3) := by decide +kernel
theorem dX12_back_4 : decode cX12_back 4 = .ok (.ifCond .eq 12, 3) := by decide +kernel
theorem dX12_back_7 : decode cX12_back 7 = .ok (.aload_n 0, 1) := by decide +kernel
theorem dX12_back_8 : decode cX12_back 8 = .ok (.getfield 127, 3) := by decide +kernel
theorem dX12_back_11 : decode cX12_back 11 = .ok (.iload_n 1, 1) := by decide +kernel
theorem dX12_back_12 : decode cX12_back 12 = .ok (.baload, 1) := by decide +kernel
theorem dX12_back_13 : decode cX12_back 13 = .ok (.ifCond .ne 5, 3) := by decide +kernel
theorem dX12_back_16 : decode cX12_back 16 = .ok (.iconst (-1), 1) := by decide +kernel
theorem dX12_back_17 : decode cX12_back 17 = .ok (.ireturn, 1) := by decide +kernel
theorem dX12_back_18 : decode cX12_back 18 = .ok (.iconst 0, 1) := by decide +kernel
theorem dX12_back_19 : decode cX12_back 19 = .ok (.istore_n 2, 1) := by decide +kernel
theorem dX12_back_20 : decode cX12_back 20 = .ok (.iload_n 2, 1) := by decide +kernel
theorem dX12_back_21 : decode cX12_back 21 = .ok (.bipush 99, 2) := by decide +kernel
theorem dX12_back_23 : decode cX12_back 23 = .ok (.if_icmp .ge 26, 3) := by decide +kernel
theorem dX12_back_26 : decode cX12_back 26 = .ok (.aload_n 0, 1) := by decide +kernel
theorem dX12_back_27 : decode cX12_back 27 = .ok (.getfield 76, 3) := by decide +kernel
theorem dX12_back_30 : decode cX12_back 30 = .ok (.iload_n 2, 1) := by decide +kernel
theorem dX12_back_31 : decode cX12_back 31 = .ok (.aload_n 0, 1) := by decide +kernel
theorem dX12_back_32 : decode cX12_back 32 = .ok (.getfield 130, 3) := by decide +kernel
theorem dX12_back_35 : decode cX12_back 35 = .ok (.bipush 99, 2) := by decide +kernel
theorem dX12_back_37 : decode cX12_back 37 = .ok (.iload_n 1, 1) := by decide +kernel
theorem dX12_back_38 : decode cX12_back 38 = .ok (.imul, 1) := by decide +kernel
theorem dX12_back_39 : decode cX12_back 39 = .ok (.iload_n 2, 1) := by decide +kernel
theorem dX12_back_40 : decode cX12_back 40 = .ok (.iadd, 1) := by decide +kernel
theorem dX12_back_41 : decode cX12_back 41 = .ok (.iaload, 1) := by decide +kernel
theorem dX12_back_42 : decode cX12_back 42 = .ok (.iastore, 1) := by decide +kernel
theorem dX12_back_43 : decode cX12_back 43 = .ok (.iinc 2 1, 3) := by decide +kernel
theorem dX12_back_46 : decode cX12_back 46 = .ok (.goto (-26), 3) := by decide +kernel
theorem dX12_back_49 : decode cX12_back 49 = .ok (.aload_n 0, 1) := by decide +kernel
theorem dX12_back_50 : decode cX12_back 50 = .ok (.iconst 0, 1) := by decide +kernel
theorem dX12_back_51 : decode cX12_back 51 = .ok (.putfield 410, 3) := by decide +kernel
theorem dX12_back_54 : decode cX12_back 54 = .ok (.aload_n 0, 1) := by decide +kernel
theorem dX12_back_55 : decode cX12_back 55 = .ok (.iconst 0, 1) := by decide +kernel
theorem dX12_back_56 : decode cX12_back 56 = .ok (.putfield 413, 3) := by decide +kernel
theorem dX12_back_59 : decode cX12_back 59 = .ok (.aload_n 0, 1) := by decide +kernel
theorem dX12_back_60 : decode cX12_back 60 = .ok (.getfield 76, 3) := by decide +kernel
theorem dX12_back_63 : decode cX12_back 63 = .ok (.bipush 97, 2) := by decide +kernel
theorem dX12_back_65 : decode cX12_back 65 = .ok (.iaload, 1) := by decide +kernel
theorem dX12_back_66 : decode cX12_back 66 = .ok (.ireturn, 1) := by decide +kernel
theorem dX12_allLife_0 : decode cX12_allLife 0 = .ok (.iconst 0, 1) := by decide +kernel
theorem dX12_allLife_1 : decode cX12_allLife 1 = .ok (.istore_n 1, 1) := by decide +kernel
theorem dX12_allLife_2 : decode cX12_allLife 2 = .ok (.iconst 0, 1) := by decide +kernel
theorem dX12_allLife_3 : decode cX12_allLife 3 = .ok (.istore_n 2, 1) := by decide +kernel
theorem dX12_allLife_4 : decode cX12_allLife 4 = .ok (.iload_n 2, 1) := by decide +kernel
theorem dX12_allLife_5 : decode cX12_allLife 5 = .ok (.aload_n 0, 1) := by decide +kernel
theorem dX12_allLife_6 : decode cX12_allLife 6 = .ok (.getfield 76, 3) := by decide +kernel
theorem dX12_allLife_9 : decode cX12_allLife 9 = .ok (.bipush 96, 2) := by decide +kernel
theorem dX12_allLife_11 : decode cX12_allLife 11 = .ok (.iaload, 1) := by decide +kernel
theorem dX12_allLife_12 : decode cX12_allLife 12 = .ok (.if_icmp .ge 23, 3) := by decide +kernel
theorem dX12_allLife_15 : decode cX12_allLife 15 = .ok (.iload_n 1, 1) := by decide +kernel
theorem dX12_allLife_16 : decode cX12_allLife 16 = .ok (.aload_n 0, 1) := by decide +kernel
theorem dX12_allLife_17 : decode cX12_allLife 17 = .ok (.getfield 76, 3) := by decide +kernel
theorem dX12_allLife_20 : decode cX12_allLife 20 = .ok (.bipush 8, 2) := by decide +kernel
theorem dX12_allLife_22 : decode cX12_allLife 22 = .ok (.iload_n 2, 1) := by decide +kernel
theorem dX12_allLife_23 : decode cX12_allLife 23 = .ok (.imul, 1) := by decide +kernel
theorem dX12_allLife_24 : decode cX12_allLife 24 = .ok (.iconst 0, 1) := by decide +kernel
theorem dX12_allLife_25 : decode cX12_allLife 25 = .ok (.iadd, 1) := by decide +kernel
theorem dX12_allLife_26 : decode cX12_allLife 26 = .ok (.iaload, 1) := by decide +kernel
theorem dX12_allLife_27 : decode cX12_allLife 27 = .ok (.iadd, 1) := by decide +kernel
theorem dX12_allLife_28 : decode cX12_allLife 28 = .ok (.istore_n 1, 1) := by decide +kernel
theorem dX12_allLife_29 : decode cX12_allLife 29 = .ok (.iinc 2 1, 3) := by decide +kernel
theorem dX12_allLife_32 : decode cX12_allLife 32 = .ok (.goto (-28), 3) := by decide +kernel
theorem dX12_allLife_35 : decode cX12_allLife 35 = .ok (.iload_n 1, 1) := by decide +kernel
theorem dX12_allLife_36 : decode cX12_allLife 36 = .ok (.ireturn, 1) := by decide +kernel
theorem dX12_about_0 : decode cX12_about 0 = .ok (.iload_n 1, 1) := by decide +kernel
theorem dX12_about_1 : decode cX12_about 1 = .ok (.tableswitch 159 0 14 #[75, 83, 88, 93, 98, 103, 111, 119, 124, 129, 134, 139, 144, 149, 154], 75) := by decide +kernel
theorem dX12_about_76 : decode cX12_about 76 = .ok (.aload_n 0, 1) := by decide +kernel
theorem dX12_about_77 : decode cX12_about 77 = .ok (.getfield 76, 3) := by decide +kernel
theorem dX12_about_80 : decode cX12_about 80 = .ok (.bipush 96, 2) := by decide +kernel
theorem dX12_about_82 : decode cX12_about 82 = .ok (.iaload, 1) := by decide +kernel
theorem dX12_about_83 : decode cX12_about 83 = .ok (.ireturn, 1) := by decide +kernel
theorem dX12_about_84 : decode cX12_about 84 = .ok (.aload_n 0, 1) := by decide +kernel
theorem dX12_about_85 : decode cX12_about 85 = .ok (.getfield 70, 3) := by decide +kernel
theorem dX12_about_88 : decode cX12_about 88 = .ok (.ireturn, 1) := by decide +kernel
theorem dX12_about_89 : decode cX12_about 89 = .ok (.aload_n 0, 1) := by decide +kernel
theorem dX12_about_90 : decode cX12_about 90 = .ok (.getfield 395, 3) := by decide +kernel
theorem dX12_about_93 : decode cX12_about 93 = .ok (.ireturn, 1) := by decide +kernel
theorem dX12_about_94 : decode cX12_about 94 = .ok (.aload_n 0, 1) := by decide +kernel
theorem dX12_about_95 : decode cX12_about 95 = .ok (.getfield 398, 3) := by decide +kernel
theorem dX12_about_98 : decode cX12_about 98 = .ok (.ireturn, 1) := by decide +kernel
theorem dX12_about_99 : decode cX12_about 99 = .ok (.aload_n 0, 1) := by decide +kernel
theorem dX12_about_100 : decode cX12_about 100 = .ok (.getfield 401, 3) := by decide +kernel
theorem dX12_about_103 : decode cX12_about 103 = .ok (.ireturn, 1) := by decide +kernel
theorem dX12_about_104 : decode cX12_about 104 = .ok (.aload_n 0, 1) := by decide +kernel
theorem dX12_about_105 : decode cX12_about 105 = .ok (.getfield 76, 3) := by decide +kernel
theorem dX12_about_108 : decode cX12_about 108 = .ok (.bipush 97, 2) := by decide +kernel
theorem dX12_about_110 : decode cX12_about 110 = .ok (.iaload, 1) := by decide +kernel
theorem dX12_about_111 : decode cX12_about 111 = .ok (.ireturn, 1) := by decide +kernel
theorem dX12_about_112 : decode cX12_about 112 = .ok (.aload_n 0, 1) := by decide +kernel
theorem dX12_about_113 : decode cX12_about 113 = .ok (.getfield 76, 3) := by decide +kernel
theorem dX12_about_116 : decode cX12_about 116 = .ok (.bipush 98, 2) := by decide +kernel
theorem dX12_about_118 : decode cX12_about 118 = .ok (.iaload, 1) := by decide +kernel
theorem dX12_about_119 : decode cX12_about 119 = .ok (.ireturn, 1) := by decide +kernel
theorem dX12_about_120 : decode cX12_about 120 = .ok (.aload_n 0, 1) := by decide +kernel
theorem dX12_about_121 : decode cX12_about 121 = .ok (.invokevirtual 598, 3) := by decide +kernel
theorem dX12_about_124 : decode cX12_about 124 = .ok (.ireturn, 1) := by decide +kernel
theorem dX12_about_125 : decode cX12_about 125 = .ok (.aload_n 0, 1) := by decide +kernel
theorem dX12_about_126 : decode cX12_about 126 = .ok (.getfield 410, 3) := by decide +kernel
theorem dX12_about_129 : decode cX12_about 129 = .ok (.ireturn, 1) := by decide +kernel
theorem dX12_about_130 : decode cX12_about 130 = .ok (.aload_n 0, 1) := by decide +kernel
theorem dX12_about_131 : decode cX12_about 131 = .ok (.getfield 413, 3) := by decide +kernel
theorem dX12_about_134 : decode cX12_about 134 = .ok (.ireturn, 1) := by decide +kernel
theorem dX12_about_135 : decode cX12_about 135 = .ok (.aload_n 0, 1) := by decide +kernel
theorem dX12_about_136 : decode cX12_about 136 = .ok (.getfield 416, 3) := by decide +kernel
theorem dX12_about_139 : decode cX12_about 139 = .ok (.ireturn, 1) := by decide +kernel
theorem dX12_about_140 : decode cX12_about 140 = .ok (.aload_n 0, 1) := by decide +kernel
theorem dX12_about_141 : decode cX12_about 141 = .ok (.getfield 573, 3) := by decide +kernel
theorem dX12_about_144 : decode cX12_about 144 = .ok (.ireturn, 1) := by decide +kernel
theorem dX12_about_145 : decode cX12_about 145 = .ok (.aload_n 0, 1) := by decide +kernel
theorem dX12_about_146 : decode cX12_about 146 = .ok (.getfield 133, 3) := by decide +kernel
theorem dX12_about_149 : decode cX12_about 149 = .ok (.ireturn, 1) := by decide +kernel
theorem dX12_about_150 : decode cX12_about 150 = .ok (.aload_n 0, 1) := by decide +kernel
theorem dX12_about_151 : decode cX12_about 151 = .ok (.getfield 407, 3) := by decide +kernel
theorem dX12_about_154 : decode cX12_about 154 = .ok (.ireturn, 1) := by decide +kernel
theorem dX12_about_155 : decode cX12_about 155 = .ok (.aload_n 0, 1) := by decide +kernel
theorem dX12_about_156 : decode cX12_about 156 = .ok (.getfield 419, 3) := by decide +kernel
theorem dX12_about_159 : decode cX12_about 159 = .ok (.ireturn, 1) := by decide +kernel
theorem dX12_about_160 : decode cX12_about 160 = .ok (.iconst (-1), 1) := by decide +kernel
theorem dX12_about_161 : decode cX12_about 161 = .ok (.ireturn, 1) := by decide +kernel
