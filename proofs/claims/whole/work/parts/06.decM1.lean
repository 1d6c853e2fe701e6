theorem dX12_chains_48 : decode cX12_chains 48 = .ok (.ifCond .eq 7, 3) := by decide +kernel
theorem dX12_chains_51 : decode cX12_chains 51 = .ok (.iload_n 3, 1) := by decide +kernel
theorem dX12_chains_52 : decode cX12_chains 52 = .ok (.goto 4, 3) := by decide +kernel
theorem dX12_chains_55 : decode cX12_chains 55 = .ok (.iload_n 2, 1) := by decide +kernel
theorem dX12_chains_56 : decode cX12_chains 56 = .ok (.istore_n 2, 1) := by decide +kernel
theorem dX12_chains_57 : decode cX12_chains 57 = .ok (.iinc 3 1, 3) := by decide +kernel
theorem dX12_chains_60 : decode cX12_chains 60 = .ok (.goto (-44), 3) := by decide +kernel
theorem dX12_chains_63 : decode cX12_chains 63 = .ok (.iload_n 1, 1) := by decide +kernel
theorem dX12_chains_64 : decode cX12_chains 64 = .ok (.ifCond .ne 7, 3) := by decide +kernel
theorem dX12_chains_67 : decode cX12_chains 67 = .ok (.iload_n 2, 1) := by decide +kernel
theorem dX12_chains_68 : decode cX12_chains 68 = .ok (.goto 7, 3) := by decide +kernel
theorem dX12_chains_71 : decode cX12_chains 71 = .ok (.iload_n 2, 1) := by decide +kernel
theorem dX12_chains_72 : decode cX12_chains 72 = .ok (.invokestatic 263, 3) := by decide +kernel
theorem dX12_chains_75 : decode cX12_chains 75 = .ok (.ireturn, 1) := by decide +kernel
theorem dX12_plans_0 : decode cX12_plans 0 = .ok (.iload_n 1, 1) := by decide +kernel
theorem dX12_plans_1 : decode cX12_plans 1 = .ok (.iload_n 2, 1) := by decide +kernel
theorem dX12_plans_2 : decode cX12_plans 2 = .ok (.if_icmp .eq 10, 3) := by decide +kernel
theorem dX12_plans_5 : decode cX12_plans 5 = .ok (.aload_n 0, 1) := by decide +kernel
theorem dX12_plans_6 : decode cX12_plans 6 = .ok (.invokevirtual 133, 3) := by decide +kernel
theorem dX12_plans_9 : decode cX12_plans 9 = .ok (.ifCond .eq 129, 3) := by decide +kernel
theorem dX12_plans_12 : decode cX12_plans 12 = .ok (.iload_n 3, 1) := by decide +kernel
theorem dX12_plans_13 : decode cX12_plans 13 = .ok (.aload_n 0, 1) := by decide +kernel
theorem dX12_plans_14 : decode cX12_plans 14 = .ok (.getfield 269, 3) := by decide +kernel
theorem dX12_plans_17 : decode cX12_plans 17 = .ok (.if_icmp .le 47, 3) := by decide +kernel
theorem dX12_plans_20 : decode cX12_plans 20 = .ok (.aload_n 0, 1) := by decide +kernel
theorem dX12_plans_21 : decode cX12_plans 21 = .ok (.iload_n 3, 1) := by decide +kernel
theorem dX12_plans_22 : decode cX12_plans 22 = .ok (.putfield 269, 3) := by decide +kernel
theorem dX12_plans_25 : decode cX12_plans 25 = .ok (.aload_n 0, 1) := by decide +kernel
theorem dX12_plans_26 : decode cX12_plans 26 = .ok (.iconst 0, 1) := by decide +kernel
theorem dX12_plans_27 : decode cX12_plans 27 = .ok (.putfield 272, 3) := by decide +kernel
theorem dX12_plans_30 : decode cX12_plans 30 = .ok (.aload_n 0, 1) := by decide +kernel
theorem dX12_plans_31 : decode cX12_plans 31 = .ok (.iload_n 1, 1) := by decide +kernel
theorem dX12_plans_32 : decode cX12_plans 32 = .ok (.putfield 275, 3) := by decide +kernel
theorem dX12_plans_35 : decode cX12_plans 35 = .ok (.iconst 0, 1) := by decide +kernel
theorem dX12_plans_36 : decode cX12_plans 36 = .ok (.istore 5, 2) := by decide +kernel
theorem dX12_plans_38 : decode cX12_plans 38 = .ok (.iload 5, 2) := by decide +kernel
theorem dX12_plans_40 : decode cX12_plans 40 = .ok (.iconst 4, 1) := by decide +kernel
theorem dX12_plans_41 : decode cX12_plans 41 = .ok (.if_icmp .ge 23, 3) := by decide +kernel
theorem dX12_plans_44 : decode cX12_plans 44 = .ok (.aload_n 0, 1) := by decide +kernel
theorem dX12_plans_45 : decode cX12_plans 45 = .ok (.getfield 37, 3) := by decide +kernel
theorem dX12_plans_48 : decode cX12_plans 48 = .ok (.iload 5, 2) := by decide +kernel
theorem dX12_plans_50 : decode cX12_plans 50 = .ok (.aload_n 0, 1) := by decide +kernel
theorem dX12_plans_51 : decode cX12_plans 51 = .ok (.getfield 34, 3) := by decide +kernel
theorem dX12_plans_54 : decode cX12_plans 54 = .ok (.iload 5, 2) := by decide +kernel
theorem dX12_plans_56 : decode cX12_plans 56 = .ok (.iaload, 1) := by decide +kernel
theorem dX12_plans_57 : decode cX12_plans 57 = .ok (.iastore, 1) := by decide +kernel
theorem dX12_plans_58 : decode cX12_plans 58 = .ok (.iinc 5 1, 3) := by decide +kernel
theorem dX12_plans_61 : decode cX12_plans 61 = .ok (.goto (-23), 3) := by decide +kernel
theorem dX12_plans_64 : decode cX12_plans 64 = .ok (.aload_n 0, 1) := by decide +kernel
theorem dX12_plans_65 : decode cX12_plans 65 = .ok (.dup, 1) := by decide +kernel
theorem dX12_plans_66 : decode cX12_plans 66 = .ok (.getfield 272, 3) := by decide +kernel
theorem dX12_plans_69 : decode cX12_plans 69 = .ok (.iload_n 3, 1) := by decide +kernel
theorem dX12_plans_70 : decode cX12_plans 70 = .ok (.aload_n 0, 1) := by decide +kernel
theorem dX12_plans_71 : decode cX12_plans 71 = .ok (.getfield 269, 3) := by decide +kernel
theorem dX12_plans_74 : decode cX12_plans 74 = .ok (.if_icmp .ne 7, 3) := by decide +kernel
theorem dX12_plans_77 : decode cX12_plans 77 = .ok (.iconst 1, 1) := by decide +kernel
theorem dX12_plans_78 : decode cX12_plans 78 = .ok (.goto 4, 3) := by decide +kernel
theorem dX12_plans_81 : decode cX12_plans 81 = .ok (.iconst 0, 1) := by decide +kernel
theorem dX12_plans_82 : decode cX12_plans 82 = .ok (.iadd, 1) := by decide +kernel
theorem dX12_plans_83 : decode cX12_plans 83 = .ok (.putfield 272, 3) := by decide +kernel
theorem dX12_plans_86 : decode cX12_plans 86 = .ok (.aload_n 0, 1) := by decide +kernel
theorem dX12_plans_87 : decode cX12_plans 87 = .ok (.invokevirtual 137, 3) := by decide +kernel
theorem dX12_plans_90 : decode cX12_plans 90 = .ok (.istore 5, 2) := by decide +kernel
theorem dX12_plans_92 : decode cX12_plans 92 = .ok (.aload_n 0, 1) := by decide +kernel
theorem dX12_plans_93 : decode cX12_plans 93 = .ok (.dup, 1) := by decide +kernel
theorem dX12_plans_94 : decode cX12_plans 94 = .ok (.getfield 278, 3) := by decide +kernel
theorem dX12_plans_97 : decode cX12_plans 97 = .ok (.iload 5, 2) := by decide +kernel
theorem dX12_plans_99 : decode cX12_plans 99 = .ok (.ior, 1) := by decide +kernel
theorem dX12_plans_100 : decode cX12_plans 100 = .ok (.putfield 278, 3) := by decide +kernel
theorem dX12_plans_103 : decode cX12_plans 103 = .ok (.aload_n 0, 1) := by decide +kernel
theorem dX12_plans_104 : decode cX12_plans 104 = .ok (.aload_n 0, 1) := by decide +kernel
theorem dX12_plans_105 : decode cX12_plans 105 = .ok (.getfield 281, 3) := by decide +kernel
theorem dX12_plans_108 : decode cX12_plans 108 = .ok (.iload 5, 2) := by decide +kernel
theorem dX12_plans_110 : decode cX12_plans 110 = .ok (.iconst (-1), 1) := by decide +kernel
theorem dX12_plans_111 : decode cX12_plans 111 = .ok (.ixor, 1) := by decide +kernel
theorem dX12_plans_112 : decode cX12_plans 112 = .ok (.iand, 1) := by decide +kernel
theorem dX12_plans_113 : decode cX12_plans 113 = .ok (.ifCond .ne 17, 3) := by decide +kernel
theorem dX12_plans_116 : decode cX12_plans 116 = .ok (.iload 4, 2) := by decide +kernel
theorem dX12_plans_118 : decode cX12_plans 118 = .ok (.aload_n 0, 1) := by decide +kernel
theorem dX12_plans_119 : decode cX12_plans 119 = .ok (.getfield 284, 3) := by decide +kernel
theorem dX12_plans_122 : decode cX12_plans 122 = .ok (.if_icmp .ge 8, 3) := by decide +kernel
theorem dX12_plans_125 : decode cX12_plans 125 = .ok (.iload 4, 2) := by decide +kernel
theorem dX12_plans_127 : decode cX12_plans 127 = .ok (.goto 7, 3) := by decide +kernel
theorem dX12_plans_130 : decode cX12_plans 130 = .ok (.aload_n 0, 1) := by decide +kernel
theorem dX12_plans_131 : decode cX12_plans 131 = .ok (.getfield 284, 3) := by decide +kernel
theorem dX12_plans_134 : decode cX12_plans 134 = .ok (.putfield 284, 3) := by decide +kernel
theorem dX12_plans_137 : decode cX12_plans 137 = .ok (.return_, 1) := by decide +kernel
theorem dX12_plans_138 : decode cX12_plans 138 = .ok (.aload_n 0, 1) := by decide +kernel
theorem dX12_plans_139 : decode cX12_plans 139 = .ok (.iload_n 1, 1) := by decide +kernel
theorem dX12_plans_140 : decode cX12_plans 140 = .ok (.invokevirtual 234, 3) := by decide +kernel
theorem dX12_plans_143 : decode cX12_plans 143 = .ok (.iconst 0, 1) := by decide +kernel
theorem dX12_plans_144 : decode cX12_plans 144 = .ok (.istore 5, 2) := by decide +kernel
theorem dX12_plans_146 : decode cX12_plans 146 = .ok (.iload 5, 2) := by decide +kernel
theorem dX12_plans_148 : decode cX12_plans 148 = .ok (.aload_n 0, 1) := by decide +kernel
theorem dX12_plans_149 : decode cX12_plans 149 = .ok (.getfield 7, 3) := by decide +kernel
theorem dX12_plans_152 : decode cX12_plans 152 = .ok (.iconst 0, 1) := by decide +kernel
theorem dX12_plans_153 : decode cX12_plans 153 = .ok (.iaload, 1) := by decide +kernel
theorem dX12_plans_154 : decode cX12_plans 154 = .ok (.if_icmp .gt 56, 3) := by decide +kernel
theorem dX12_plans_157 : decode cX12_plans 157 = .ok (.aload_n 0, 1) := by decide +kernel
theorem dX12_plans_158 : decode cX12_plans 158 = .ok (.getfield 34, 3) := by decide +kernel
theorem dX12_plans_161 : decode cX12_plans 161 = .ok (.iload_n 1, 1) := by decide +kernel
theorem dX12_plans_162 : decode cX12_plans 162 = .ok (.iload 5, 2) := by decide +kernel
theorem dX12_plans_164 : decode cX12_plans 164 = .ok (.iastore, 1) := by decide +kernel
theorem dX12_plans_165 : decode cX12_plans 165 = .ok (.aload_n 0, 1) := by decide +kernel
theorem dX12_plans_166 : decode cX12_plans 166 = .ok (.iload 5, 2) := by decide +kernel
theorem dX12_plans_168 : decode cX12_plans 168 = .ok (.invokevirtual 287, 3) := by decide +kernel
theorem dX12_plans_171 : decode cX12_plans 171 = .ok (.istore 6, 2) := by decide +kernel
theorem dX12_plans_173 : decode cX12_plans 173 = .ok (.aload_n 0, 1) := by decide +kernel
theorem dX12_plans_174 : decode cX12_plans 174 = .ok (.iload_n 1, 1) := by decide +kernel
theorem dX12_plans_175 : decode cX12_plans 175 = .ok (.iconst 1, 1) := by decide +kernel
theorem dX12_plans_176 : decode cX12_plans 176 = .ok (.iadd, 1) := by decide +kernel
theorem dX12_plans_177 : decode cX12_plans 177 = .ok (.iload_n 2, 1) := by decide +kernel
theorem dX12_plans_178 : decode cX12_plans 178 = .ok (.iload_n 3, 1) := by decide +kernel
theorem dX12_plans_179 : decode cX12_plans 179 = .ok (.iload 6, 2) := by decide +kernel
theorem dX12_plans_181 : decode cX12_plans 181 = .ok (.iadd, 1) := by decide +kernel
theorem dX12_plans_182 : decode cX12_plans 182 = .ok (.iload 5, 2) := by decide +kernel
theorem dX12_plans_184 : decode cX12_plans 184 = .ok (.ifCond .ne 8, 3) := by decide +kernel
theorem dX12_plans_187 : decode cX12_plans 187 = .ok (.iload 4, 2) := by decide +kernel
theorem dX12_plans_189 : decode cX12_plans 189 = .ok (.goto 7, 3) := by decide +kernel
theorem dX12_plans_192 : decode cX12_plans 192 = .ok (.iload 4, 2) := by decide +kernel
theorem dX12_plans_194 : decode cX12_plans 194 = .ok (.iconst 1, 1) := by decide +kernel
theorem dX12_plans_195 : decode cX12_plans 195 = .ok (.iadd, 1) := by decide +kernel
theorem dX12_plans_196 : decode cX12_plans 196 = .ok (.invokevirtual 290, 3) := by decide +kernel
theorem dX12_plans_199 : decode cX12_plans 199 = .ok (.aload_n 0, 1) := by decide +kernel
theorem dX12_plans_200 : decode cX12_plans 200 = .ok (.iload_n 1, 1) := by decide +kernel
theorem dX12_plans_201 : decode cX12_plans 201 = .ok (.invokevirtual 237, 3) := by decide +kernel
theorem dX12_plans_204 : decode cX12_plans 204 = .ok (.iinc 5 1, 3) := by decide +kernel
theorem dX12_plans_207 : decode cX12_plans 207 = .ok (.goto (-61), 3) := by decide +kernel
theorem dX12_plans_210 : decode cX12_plans 210 = .ok (.return_, 1) := by decide +kernel
theorem dX12_findsPlans_0 : decode cX12_findsPlans 0 = .ok (.aload_n 0, 1) := by decide +kernel
theorem dX12_findsPlans_1 : decode cX12_findsPlans 1 = .ok (.iconst (-1), 1) := by decide +kernel
theorem dX12_findsPlans_2 : decode cX12_findsPlans 2 = .ok (.putfield 269, 3) := by decide +kernel
theorem dX12_findsPlans_5 : decode cX12_findsPlans 5 = .ok (.aload_n 0, 1) := by decide +kernel
theorem dX12_findsPlans_6 : decode cX12_findsPlans 6 = .ok (.iconst 0, 1) := by decide +kernel
theorem dX12_findsPlans_7 : decode cX12_findsPlans 7 = .ok (.putfield 272, 3) := by decide +kernel
theorem dX12_findsPlans_10 : decode cX12_findsPlans 10 = .ok (.aload_n 0, 1) := by decide +kernel
theorem dX12_findsPlans_11 : decode cX12_findsPlans 11 = .ok (.iconst 0, 1) := by decide +kernel
theorem dX12_findsPlans_12 : decode cX12_findsPlans 12 = .ok (.putfield 275, 3) := by decide +kernel
theorem dX12_findsPlans_15 : decode cX12_findsPlans 15 = .ok (.aload_n 0, 1) := by decide +kernel
theorem dX12_findsPlans_16 : decode cX12_findsPlans 16 = .ok (.iload_n 2, 1) := by decide +kernel
theorem dX12_findsPlans_17 : decode cX12_findsPlans 17 = .ok (.putfield 281, 3) := by decide +kernel
theorem dX12_findsPlans_20 : decode cX12_findsPlans 20 = .ok (.aload_n 0, 1) := by decide +kernel
theorem dX12_findsPlans_21 : decode cX12_findsPlans 21 = .ok (.bipush 9, 2) := by decide +kernel
theorem dX12_findsPlans_23 : decode cX12_findsPlans 23 = .ok (.putfield 284, 3) := by decide +kernel
theorem dX12_findsPlans_26 : decode cX12_findsPlans 26 = .ok (.aload_n 0, 1) := by decide +kernel
theorem dX12_findsPlans_27 : decode cX12_findsPlans 27 = .ok (.iconst 0, 1) := by decide +kernel
theorem dX12_findsPlans_28 : decode cX12_findsPlans 28 = .ok (.putfield 278, 3) := by decide +kernel
theorem dX12_findsPlans_31 : decode cX12_findsPlans 31 = .ok (.aload_n 0, 1) := by decide +kernel
theorem dX12_findsPlans_32 : decode cX12_findsPlans 32 = .ok (.iconst 0, 1) := by decide +kernel
theorem dX12_findsPlans_33 : decode cX12_findsPlans 33 = .ok (.iload_n 1, 1) := by decide +kernel
theorem dX12_findsPlans_34 : decode cX12_findsPlans 34 = .ok (.iconst 0, 1) := by decide +kernel
theorem dX12_findsPlans_35 : decode cX12_findsPlans 35 = .ok (.iconst 0, 1) := by decide +kernel
theorem dX12_findsPlans_36 : decode cX12_findsPlans 36 = .ok (.invokevirtual 290, 3) := by decide +kernel
theorem dX12_findsPlans_39 : decode cX12_findsPlans 39 = .ok (.return_, 1) := by decide +kernel
theorem dX12_isLong_0 : decode cX12_isLong 0 = .ok (.iload_n 0, 1) := by decide +kernel
theorem dX12_isLong_1 : decode cX12_isLong 1 = .ok (.i2l, 1) := by decide +kernel
theorem dX12_isLong_2 : decode cX12_isLong 2 = .ok (.lconst 0, 1) := by decide +kernel
theorem dX12_isLong_3 : decode cX12_isLong 3 = .ok (.ldc2_w 126, 3) := by decide +kernel
theorem dX12_isLong_6 : decode cX12_isLong 6 = .ok (.invokestatic 66, 3) := by decide +kernel
theorem dX12_isLong_9 : decode cX12_isLong 9 = .ok (.ireturn, 1) := by decide +kernel
theorem dX12_best_0 : decode cX12_best 0 = .ok (.iload_n 1, 1) := by decide +kernel
theorem dX12_best_1 : decode cX12_best 1 = .ok (.invokestatic 293, 3) := by decide +kernel
theorem dX12_best_4 : decode cX12_best 4 = .ok (.ifCond .ne 5, 3) := by decide +kernel
theorem dX12_best_7 : decode cX12_best 7 = .ok (.iconst (-1), 1) := by decide +kernel
theorem dX12_best_8 : decode cX12_best 8 = .ok (.ireturn, 1) := by decide +kernel
theorem dX12_best_9 : decode cX12_best 9 = .ok (.aload_n 0, 1) := by decide +kernel
theorem dX12_best_10 : decode cX12_best 10 = .ok (.iload_n 1, 1) := by decide +kernel
theorem dX12_best_11 : decode cX12_best 11 = .ok (.iconst 0, 1) := by decide +kernel
theorem dX12_best_12 : decode cX12_best 12 = .ok (.invokevirtual 296, 3) := by decide +kernel
theorem dX12_best_15 : decode cX12_best 15 = .ok (.aload_n 0, 1) := by decide +kernel
theorem dX12_best_16 : decode cX12_best 16 = .ok (.getfield 269, 3) := by decide +kernel
theorem dX12_best_19 : decode cX12_best 19 = .ok (.ireturn, 1) := by decide +kernel
theorem dX12_ith_0 : decode cX12_ith 0 = .ok (.iload_n 1, 1) := by decide +kernel
theorem dX12_ith_1 : decode cX12_ith 1 = .ok (.invokestatic 293, 3) := by decide +kernel
theorem dX12_ith_4 : decode cX12_ith 4 = .ok (.ifCond .eq 15, 3) := by decide +kernel
theorem dX12_ith_7 : decode cX12_ith 7 = .ok (.iload_n 2, 1) := by decide +kernel
theorem dX12_ith_8 : decode cX12_ith 8 = .ok (.i2l, 1) := by decide +kernel
theorem dX12_ith_9 : decode cX12_ith 9 = .ok (.lconst 0, 1) := by decide +kernel
theorem dX12_ith_10 : decode cX12_ith 10 = .ok (.ldc2_w 300, 3) := by decide +kernel
theorem dX12_ith_13 : decode cX12_ith 13 = .ok (.invokestatic 66, 3) := by decide +kernel
theorem dX12_ith_16 : decode cX12_ith 16 = .ok (.ifCond .ne 5, 3) := by decide +kernel
theorem dX12_ith_19 : decode cX12_ith 19 = .ok (.iconst (-1), 1) := by decide +kernel
theorem dX12_ith_20 : decode cX12_ith 20 = .ok (.ireturn, 1) := by decide +kernel
theorem dX12_ith_21 : decode cX12_ith 21 = .ok (.aload_n 0, 1) := by decide +kernel
theorem dX12_ith_22 : decode cX12_ith 22 = .ok (.iload_n 1, 1) := by decide +kernel
theorem dX12_ith_23 : decode cX12_ith 23 = .ok (.iconst 0, 1) := by decide +kernel
theorem dX12_ith_24 : decode cX12_ith 24 = .ok (.invokevirtual 296, 3) := by decide +kernel
theorem dX12_ith_27 : decode cX12_ith 27 = .ok (.iload_n 2, 1) := by decide +kernel
theorem dX12_ith_28 : decode cX12_ith 28 = .ok (.aload_n 0, 1) := by decide +kernel
theorem dX12_ith_29 : decode cX12_ith 29 = .ok (.getfield 275, 3) := by decide +kernel
theorem dX12_ith_32 : decode cX12_ith 32 = .ok (.if_icmp .ge 12, 3) := by decide +kernel
theorem dX12_ith_35 : decode cX12_ith 35 = .ok (.aload_n 0, 1) := by decide +kernel
theorem dX12_ith_36 : decode cX12_ith 36 = .ok (.getfield 37, 3) := by decide +kernel
theorem dX12_ith_39 : decode cX12_ith 39 = .ok (.iload_n 2, 1) := by decide +kernel
theorem dX12_ith_40 : decode cX12_ith 40 = .ok (.iaload, 1) := by decide +kernel
theorem dX12_ith_41 : decode cX12_ith 41 = .ok (.goto 5, 3) := by decide +kernel
theorem dX12_ith_44 : decode cX12_ith 44 = .ok (.bipush (-3), 2) := by decide +kernel
theorem dX12_ith_46 : decode cX12_ith 46 = .ok (.ireturn, 1) := by decide +kernel
theorem dX12_ways_0 : decode cX12_ways 0 = .ok (.iload_n 1, 1) := by decide +kernel
theorem dX12_ways_1 : decode cX12_ways 1 = .ok (.invokestatic 293, 3) := by decide +kernel
theorem dX12_ways_4 : decode cX12_ways 4 = .ok (.ifCond .ne 5, 3) := by decide +kernel
theorem dX12_ways_7 : decode cX12_ways 7 = .ok (.iconst (-1), 1) := by decide +kernel
theorem dX12_ways_8 : decode cX12_ways 8 = .ok (.ireturn, 1) := by decide +kernel
theorem dX12_ways_9 : decode cX12_ways 9 = .ok (.aload_n 0, 1) := by decide +kernel
theorem dX12_ways_10 : decode cX12_ways 10 = .ok (.iload_n 1, 1) := by decide +kernel
theorem dX12_ways_11 : decode cX12_ways 11 = .ok (.iconst 0, 1) := by decide +kernel
theorem dX12_ways_12 : decode cX12_ways 12 = .ok (.invokevirtual 296, 3) := by decide +kernel
theorem dX12_ways_15 : decode cX12_ways 15 = .ok (.aload_n 0, 1) := by decide +kernel
theorem dX12_ways_16 : decode cX12_ways 16 = .ok (.getfield 272, 3) := by decide +kernel
theorem dX12_ways_19 : decode cX12_ways 19 = .ok (.ireturn, 1) := by decide +kernel
theorem dX12_isSet_0 : decode cX12_isSet 0 = .ok (.iload_n 1, 1) := by decide +kernel
theorem dX12_isSet_1 : decode cX12_isSet 1 = .ok (.i2l, 1) := by decide +kernel
theorem dX12_isSet_2 : decode cX12_isSet 2 = .ok (.lconst 0, 1) := by decide +kernel
theorem dX12_isSet_3 : decode cX12_isSet 3 = .ok (.iconst 1, 1) := by decide +kernel
theorem dX12_isSet_4 : decode cX12_isSet 4 = .ok (.aload_n 0, 1) := by decide +kernel
theorem dX12_isSet_5 : decode cX12_isSet 5 = .ok (.getfield 7, 3) := by decide +kernel
theorem dX12_isSet_8 : decode cX12_isSet 8 = .ok (.iconst 0, 1) := by decide +kernel
theorem dX12_isSet_9 : decode cX12_isSet 9 = .ok (.iaload, 1) := by decide +kernel
theorem dX12_isSet_10 : decode cX12_isSet 10 = .ok (.ishl, 1) := by decide +kernel
theorem dX12_isSet_11 : decode cX12_isSet 11 = .ok (.iconst 1, 1) := by decide +kernel
theorem dX12_isSet_12 : decode cX12_isSet 12 = .ok (.isub, 1) := by decide +kernel
theorem dX12_isSet_13 : decode cX12_isSet 13 = .ok (.i2l, 1) := by decide +kernel
theorem dX12_isSet_14 : decode cX12_isSet 14 = .ok (.invokestatic 66, 3) := by decide +kernel
theorem dX12_isSet_17 : decode cX12_isSet 17 = .ok (.ireturn, 1) := by decide +kernel
theorem dX12_kept_0 : decode cX12_kept 0 = .ok (.iload_n 1, 1) := by decide +kernel
theorem dX12_kept_1 : decode cX12_kept 1 = .ok (.invokestatic 293, 3) := by decide +kernel
theorem dX12_kept_4 : decode cX12_kept 4 = .ok (.ifCond .eq 11, 3) := by decide +kernel
theorem dX12_kept_7 : decode cX12_kept 7 = .ok (.aload_n 0, 1) := by decide +kernel
theorem dX12_kept_8 : decode cX12_kept 8 = .ok (.iload_n 2, 1) := by decide +kernel
theorem dX12_kept_9 : decode cX12_kept 9 = .ok (.invokevirtual 302, 3) := by decide +kernel
theorem dX12_kept_12 : decode cX12_kept 12 = .ok (.ifCond .ne 5, 3) := by decide +kernel
theorem dX12_kept_15 : decode cX12_kept 15 = .ok (.iconst (-1), 1) := by decide +kernel
theorem dX12_kept_16 : decode cX12_kept 16 = .ok (.ireturn, 1) := by decide +kernel
theorem dX12_kept_17 : decode cX12_kept 17 = .ok (.aload_n 0, 1) := by decide +kernel
theorem dX12_kept_18 : decode cX12_kept 18 = .ok (.iload_n 1, 1) := by decide +kernel
theorem dX12_kept_19 : decode cX12_kept 19 = .ok (.iload_n 2, 1) := by decide +kernel
theorem dX12_kept_20 : decode cX12_kept 20 = .ok (.invokevirtual 296, 3) := by decide +kernel
theorem dX12_kept_23 : decode cX12_kept 23 = .ok (.aload_n 0, 1) := by decide +kernel
theorem dX12_kept_24 : decode cX12_kept 24 = .ok (.getfield 284, 3) := by decide +kernel
theorem dX12_kept_27 : decode cX12_kept 27 = .ok (.bipush 9, 2) := by decide +kernel
theorem dX12_kept_29 : decode cX12_kept 29 = .ok (.if_icmp .ge 10, 3) := by decide +kernel
theorem dX12_kept_32 : decode cX12_kept 32 = .ok (.aload_n 0, 1) := by decide +kernel
theorem dX12_kept_33 : decode cX12_kept 33 = .ok (.getfield 284, 3) := by decide +kernel
theorem dX12_kept_36 : decode cX12_kept 36 = .ok (.goto 5, 3) := by decide +kernel
theorem dX12_kept_39 : decode cX12_kept 39 = .ok (.bipush (-3), 2) := by decide +kernel
theorem dX12_kept_41 : decode cX12_kept 41 = .ok (.ireturn, 1) := by decide +kernel
theorem dX12_bars_0 : decode cX12_bars 0 = .ok (.iload_n 1, 1) := by decide +kernel
theorem dX12_bars_1 : decode cX12_bars 1 = .ok (.invokestatic 293, 3) := by decide +kernel
theorem dX12_bars_4 : decode cX12_bars 4 = .ok (.ifCond .eq 11, 3) := by decide +kernel
theorem dX12_bars_7 : decode cX12_bars 7 = .ok (.aload_n 0, 1) := by decide +kernel
theorem dX12_bars_8 : decode cX12_bars 8 = .ok (.iload_n 2, 1) := by decide +kernel
theorem dX12_bars_9 : decode cX12_bars 9 = .ok (.invokevirtual 302, 3) := by decide +kernel
theorem dX12_bars_12 : decode cX12_bars 12 = .ok (.ifCond .ne 5, 3) := by decide +kernel
theorem dX12_bars_15 : decode cX12_bars 15 = .ok (.iconst (-1), 1) := by decide +kernel
theorem dX12_bars_16 : decode cX12_bars 16 = .ok (.ireturn, 1) := by decide +kernel
theorem dX12_bars_17 : decode cX12_bars 17 = .ok (.aload_n 0, 1) := by decide +kernel
theorem dX12_bars_18 : decode cX12_bars 18 = .ok (.iload_n 1, 1) := by decide +kernel
theorem dX12_bars_19 : decode cX12_bars 19 = .ok (.iload_n 2, 1) := by decide +kernel
theorem dX12_bars_20 : decode cX12_bars 20 = .ok (.invokevirtual 296, 3) := by decide +kernel
theorem dX12_bars_23 : decode cX12_bars 23 = .ok (.iconst 0, 1) := by decide +kernel
theorem dX12_bars_24 : decode cX12_bars 24 = .ok (.istore_n 3, 1) := by decide +kernel
theorem dX12_bars_25 : decode cX12_bars 25 = .ok (.iload_n 3, 1) := by decide +kernel
theorem dX12_bars_26 : decode cX12_bars 26 = .ok (.aload_n 0, 1) := by decide +kernel
theorem dX12_bars_27 : decode cX12_bars 27 = .ok (.getfield 7, 3) := by decide +kernel
theorem dX12_bars_30 : decode cX12_bars 30 = .ok (.iconst 0, 1) := by decide +kernel
theorem dX12_bars_31 : decode cX12_bars 31 = .ok (.iaload, 1) := by decide +kernel
theorem dX12_bars_32 : decode cX12_bars 32 = .ok (.if_icmp .ge 27, 3) := by decide +kernel
theorem dX12_bars_35 : decode cX12_bars 35 = .ok (.iload_n 2, 1) := by decide +kernel
theorem dX12_bars_36 : decode cX12_bars 36 = .ok (.aload_n 0, 1) := by decide +kernel
theorem dX12_bars_37 : decode cX12_bars 37 = .ok (.getfield 278, 3) := by decide +kernel
theorem dX12_bars_40 : decode cX12_bars 40 = .ok (.iconst (-1), 1) := by decide +kernel
theorem dX12_bars_41 : decode cX12_bars 41 = .ok (.ixor, 1) := by decide +kernel
theorem dX12_bars_42 : decode cX12_bars 42 = .ok (.iand, 1) := by decide +kernel
theorem dX12_bars_43 : decode cX12_bars 43 = .ok (.iload_n 3, 1) := by decide +kernel
theorem dX12_bars_44 : decode cX12_bars 44 = .ok (.ishr, 1) := by decide +kernel
theorem dX12_bars_45 : decode cX12_bars 45 = .ok (.iconst 1, 1) := by decide +kernel
theorem dX12_bars_46 : decode cX12_bars 46 = .ok (.iand, 1) := by decide +kernel
theorem dX12_bars_47 : decode cX12_bars 47 = .ok (.iconst 1, 1) := by decide +kernel
theorem dX12_bars_48 : decode cX12_bars 48 = .ok (.if_icmp .ne 5, 3) := by decide +kernel
theorem dX12_bars_51 : decode cX12_bars 51 = .ok (.iload_n 3, 1) := by decide +kernel
theorem dX12_bars_52 : decode cX12_bars 52 = .ok (.ireturn, 1) := by decide +kernel
theorem dX12_bars_53 : decode cX12_bars 53 = .ok (.iinc 3 1, 3) := by decide +kernel
theorem dX12_bars_56 : decode cX12_bars 56 = .ok (.goto (-31), 3) := by decide +kernel
theorem dX12_bars_59 : decode cX12_bars 59 = .ok (.bipush (-3), 2) := by decide +kernel
theorem dX12_bars_61 : decode cX12_bars 61 = .ok (.ireturn, 1) := by decide +kernel
theorem dX12_valueFrom_0 : decode cX12_valueFrom 0 = .ok (.iload_n 1, 1) := by decide +kernel
theorem dX12_valueFrom_1 : decode cX12_valueFrom 1 = .ok (.iload_n 2, 1) := by decide +kernel
theorem dX12_valueFrom_2 : decode cX12_valueFrom 2 = .ok (.if_icmp .eq 10, 3) := by decide +kernel
theorem dX12_valueFrom_5 : decode cX12_valueFrom 5 = .ok (.aload_n 0, 1) := by decide +kernel
theorem dX12_valueFrom_6 : decode cX12_valueFrom 6 = .ok (.invokevirtual 133, 3) := by decide +kernel
theorem dX12_valueFrom_9 : decode cX12_valueFrom 9 = .ok (.ifCond .eq 5, 3) := by decide +kernel
theorem dX12_valueFrom_12 : decode cX12_valueFrom 12 = .ok (.iconst 0, 1) := by decide +kernel
theorem dX12_valueFrom_13 : decode cX12_valueFrom 13 = .ok (.ireturn, 1) := by decide +kernel
theorem dX12_valueFrom_14 : decode cX12_valueFrom 14 = .ok (.aload_n 0, 1) := by decide +kernel
theorem dX12_valueFrom_15 : decode cX12_valueFrom 15 = .ok (.iload_n 1, 1) := by decide +kernel
theorem dX12_valueFrom_16 : decode cX12_valueFrom 16 = .ok (.invokevirtual 234, 3) := by decide +kernel
theorem dX12_valueFrom_19 : decode cX12_valueFrom 19 = .ok (.iconst 0, 1) := by decide +kernel
theorem dX12_valueFrom_20 : decode cX12_valueFrom 20 = .ok (.istore_n 3, 1) := by decide +kernel
theorem dX12_valueFrom_21 : decode cX12_valueFrom 21 = .ok (.iconst (-1), 1) := by decide +kernel
theorem dX12_valueFrom_22 : decode cX12_valueFrom 22 = .ok (.istore 4, 2) := by decide +kernel
theorem dX12_valueFrom_24 : decode cX12_valueFrom 24 = .ok (.iconst 0, 1) := by decide +kernel
theorem dX12_valueFrom_25 : decode cX12_valueFrom 25 = .ok (.istore 5, 2) := by decide +kernel
theorem dX12_valueFrom_27 : decode cX12_valueFrom 27 = .ok (.iload 5, 2) := by decide +kernel
theorem dX12_valueFrom_29 : decode cX12_valueFrom 29 = .ok (.aload_n 0, 1) := by decide +kernel
theorem dX12_valueFrom_30 : decode cX12_valueFrom 30 = .ok (.getfield 7, 3) := by decide +kernel
theorem dX12_valueFrom_33 : decode cX12_valueFrom 33 = .ok (.iconst 0, 1) := by decide +kernel
theorem dX12_valueFrom_34 : decode cX12_valueFrom 34 = .ok (.iaload, 1) := by decide +kernel
theorem dX12_valueFrom_35 : decode cX12_valueFrom 35 = .ok (.if_icmp .gt 68, 3) := by decide +kernel
theorem dX12_valueFrom_38 : decode cX12_valueFrom 38 = .ok (.aload_n 0, 1) := by decide +kernel
theorem dX12_valueFrom_39 : decode cX12_valueFrom 39 = .ok (.iload 5, 2) := by decide +kernel
theorem dX12_valueFrom_41 : decode cX12_valueFrom 41 = .ok (.invokevirtual 287, 3) := by decide +kernel
theorem dX12_valueFrom_44 : decode cX12_valueFrom 44 = .ok (.istore 6, 2) := by decide +kernel
theorem dX12_valueFrom_46 : decode cX12_valueFrom 46 = .ok (.iload 6, 2) := by decide +kernel
theorem dX12_valueFrom_48 : decode cX12_valueFrom 48 = .ok (.aload_n 0, 1) := by decide +kernel
theorem dX12_valueFrom_49 : decode cX12_valueFrom 49 = .ok (.iload_n 1, 1) := by decide +kernel
theorem dX12_valueFrom_50 : decode cX12_valueFrom 50 = .ok (.iconst 1, 1) := by decide +kernel
theorem dX12_valueFrom_51 : decode cX12_valueFrom 51 = .ok (.iadd, 1) := by decide +kernel
theorem dX12_valueFrom_52 : decode cX12_valueFrom 52 = .ok (.iload_n 2, 1) := by decide +kernel
theorem dX12_valueFrom_53 : decode cX12_valueFrom 53 = .ok (.invokevirtual 305, 3) := by decide +kernel
theorem dX12_valueFrom_56 : decode cX12_valueFrom 56 = .ok (.iadd, 1) := by decide +kernel
theorem dX12_valueFrom_57 : decode cX12_valueFrom 57 = .ok (.istore 7, 2) := by decide +kernel
theorem dX12_valueFrom_59 : decode cX12_valueFrom 59 = .ok (.aload_n 0, 1) := by decide +kernel
theorem dX12_valueFrom_60 : decode cX12_valueFrom 60 = .ok (.iload_n 1, 1) := by decide +kernel
theorem dX12_valueFrom_61 : decode cX12_valueFrom 61 = .ok (.invokevirtual 237, 3) := by decide +kernel
theorem dX12_valueFrom_64 : decode cX12_valueFrom 64 = .ok (.iload 4, 2) := by decide +kernel
theorem dX12_valueFrom_66 : decode cX12_valueFrom 66 = .ok (.ifCond .lt 24, 3) := by decide +kernel
theorem dX12_valueFrom_69 : decode cX12_valueFrom 69 = .ok (.iload_n 1, 1) := by decide +kernel
theorem dX12_valueFrom_70 : decode cX12_valueFrom 70 = .ok (.iconst 2, 1) := by decide +kernel
theorem dX12_valueFrom_71 : decode cX12_valueFrom 71 = .ok (.irem, 1) := by decide +kernel
theorem dX12_valueFrom_72 : decode cX12_valueFrom 72 = .ok (.ifCond .ne 12, 3) := by decide +kernel
theorem dX12_valueFrom_75 : decode cX12_valueFrom 75 = .ok (.iload 7, 2) := by decide +kernel
theorem dX12_valueFrom_77 : decode cX12_valueFrom 77 = .ok (.iload_n 3, 1) := by decide +kernel
theorem dX12_valueFrom_78 : decode cX12_valueFrom 78 = .ok (.if_icmp .le 19, 3) := by decide +kernel
theorem dX12_valueFrom_81 : decode cX12_valueFrom 81 = .ok (.goto 9, 3) := by decide +kernel
theorem dX12_valueFrom_84 : decode cX12_valueFrom 84 = .ok (.iload 7, 2) := by decide +kernel
theorem dX12_valueFrom_86 : decode cX12_valueFrom 86 = .ok (.iload_n 3, 1) := by decide +kernel
theorem dX12_valueFrom_87 : decode cX12_valueFrom 87 = .ok (.if_icmp .ge 10, 3) := by decide +kernel
theorem dX12_valueFrom_90 : decode cX12_valueFrom 90 = .ok (.iload 7, 2) := by decide +kernel
theorem dX12_valueFrom_92 : decode cX12_valueFrom 92 = .ok (.istore_n 3, 1) := by decide +kernel
theorem dX12_valueFrom_93 : decode cX12_valueFrom 93 = .ok (.iload 5, 2) := by decide +kernel
theorem dX12_valueFrom_95 : decode cX12_valueFrom 95 = .ok (.istore 4, 2) := by decide +kernel
theorem dX12_valueFrom_97 : decode cX12_valueFrom 97 = .ok (.iinc 5 1, 3) := by decide +kernel
theorem dX12_valueFrom_100 : decode cX12_valueFrom 100 = .ok (.goto (-73), 3) := by decide +kernel
theorem dX12_valueFrom_103 : decode cX12_valueFrom 103 = .ok (.aload_n 0, 1) := by decide +kernel
theorem dX12_valueFrom_104 : decode cX12_valueFrom 104 = .ok (.iload 4, 2) := by decide +kernel
theorem dX12_valueFrom_106 : decode cX12_valueFrom 106 = .ok (.putfield 308, 3) := by decide +kernel
theorem dX12_valueFrom_109 : decode cX12_valueFrom 109 = .ok (.iload_n 3, 1) := by decide +kernel
theorem dX12_valueFrom_110 : decode cX12_valueFrom 110 = .ok (.ireturn, 1) := by decide +kernel
theorem dX12_game_0 : decode cX12_game 0 = .ok (.iload_n 1, 1) := by decide +kernel
theorem dX12_game_1 : decode cX12_game 1 = .ok (.i2l, 1) := by decide +kernel
theorem dX12_game_2 : decode cX12_game 2 = .ok (.lconst 1, 1) := by decide +kernel
theorem dX12_game_3 : decode cX12_game 3 = .ok (.ldc2_w 126, 3) := by decide +kernel
theorem dX12_game_6 : decode cX12_game 6 = .ok (.invokestatic 66, 3) := by decide +kernel
theorem dX12_game_9 : decode cX12_game 9 = .ok (.ifCond .eq 12, 3) := by decide +kernel
theorem dX12_game_12 : decode cX12_game 12 = .ok (.aload_n 0, 1) := by decide +kernel
theorem dX12_game_13 : decode cX12_game 13 = .ok (.iconst 0, 1) := by decide +kernel
theorem dX12_game_14 : decode cX12_game 14 = .ok (.iload_n 1, 1) := by decide +kernel
theorem dX12_game_15 : decode cX12_game 15 = .ok (.invokevirtual 305, 3) := by decide +kernel
theorem dX12_game_18 : decode cX12_game 18 = .ok (.goto 4, 3) := by decide +kernel
theorem dX12_game_21 : decode cX12_game 21 = .ok (.iconst (-1), 1) := by decide +kernel
theorem dX12_game_22 : decode cX12_game 22 = .ok (.ireturn, 1) := by decide +kernel
theorem dX12_play_0 : decode cX12_play 0 = .ok (.iload_n 1, 1) := by decide +kernel
theorem dX12_play_1 : decode cX12_play 1 = .ok (.i2l, 1) := by decide +kernel
theorem dX12_play_2 : decode cX12_play 2 = .ok (.lconst 1, 1) := by decide +kernel
theorem dX12_play_3 : decode cX12_play 3 = .ok (.ldc2_w 126, 3) := by decide +kernel
theorem dX12_play_6 : decode cX12_play 6 = .ok (.invokestatic 66, 3) := by decide +kernel
theorem dX12_play_9 : decode cX12_play 9 = .ok (.ifCond .ne 5, 3) := by decide +kernel
theorem dX12_play_12 : decode cX12_play 12 = .ok (.iconst (-1), 1) := by decide +kernel
theorem dX12_play_13 : decode cX12_play 13 = .ok (.ireturn, 1) := by decide +kernel
theorem dX12_play_14 : decode cX12_play 14 = .ok (.aload_n 0, 1) := by decide +kernel
theorem dX12_play_15 : decode cX12_play 15 = .ok (.invokevirtual 133, 3) := by decide +kernel
theorem dX12_play_18 : decode cX12_play 18 = .ok (.ifCond .eq 6, 3) := by decide +kernel
theorem dX12_play_21 : decode cX12_play 21 = .ok (.bipush (-3), 2) := by decide +kernel
theorem dX12_play_23 : decode cX12_play 23 = .ok (.ireturn, 1) := by decide +kernel
theorem dX12_play_24 : decode cX12_play 24 = .ok (.aload_n 0, 1) := by decide +kernel
theorem dX12_play_25 : decode cX12_play 25 = .ok (.iconst 0, 1) := by decide +kernel
theorem dX12_play_26 : decode cX12_play 26 = .ok (.iload_n 1, 1) := by decide +kernel
theorem dX12_play_27 : decode cX12_play 27 = .ok (.invokevirtual 305, 3) := by decide +kernel
theorem dX12_play_30 : decode cX12_play 30 = .ok (.istore_n 2, 1) := by decide +kernel
theorem dX12_play_31 : decode cX12_play 31 = .ok (.aload_n 0, 1) := by decide +kernel
theorem dX12_play_32 : decode cX12_play 32 = .ok (.getfield 308, 3) := by decide +kernel
theorem dX12_play_35 : decode cX12_play 35 = .ok (.ireturn, 1) := by decide +kernel
theorem dX12_report_0 : decode cX12_report 0 = .ok (.iload_n 1, 1) := by decide +kernel
theorem dX12_report_1 : decode cX12_report 1 = .ok (.i2l, 1) := by decide +kernel
theorem dX12_report_2 : decode cX12_report 2 = .ok (.lconst 1, 1) := by decide +kernel
theorem dX12_report_3 : decode cX12_report 3 = .ok (.ldc2_w 64, 3) := by decide +kernel
theorem dX12_report_6 : decode cX12_report 6 = .ok (.invokestatic 66, 3) := by decide +kernel
theorem dX12_report_9 : decode cX12_report 9 = .ok (.ifCond .eq 43, 3) := by decide +kernel
theorem dX12_report_12 : decode cX12_report 12 = .ok (.iload_n 2, 1) := by decide +kernel
theorem dX12_report_13 : decode cX12_report 13 = .ok (.i2l, 1) := by decide +kernel
theorem dX12_report_14 : decode cX12_report 14 = .ok (.lconst 0, 1) := by decide +kernel
theorem dX12_report_15 : decode cX12_report 15 = .ok (.ldc2_w 72, 3) := by decide +kernel
theorem dX12_report_18 : decode cX12_report 18 = .ok (.invokestatic 66, 3) := by decide +kernel
theorem dX12_report_21 : decode cX12_report 21 = .ok (.ifCond .eq 31, 3) := by decide +kernel
theorem dX12_report_24 : decode cX12_report 24 = .ok (.iload_n 3, 1) := by decide +kernel
theorem dX12_report_25 : decode cX12_report 25 = .ok (.i2l, 1) := by decide +kernel
theorem dX12_report_26 : decode cX12_report 26 = .ok (.ldc2_w 311, 3) := by decide +kernel
theorem dX12_report_29 : decode cX12_report 29 = .ok (.ldc2_w 313, 3) := by decide +kernel
theorem dX12_report_32 : decode cX12_report 32 = .ok (.invokestatic 66, 3) := by decide +kernel
theorem dX12_report_35 : decode cX12_report 35 = .ok (.ifCond .eq 17, 3) := by decide +kernel
theorem dX12_report_38 : decode cX12_report 38 = .ok (.iload 4, 2) := by decide +kernel
theorem dX12_report_40 : decode cX12_report 40 = .ok (.i2l, 1) := by decide +kernel
theorem dX12_report_41 : decode cX12_report 41 = .ok (.iload_n 3, 1) := by decide +kernel
theorem dX12_report_42 : decode cX12_report 42 = .ok (.i2l, 1) := by decide +kernel
theorem dX12_report_43 : decode cX12_report 43 = .ok (.ldc2_w 313, 3) := by decide +kernel
theorem dX12_report_46 : decode cX12_report 46 = .ok (.invokestatic 66, 3) := by decide +kernel
theorem dX12_report_49 : decode cX12_report 49 = .ok (.ifCond .ne 5, 3) := by decide +kernel
theorem dX12_report_52 : decode cX12_report 52 = .ok (.iconst (-1), 1) := by decide +kernel
theorem dX12_report_53 : decode cX12_report 53 = .ok (.ireturn, 1) := by decide +kernel
theorem dX12_report_54 : decode cX12_report 54 = .ok (.aload_n 0, 1) := by decide +kernel
theorem dX12_report_55 : decode cX12_report 55 = .ok (.getfield 7, 3) := by decide +kernel
theorem dX12_report_58 : decode cX12_report 58 = .ok (.bipush 6, 2) := by decide +kernel
theorem dX12_report_60 : decode cX12_report 60 = .ok (.iaload, 1) := by decide +kernel
theorem dX12_report_61 : decode cX12_report 61 = .ok (.bipush 6, 2) := by decide +kernel
theorem dX12_report_63 : decode cX12_report 63 = .ok (.if_icmp .ne 6, 3) := by decide +kernel
theorem dX12_report_66 : decode cX12_report 66 = .ok (.bipush (-2), 2) := by decide +kernel
theorem dX12_report_68 : decode cX12_report 68 = .ok (.ireturn, 1) := by decide +kernel
theorem dX12_report_69 : decode cX12_report 69 = .ok (.bipush 70, 2) := by decide +kernel
theorem dX12_report_71 : decode cX12_report 71 = .ok (.iconst 4, 1) := by decide +kernel
theorem dX12_report_72 : decode cX12_report 72 = .ok (.aload_n 0, 1) := by decide +kernel
theorem dX12_report_73 : decode cX12_report 73 = .ok (.getfield 7, 3) := by decide +kernel
theorem dX12_report_76 : decode cX12_report 76 = .ok (.bipush 6, 2) := by decide +kernel
theorem dX12_report_78 : decode cX12_report 78 = .ok (.iaload, 1) := by decide +kernel
theorem dX12_report_79 : decode cX12_report 79 = .ok (.imul, 1) := by decide +kernel
theorem dX12_report_80 : decode cX12_report 80 = .ok (.iadd, 1) := by decide +kernel
theorem dX12_report_81 : decode cX12_report 81 = .ok (.istore 5, 2) := by decide +kernel
theorem dX12_report_83 : decode cX12_report 83 = .ok (.aload_n 0, 1) := by decide +kernel
theorem dX12_report_84 : decode cX12_report 84 = .ok (.getfield 7, 3) := by decide +kernel
theorem dX12_report_87 : decode cX12_report 87 = .ok (.iload 5, 2) := by decide +kernel
theorem dX12_report_89 : decode cX12_report 89 = .ok (.iload_n 1, 1) := by decide +kernel
theorem dX12_report_90 : decode cX12_report 90 = .ok (.iastore, 1) := by decide +kernel
theorem dX12_report_91 : decode cX12_report 91 = .ok (.aload_n 0, 1) := by decide +kernel
theorem dX12_report_92 : decode cX12_report 92 = .ok (.getfield 7, 3) := by decide +kernel
theorem dX12_report_95 : decode cX12_report 95 = .ok (.iload 5, 2) := by decide +kernel
theorem dX12_report_97 : decode cX12_report 97 = .ok (.iconst 1, 1) := by decide +kernel
theorem dX12_report_98 : decode cX12_report 98 = .ok (.iadd, 1) := by decide +kernel
theorem dX12_report_99 : decode cX12_report 99 = .ok (.iload_n 2, 1) := by decide +kernel
theorem dX12_report_100 : decode cX12_report 100 = .ok (.iastore, 1) := by decide +kernel
theorem dX12_report_101 : decode cX12_report 101 = .ok (.aload_n 0, 1) := by decide +kernel
theorem dX12_report_102 : decode cX12_report 102 = .ok (.getfield 7, 3) := by decide +kernel
theorem dX12_report_105 : decode cX12_report 105 = .ok (.iload 5, 2) := by decide +kernel
theorem dX12_report_107 : decode cX12_report 107 = .ok (.iconst 2, 1) := by decide +kernel
theorem dX12_report_108 : decode cX12_report 108 = .ok (.iadd, 1) := by decide +kernel
theorem dX12_report_109 : decode cX12_report 109 = .ok (.iload_n 3, 1) := by decide +kernel
theorem dX12_report_110 : decode cX12_report 110 = .ok (.iastore, 1) := by decide +kernel
theorem dX12_report_111 : decode cX12_report 111 = .ok (.aload_n 0, 1) := by decide +kernel
theorem dX12_report_112 : decode cX12_report 112 = .ok (.getfield 7, 3) := by decide +kernel
theorem dX12_report_115 : decode cX12_report 115 = .ok (.iload 5, 2) := by decide +kernel
theorem dX12_report_117 : decode cX12_report 117 = .ok (.iconst 3, 1) := by decide +kernel
theorem dX12_report_118 : decode cX12_report 118 = .ok (.iadd, 1) := by decide +kernel
theorem dX12_report_119 : decode cX12_report 119 = .ok (.iload 4, 2) := by decide +kernel
theorem dX12_report_121 : decode cX12_report 121 = .ok (.iastore, 1) := by decide +kernel
theorem dX12_report_122 : decode cX12_report 122 = .ok (.aload_n 0, 1) := by decide +kernel
theorem dX12_report_123 : decode cX12_report 123 = .ok (.getfield 7, 3) := by decide +kernel
theorem dX12_report_126 : decode cX12_report 126 = .ok (.bipush 6, 2) := by decide +kernel
theorem dX12_report_128 : decode cX12_report 128 = .ok (.dup2, 1) := by decide +kernel
theorem dX12_report_129 : decode cX12_report 129 = .ok (.iaload, 1) := by decide +kernel
theorem dX12_report_130 : decode cX12_report 130 = .ok (.iconst 1, 1) := by decide +kernel
theorem dX12_report_131 : decode cX12_report 131 = .ok (.iadd, 1) := by decide +kernel
theorem dX12_report_132 : decode cX12_report 132 = .ok (.iastore, 1) := by decide +kernel
theorem dX12_report_133 : decode cX12_report 133 = .ok (.aload_n 0, 1) := by decide +kernel
theorem dX12_report_134 : decode cX12_report 134 = .ok (.getfield 7, 3) := by decide +kernel
theorem dX12_report_137 : decode cX12_report 137 = .ok (.bipush 6, 2) := by decide +kernel
theorem dX12_report_139 : decode cX12_report 139 = .ok (.iaload, 1) := by decide +kernel
theorem dX12_report_140 : decode cX12_report 140 = .ok (.iconst 1, 1) := by decide +kernel
theorem dX12_report_141 : decode cX12_report 141 = .ok (.isub, 1) := by decide +kernel
theorem dX12_report_142 : decode cX12_report 142 = .ok (.ireturn, 1) := by decide +kernel
theorem dX12_forget_0 : decode cX12_forget 0 = .ok (.aload_n 0, 1) := by decide +kernel
theorem dX12_forget_1 : decode cX12_forget 1 = .ok (.bipush 6, 2) := by decide +kernel
theorem dX12_forget_3 : decode cX12_forget 3 = .ok (.iconst 0, 1) := by decide +kernel
theorem dX12_forget_4 : decode cX12_forget 4 = .ok (.invokevirtual 128, 3) := by decide +kernel
theorem dX12_forget_7 : decode cX12_forget 7 = .ok (.ireturn, 1) := by decide +kernel
theorem dX12_isFit_0 : decode cX12_isFit 0 = .ok (.iconst 1, 1) := by decide +kernel
theorem dX12_isFit_1 : decode cX12_isFit 1 = .ok (.istore 4, 2) := by decide +kernel
theorem dX12_isFit_3 : decode cX12_isFit 3 = .ok (.iconst 0, 1) := by decide +kernel
theorem dX12_isFit_4 : decode cX12_isFit 4 = .ok (.istore 5, 2) := by decide +kernel
theorem dX12_isFit_6 : decode cX12_isFit 6 = .ok (.iload 5, 2) := by decide +kernel
theorem dX12_isFit_8 : decode cX12_isFit 8 = .ok (.aload_n 0, 1) := by decide +kernel
theorem dX12_isFit_9 : decode cX12_isFit 9 = .ok (.getfield 7, 3) := by decide +kernel
theorem dX12_isFit_12 : decode cX12_isFit 12 = .ok (.bipush 6, 2) := by decide +kernel
theorem dX12_isFit_14 : decode cX12_isFit 14 = .ok (.iaload, 1) := by decide +kernel
theorem dX12_isFit_15 : decode cX12_isFit 15 = .ok (.if_icmp .ge 84, 3) := by decide +kernel
theorem dX12_isFit_18 : decode cX12_isFit 18 = .ok (.bipush 70, 2) := by decide +kernel
theorem dX12_isFit_20 : decode cX12_isFit 20 = .ok (.iconst 4, 1) := by decide +kernel
theorem dX12_isFit_21 : decode cX12_isFit 21 = .ok (.iload 5, 2) := by decide +kernel
theorem dX12_isFit_23 : decode cX12_isFit 23 = .ok (.imul, 1) := by decide +kernel
theorem dX12_isFit_24 : decode cX12_isFit 24 = .ok (.iadd, 1) := by decide +kernel
theorem dX12_isFit_25 : decode cX12_isFit 25 = .ok (.istore 6, 2) := by decide +kernel
theorem dX12_isFit_27 : decode cX12_isFit 27 = .ok (.iload 4, 2) := by decide +kernel
theorem dX12_isFit_29 : decode cX12_isFit 29 = .ok (.iload 5, 2) := by decide +kernel
theorem dX12_isFit_31 : decode cX12_isFit 31 = .ok (.iload_n 3, 1) := by decide +kernel
theorem dX12_isFit_32 : decode cX12_isFit 32 = .ok (.if_icmp .eq 53, 3) := by decide +kernel
theorem dX12_isFit_35 : decode cX12_isFit 35 = .ok (.aload_n 0, 1) := by decide +kernel
theorem dX12_isFit_36 : decode cX12_isFit 36 = .ok (.getfield 7, 3) := by decide +kernel
theorem dX12_isFit_39 : decode cX12_isFit 39 = .ok (.iload 6, 2) := by decide +kernel
theorem dX12_isFit_41 : decode cX12_isFit 41 = .ok (.iaload, 1) := by decide +kernel
theorem dX12_isFit_42 : decode cX12_isFit 42 = .ok (.iconst 5, 1) := by decide +kernel
theorem dX12_isFit_43 : decode cX12_isFit 43 = .ok (.aload_n 0, 1) := by decide +kernel
theorem dX12_isFit_44 : decode cX12_isFit 44 = .ok (.getfield 7, 3) := by decide +kernel
theorem dX12_isFit_47 : decode cX12_isFit 47 = .ok (.iload 6, 2) := by decide +kernel
theorem dX12_isFit_49 : decode cX12_isFit 49 = .ok (.iconst 1, 1) := by decide +kernel
theorem dX12_isFit_50 : decode cX12_isFit 50 = .ok (.iadd, 1) := by decide +kernel
theorem dX12_isFit_51 : decode cX12_isFit 51 = .ok (.iaload, 1) := by decide +kernel
theorem dX12_isFit_52 : decode cX12_isFit 52 = .ok (.iload_n 2, 1) := by decide +kernel
theorem dX12_isFit_53 : decode cX12_isFit 53 = .ok (.iload_n 1, 1) := by decide +kernel
theorem dX12_isFit_54 : decode cX12_isFit 54 = .ok (.iconst 0, 1) := by decide +kernel
theorem dX12_isFit_55 : decode cX12_isFit 55 = .ok (.invokestatic 81, 3) := by decide +kernel
theorem dX12_isFit_58 : decode cX12_isFit 58 = .ok (.i2l, 1) := by decide +kernel
theorem dX12_isFit_59 : decode cX12_isFit 59 = .ok (.aload_n 0, 1) := by decide +kernel
theorem dX12_isFit_60 : decode cX12_isFit 60 = .ok (.getfield 7, 3) := by decide +kernel
theorem dX12_isFit_63 : decode cX12_isFit 63 = .ok (.iload 6, 2) := by decide +kernel
theorem dX12_isFit_65 : decode cX12_isFit 65 = .ok (.iconst 2, 1) := by decide +kernel
theorem dX12_isFit_66 : decode cX12_isFit 66 = .ok (.iadd, 1) := by decide +kernel
theorem dX12_isFit_67 : decode cX12_isFit 67 = .ok (.iaload, 1) := by decide +kernel
theorem dX12_isFit_68 : decode cX12_isFit 68 = .ok (.i2l, 1) := by decide +kernel
theorem dX12_isFit_69 : decode cX12_isFit 69 = .ok (.aload_n 0, 1) := by decide +kernel
theorem dX12_isFit_70 : decode cX12_isFit 70 = .ok (.getfield 7, 3) := by decide +kernel
theorem dX12_isFit_73 : decode cX12_isFit 73 = .ok (.iload 6, 2) := by decide +kernel
theorem dX12_isFit_75 : decode cX12_isFit 75 = .ok (.iconst 3, 1) := by decide +kernel
theorem dX12_isFit_76 : decode cX12_isFit 76 = .ok (.iadd, 1) := by decide +kernel
theorem dX12_isFit_77 : decode cX12_isFit 77 = .ok (.iaload, 1) := by decide +kernel
theorem dX12_isFit_78 : decode cX12_isFit 78 = .ok (.i2l, 1) := by decide +kernel
theorem dX12_isFit_79 : decode cX12_isFit 79 = .ok (.invokestatic 66, 3) := by decide +kernel
theorem dX12_isFit_82 : decode cX12_isFit 82 = .ok (.ifCond .eq 7, 3) := by decide +kernel
theorem dX12_isFit_85 : decode cX12_isFit 85 = .ok (.iconst 1, 1) := by decide +kernel
theorem dX12_isFit_86 : decode cX12_isFit 86 = .ok (.goto 4, 3) := by decide +kernel
theorem dX12_isFit_89 : decode cX12_isFit 89 = .ok (.iconst 0, 1) := by decide +kernel
theorem dX12_isFit_90 : decode cX12_isFit 90 = .ok (.iand, 1) := by decide +kernel
theorem dX12_isFit_91 : decode cX12_isFit 91 = .ok (.istore 4, 2) := by decide +kernel
theorem dX12_isFit_93 : decode cX12_isFit 93 = .ok (.iinc 5 1, 3) := by decide +kernel
theorem dX12_isFit_96 : decode cX12_isFit 96 = .ok (.goto (-90), 3) := by decide +kernel
theorem dX12_isFit_99 : decode cX12_isFit 99 = .ok (.iload 4, 2) := by decide +kernel
theorem dX12_isFit_101 : decode cX12_isFit 101 = .ok (.ireturn, 1) := by decide +kernel
theorem dX12_findsFits_0 : decode cX12_findsFits 0 = .ok (.aload_n 0, 1) := by decide +kernel
theorem dX12_findsFits_1 : decode cX12_findsFits 1 = .ok (.iconst 0, 1) := by decide +kernel
theorem dX12_findsFits_2 : decode cX12_findsFits 2 = .ok (.putfield 315, 3) := by decide +kernel
theorem dX12_findsFits_5 : decode cX12_findsFits 5 = .ok (.aload_n 0, 1) := by decide +kernel
theorem dX12_findsFits_6 : decode cX12_findsFits 6 = .ok (.bipush (-3), 2) := by decide +kernel
theorem dX12_findsFits_8 : decode cX12_findsFits 8 = .ok (.putfield 318, 3) := by decide +kernel
theorem dX12_findsFits_11 : decode cX12_findsFits 11 = .ok (.iconst 0, 1) := by decide +kernel
theorem dX12_findsFits_12 : decode cX12_findsFits 12 = .ok (.istore_n 2, 1) := by decide +kernel
theorem dX12_findsFits_13 : decode cX12_findsFits 13 = .ok (.iload_n 2, 1) := by decide +kernel
theorem dX12_findsFits_14 : decode cX12_findsFits 14 = .ok (.sipush 160, 3) := by decide +kernel
theorem dX12_findsFits_17 : decode cX12_findsFits 17 = .ok (.if_icmp .ge 54, 3) := by decide +kernel
theorem dX12_findsFits_20 : decode cX12_findsFits 20 = .ok (.aload_n 0, 1) := by decide +kernel
theorem dX12_findsFits_21 : decode cX12_findsFits 21 = .ok (.iload_n 2, 1) := by decide +kernel
theorem dX12_findsFits_22 : decode cX12_findsFits 22 = .ok (.bipush 10, 2) := by decide +kernel
theorem dX12_findsFits_24 : decode cX12_findsFits 24 = .ok (.idiv, 1) := by decide +kernel
theorem dX12_findsFits_25 : decode cX12_findsFits 25 = .ok (.iload_n 2, 1) := by decide +kernel
theorem dX12_findsFits_26 : decode cX12_findsFits 26 = .ok (.bipush 10, 2) := by decide +kernel
theorem dX12_findsFits_28 : decode cX12_findsFits 28 = .ok (.irem, 1) := by decide +kernel
theorem dX12_findsFits_29 : decode cX12_findsFits 29 = .ok (.iload_n 1, 1) := by decide +kernel
theorem dX12_findsFits_30 : decode cX12_findsFits 30 = .ok (.invokevirtual 321, 3) := by decide +kernel
theorem dX12_findsFits_33 : decode cX12_findsFits 33 = .ok (.ifCond .eq 32, 3) := by decide +kernel
theorem dX12_findsFits_36 : decode cX12_findsFits 36 = .ok (.aload_n 0, 1) := by decide +kernel
theorem dX12_findsFits_37 : decode cX12_findsFits 37 = .ok (.aload_n 0, 1) := by decide +kernel
theorem dX12_findsFits_38 : decode cX12_findsFits 38 = .ok (.getfield 315, 3) := by decide +kernel
theorem dX12_findsFits_41 : decode cX12_findsFits 41 = .ok (.ifCond .ne 7, 3) := by decide +kernel
theorem dX12_findsFits_44 : decode cX12_findsFits 44 = .ok (.iload_n 2, 1) := by decide +kernel
theorem dX12_findsFits_45 : decode cX12_findsFits 45 = .ok (.goto 7, 3) := by decide +kernel
theorem dX12_findsFits_48 : decode cX12_findsFits 48 = .ok (.aload_n 0, 1) := by decide +kernel
theorem dX12_findsFits_49 : decode cX12_findsFits 49 = .ok (.getfield 318, 3) := by decide +kernel
theorem dX12_findsFits_52 : decode cX12_findsFits 52 = .ok (.putfield 318, 3) := by decide +kernel
theorem dX12_findsFits_55 : decode cX12_findsFits 55 = .ok (.aload_n 0, 1) := by decide +kernel
theorem dX12_findsFits_56 : decode cX12_findsFits 56 = .ok (.dup, 1) := by decide +kernel
theorem dX12_findsFits_57 : decode cX12_findsFits 57 = .ok (.getfield 315, 3) := by decide +kernel
theorem dX12_findsFits_60 : decode cX12_findsFits 60 = .ok (.iconst 1, 1) := by decide +kernel
theorem dX12_findsFits_61 : decode cX12_findsFits 61 = .ok (.iadd, 1) := by decide +kernel
theorem dX12_findsFits_62 : decode cX12_findsFits 62 = .ok (.putfield 315, 3) := by decide +kernel
theorem dX12_findsFits_65 : decode cX12_findsFits 65 = .ok (.iinc 2 1, 3) := by decide +kernel
theorem dX12_findsFits_68 : decode cX12_findsFits 68 = .ok (.goto (-55), 3) := by decide +kernel
theorem dX12_findsFits_71 : decode cX12_findsFits 71 = .ok (.return_, 1) := by decide +kernel
theorem dX12_span_0 : decode cX12_span 0 = .ok (.iload_n 1, 1) := by decide +kernel
theorem dX12_span_1 : decode cX12_span 1 = .ok (.i2l, 1) := by decide +kernel
theorem dX12_span_2 : decode cX12_span 2 = .ok (.lconst 0, 1) := by decide +kernel
theorem dX12_span_3 : decode cX12_span 3 = .ok (.ldc2_w 88, 3) := by decide +kernel
theorem dX12_span_6 : decode cX12_span 6 = .ok (.invokestatic 66, 3) := by decide +kernel
theorem dX12_span_9 : decode cX12_span 9 = .ok (.ifCond .ne 5, 3) := by decide +kernel
theorem dX12_span_12 : decode cX12_span 12 = .ok (.iconst (-1), 1) := by decide +kernel
theorem dX12_span_13 : decode cX12_span 13 = .ok (.ireturn, 1) := by decide +kernel
theorem dX12_span_14 : decode cX12_span 14 = .ok (.aload_n 0, 1) := by decide +kernel
theorem dX12_span_15 : decode cX12_span 15 = .ok (.iconst (-1), 1) := by decide +kernel
theorem dX12_span_16 : decode cX12_span 16 = .ok (.invokevirtual 325, 3) := by decide +kernel
theorem dX12_span_19 : decode cX12_span 19 = .ok (.iload_n 1, 1) := by decide +kernel
theorem dX12_span_20 : decode cX12_span 20 = .ok (.ifCond .ne 10, 3) := by decide +kernel
theorem dX12_span_23 : decode cX12_span 23 = .ok (.aload_n 0, 1) := by decide +kernel
theorem dX12_span_24 : decode cX12_span 24 = .ok (.getfield 315, 3) := by decide +kernel
theorem dX12_span_27 : decode cX12_span 27 = .ok (.goto 37, 3) := by decide +kernel
theorem dX12_span_30 : decode cX12_span 30 = .ok (.aload_n 0, 1) := by decide +kernel
theorem dX12_span_31 : decode cX12_span 31 = .ok (.getfield 315, 3) := by decide +kernel
theorem dX12_span_34 : decode cX12_span 34 = .ok (.ifCond .ne 8, 3) := by decide +kernel
theorem dX12_span_37 : decode cX12_span 37 = .ok (.bipush (-3), 2) := by decide +kernel
theorem dX12_span_39 : decode cX12_span 39 = .ok (.goto 25, 3) := by decide +kernel
theorem dX12_span_42 : decode cX12_span 42 = .ok (.iload_n 1, 1) := by decide +kernel
theorem dX12_span_43 : decode cX12_span 43 = .ok (.iconst 1, 1) := by decide +kernel
theorem dX12_span_44 : decode cX12_span 44 = .ok (.if_icmp .ne 13, 3) := by decide +kernel
theorem dX12_span_47 : decode cX12_span 47 = .ok (.aload_n 0, 1) := by decide +kernel
theorem dX12_span_48 : decode cX12_span 48 = .ok (.getfield 318, 3) := by decide +kernel
theorem dX12_span_51 : decode cX12_span 51 = .ok (.bipush 10, 2) := by decide +kernel
theorem dX12_span_53 : decode cX12_span 53 = .ok (.idiv, 1) := by decide +kernel
theorem dX12_span_54 : decode cX12_span 54 = .ok (.goto 10, 3) := by decide +kernel
theorem dX12_span_57 : decode cX12_span 57 = .ok (.aload_n 0, 1) := by decide +kernel
theorem dX12_span_58 : decode cX12_span 58 = .ok (.getfield 318, 3) := by decide +kernel
theorem dX12_span_61 : decode cX12_span 61 = .ok (.bipush 10, 2) := by decide +kernel
theorem dX12_span_63 : decode cX12_span 63 = .ok (.irem, 1) := by decide +kernel
theorem dX12_span_64 : decode cX12_span 64 = .ok (.ireturn, 1) := by decide +kernel
theorem dX12_liar_0 : decode cX12_liar 0 = .ok (.aload_n 0, 1) := by decide +kernel
theorem dX12_liar_1 : decode cX12_liar 1 = .ok (.iconst (-1), 1) := by decide +kernel
theorem dX12_liar_2 : decode cX12_liar 2 = .ok (.invokevirtual 325, 3) := by decide +kernel
theorem dX12_liar_5 : decode cX12_liar 5 = .ok (.bipush (-3), 2) := by decide +kernel
theorem dX12_liar_7 : decode cX12_liar 7 = .ok (.istore_n 1, 1) := by decide +kernel
theorem dX12_liar_8 : decode cX12_liar 8 = .ok (.aload_n 0, 1) := by decide +kernel
theorem dX12_liar_9 : decode cX12_liar 9 = .ok (.getfield 315, 3) := by decide +kernel
theorem dX12_liar_12 : decode cX12_liar 12 = .ok (.ifCond .ne 7, 3) := by decide +kernel
theorem dX12_liar_15 : decode cX12_liar 15 = .ok (.iconst 1, 1) := by decide +kernel
theorem dX12_liar_16 : decode cX12_liar 16 = .ok (.goto 4, 3) := by decide +kernel
theorem dX12_liar_19 : decode cX12_liar 19 = .ok (.iconst 0, 1) := by decide +kernel
theorem dX12_liar_20 : decode cX12_liar 20 = .ok (.istore_n 2, 1) := by decide +kernel
theorem dX12_liar_21 : decode cX12_liar 21 = .ok (.iconst 0, 1) := by decide +kernel
theorem dX12_liar_22 : decode cX12_liar 22 = .ok (.istore_n 3, 1) := by decide +kernel
theorem dX12_liar_23 : decode cX12_liar 23 = .ok (.iload_n 3, 1) := by decide +kernel
theorem dX12_liar_24 : decode cX12_liar 24 = .ok (.aload_n 0, 1) := by decide +kernel
theorem dX12_liar_25 : decode cX12_liar 25 = .ok (.getfield 7, 3) := by decide +kernel
theorem dX12_liar_28 : decode cX12_liar 28 = .ok (.bipush 6, 2) := by decide +kernel
theorem dX12_liar_30 : decode cX12_liar 30 = .ok (.iaload, 1) := by decide +kernel
theorem dX12_liar_31 : decode cX12_liar 31 = .ok (.if_icmp .ge 36, 3) := by decide +kernel
theorem dX12_liar_34 : decode cX12_liar 34 = .ok (.iload_n 2, 1) := by decide +kernel
theorem dX12_liar_35 : decode cX12_liar 35 = .ok (.ifCond .eq 32, 3) := by decide +kernel
theorem dX12_liar_38 : decode cX12_liar 38 = .ok (.iload_n 1, 1) := by decide +kernel
theorem dX12_liar_39 : decode cX12_liar 39 = .ok (.ifCond .ge 28, 3) := by decide +kernel
theorem dX12_liar_42 : decode cX12_liar 42 = .ok (.aload_n 0, 1) := by decide +kernel
theorem dX12_liar_43 : decode cX12_liar 43 = .ok (.iload_n 3, 1) := by decide +kernel
theorem dX12_liar_44 : decode cX12_liar 44 = .ok (.invokevirtual 325, 3) := by decide +kernel
theorem dX12_liar_47 : decode cX12_liar 47 = .ok (.aload_n 0, 1) := by decide +kernel
theorem dX12_liar_48 : decode cX12_liar 48 = .ok (.getfield 315, 3) := by decide +kernel
theorem dX12_liar_51 : decode cX12_liar 51 = .ok (.ifCond .le 7, 3) := by decide +kernel
theorem dX12_liar_54 : decode cX12_liar 54 = .ok (.iload_n 3, 1) := by decide +kernel
theorem dX12_liar_55 : decode cX12_liar 55 = .ok (.goto 5, 3) := by decide +kernel
theorem dX12_liar_58 : decode cX12_liar 58 = .ok (.bipush (-3), 2) := by decide +kernel
theorem dX12_liar_60 : decode cX12_liar 60 = .ok (.istore_n 1, 1) := by decide +kernel
theorem dX12_liar_61 : decode cX12_liar 61 = .ok (.iinc 3 1, 3) := by decide +kernel
theorem dX12_liar_64 : decode cX12_liar 64 = .ok (.goto (-41), 3) := by decide +kernel
theorem dX12_liar_67 : decode cX12_liar 67 = .ok (.iload_n 1, 1) := by decide +kernel
theorem dX12_liar_68 : decode cX12_liar 68 = .ok (.ireturn, 1) := by decide +kernel
theorem dX12_seed_0 : decode cX12_seed 0 = .ok (.aload_n 0, 1) := by decide +kernel
theorem dX12_seed_1 : decode cX12_seed 1 = .ok (.iconst 4, 1) := by decide +kernel
theorem dX12_seed_2 : decode cX12_seed 2 = .ok (.iload_n 1, 1) := by decide +kernel
theorem dX12_seed_3 : decode cX12_seed 3 = .ok (.invokevirtual 128, 3) := by decide +kernel
theorem dX12_seed_6 : decode cX12_seed 6 = .ok (.ireturn, 1) := by decide +kernel
theorem dX12_goesByLot_0 : decode cX12_goesByLot 0 = .ok (.aload_n 0, 1) := by decide +kernel
theorem dX12_goesByLot_1 : decode cX12_goesByLot 1 = .ok (.getfield 7, 3) := by decide +kernel
theorem dX12_goesByLot_4 : decode cX12_goesByLot 4 = .ok (.iconst 4, 1) := by decide +kernel
theorem dX12_goesByLot_5 : decode cX12_goesByLot 5 = .ok (.aload_n 0, 1) := by decide +kernel
theorem dX12_goesByLot_6 : decode cX12_goesByLot 6 = .ok (.getfield 7, 3) := by decide +kernel
theorem dX12_goesByLot_9 : decode cX12_goesByLot 9 = .ok (.iconst 4, 1) := by decide +kernel
theorem dX12_goesByLot_10 : decode cX12_goesByLot 10 = .ok (.iaload, 1) := by decide +kernel
theorem dX12_goesByLot_11 : decode cX12_goesByLot 11 = .ok (.ldc_w 328, 3) := by decide +kernel
theorem dX12_goesByLot_14 : decode cX12_goesByLot 14 = .ok (.imul, 1) := by decide +kernel
theorem dX12_goesByLot_15 : decode cX12_goesByLot 15 = .ok (.sipush 12345, 3) := by decide +kernel
theorem dX12_goesByLot_18 : decode cX12_goesByLot 18 = .ok (.iadd, 1) := by decide +kernel
theorem dX12_goesByLot_19 : decode cX12_goesByLot 19 = .ok (.iastore, 1) := by decide +kernel
theorem dX12_goesByLot_20 : decode cX12_goesByLot 20 = .ok (.aload_n 0, 1) := by decide +kernel
theorem dX12_goesByLot_21 : decode cX12_goesByLot 21 = .ok (.aload_n 0, 1) := by decide +kernel
theorem dX12_goesByLot_22 : decode cX12_goesByLot 22 = .ok (.getfield 7, 3) := by decide +kernel
theorem dX12_goesByLot_25 : decode cX12_goesByLot 25 = .ok (.iconst 4, 1) := by decide +kernel
theorem dX12_goesByLot_26 : decode cX12_goesByLot 26 = .ok (.iaload, 1) := by decide +kernel
theorem dX12_goesByLot_27 : decode cX12_goesByLot 27 = .ok (.bipush 16, 2) := by decide +kernel
theorem dX12_goesByLot_29 : decode cX12_goesByLot 29 = .ok (.iushr, 1) := by decide +kernel
theorem dX12_goesByLot_30 : decode cX12_goesByLot 30 = .ok (.aload_n 0, 1) := by decide +kernel
theorem dX12_goesByLot_31 : decode cX12_goesByLot 31 = .ok (.getfield 7, 3) := by decide +kernel
theorem dX12_goesByLot_34 : decode cX12_goesByLot 34 = .ok (.iconst 0, 1) := by decide +kernel
theorem dX12_goesByLot_35 : decode cX12_goesByLot 35 = .ok (.iaload, 1) := by decide +kernel
theorem dX12_goesByLot_36 : decode cX12_goesByLot 36 = .ok (.iconst 1, 1) := by decide +kernel
theorem dX12_goesByLot_37 : decode cX12_goesByLot 37 = .ok (.iadd, 1) := by decide +kernel
theorem dX12_goesByLot_38 : decode cX12_goesByLot 38 = .ok (.irem, 1) := by decide +kernel
theorem dX12_goesByLot_39 : decode cX12_goesByLot 39 = .ok (.invokevirtual 287, 3) := by decide +kernel
theorem dX12_goesByLot_42 : decode cX12_goesByLot 42 = .ok (.ireturn, 1) := by decide +kernel
theorem dX12_lot_0 : decode cX12_lot 0 = .ok (.aload_n 0, 1) := by decide +kernel
theorem dX12_lot_1 : decode cX12_lot 1 = .ok (.invokevirtual 133, 3) := by decide +kernel
theorem dX12_lot_4 : decode cX12_lot 4 = .ok (.ifCond .eq 8, 3) := by decide +kernel
theorem dX12_lot_7 : decode cX12_lot 7 = .ok (.bipush (-4), 2) := by decide +kernel
theorem dX12_lot_9 : decode cX12_lot 9 = .ok (.goto 7, 3) := by decide +kernel
theorem dX12_lot_12 : decode cX12_lot 12 = .ok (.aload_n 0, 1) := by decide +kernel
theorem dX12_lot_13 : decode cX12_lot 13 = .ok (.invokevirtual 329, 3) := by decide +kernel
theorem dX12_lot_16 : decode cX12_lot 16 = .ok (.ireturn, 1) := by decide +kernel
theorem dX12_times_0 : decode cX12_times 0 = .ok (.iload_n 1, 1) := by decide +kernel
theorem dX12_times_1 : decode cX12_times 1 = .ok (.i2l, 1) := by decide +kernel
theorem dX12_times_2 : decode cX12_times 2 = .ok (.lconst 1, 1) := by decide +kernel
theorem dX12_times_3 : decode cX12_times 3 = .ok (.ldc2_w 332, 3) := by decide +kernel
theorem dX12_times_6 : decode cX12_times 6 = .ok (.invokestatic 66, 3) := by decide +kernel
theorem dX12_times_9 : decode cX12_times 9 = .ok (.ifCond .eq 15, 3) := by decide +kernel
theorem dX12_times_12 : decode cX12_times 12 = .ok (.iload_n 2, 1) := by decide +kernel
theorem dX12_times_13 : decode cX12_times 13 = .ok (.i2l, 1) := by decide +kernel
theorem dX12_times_14 : decode cX12_times 14 = .ok (.lconst 0, 1) := by decide +kernel
theorem dX12_times_15 : decode cX12_times 15 = .ok (.ldc2_w 334, 3) := by decide +kernel
theorem dX12_times_18 : decode cX12_times 18 = .ok (.invokestatic 66, 3) := by decide +kernel
theorem dX12_times_21 : decode cX12_times 21 = .ok (.ifCond .ne 5, 3) := by decide +kernel
theorem dX12_times_24 : decode cX12_times 24 = .ok (.iconst (-1), 1) := by decide +kernel
theorem dX12_times_25 : decode cX12_times 25 = .ok (.ireturn, 1) := by decide +kernel
theorem dX12_times_26 : decode cX12_times 26 = .ok (.aload_n 0, 1) := by decide +kernel
theorem dX12_times_27 : decode cX12_times 27 = .ok (.iconst 0, 1) := by decide +kernel
theorem dX12_times_28 : decode cX12_times 28 = .ok (.invokevirtual 234, 3) := by decide +kernel
theorem dX12_times_31 : decode cX12_times 31 = .ok (.iconst 0, 1) := by decide +kernel
theorem dX12_times_32 : decode cX12_times 32 = .ok (.istore_n 3, 1) := by decide +kernel
theorem dX12_times_33 : decode cX12_times 33 = .ok (.iconst 0, 1) := by decide +kernel
theorem dX12_times_34 : decode cX12_times 34 = .ok (.istore 4, 2) := by decide +kernel
theorem dX12_times_36 : decode cX12_times 36 = .ok (.iload 4, 2) := by decide +kernel
theorem dX12_times_38 : decode cX12_times 38 = .ok (.iload_n 1, 1) := by decide +kernel
theorem dX12_times_39 : decode cX12_times 39 = .ok (.if_icmp .ge 80, 3) := by decide +kernel
theorem dX12_times_42 : decode cX12_times 42 = .ok (.aload_n 0, 1) := by decide +kernel
theorem dX12_times_43 : decode cX12_times 43 = .ok (.getfield 7, 3) := by decide +kernel
theorem dX12_times_46 : decode cX12_times 46 = .ok (.iconst 4, 1) := by decide +kernel
theorem dX12_times_47 : decode cX12_times 47 = .ok (.iaload, 1) := by decide +kernel
theorem dX12_times_48 : decode cX12_times 48 = .ok (.istore 5, 2) := by decide +kernel
theorem dX12_times_50 : decode cX12_times 50 = .ok (.aload_n 0, 1) := by decide +kernel
theorem dX12_times_51 : decode cX12_times 51 = .ok (.iconst 0, 1) := by decide +kernel
theorem dX12_times_52 : decode cX12_times 52 = .ok (.invokevirtual 237, 3) := by decide +kernel
theorem dX12_times_55 : decode cX12_times 55 = .ok (.aload_n 0, 1) := by decide +kernel
theorem dX12_times_56 : decode cX12_times 56 = .ok (.getfield 7, 3) := by decide +kernel
theorem dX12_times_59 : decode cX12_times 59 = .ok (.iconst 4, 1) := by decide +kernel
theorem dX12_times_60 : decode cX12_times 60 = .ok (.iload 4, 2) := by decide +kernel
theorem dX12_times_62 : decode cX12_times 62 = .ok (.ifCond .ne 12, 3) := by decide +kernel
theorem dX12_times_65 : decode cX12_times 65 = .ok (.aload_n 0, 1) := by decide +kernel
theorem dX12_times_66 : decode cX12_times 66 = .ok (.getfield 7, 3) := by decide +kernel
theorem dX12_times_69 : decode cX12_times 69 = .ok (.iconst 4, 1) := by decide +kernel
theorem dX12_times_70 : decode cX12_times 70 = .ok (.iaload, 1) := by decide +kernel
theorem dX12_times_71 : decode cX12_times 71 = .ok (.goto 5, 3) := by decide +kernel
theorem dX12_times_74 : decode cX12_times 74 = .ok (.iload 5, 2) := by decide +kernel
theorem dX12_times_76 : decode cX12_times 76 = .ok (.iastore, 1) := by decide +kernel
theorem dX12_times_77 : decode cX12_times 77 = .ok (.iconst 0, 1) := by decide +kernel
theorem dX12_times_78 : decode cX12_times 78 = .ok (.istore 6, 2) := by decide +kernel
theorem dX12_times_80 : decode cX12_times 80 = .ok (.aload_n 0, 1) := by decide +kernel
theorem dX12_times_81 : decode cX12_times 81 = .ok (.invokevirtual 133, 3) := by decide +kernel
theorem dX12_times_84 : decode cX12_times 84 = .ok (.ifCond .ne 15, 3) := by decide +kernel
theorem dX12_times_87 : decode cX12_times 87 = .ok (.iload 6, 2) := by decide +kernel
theorem dX12_times_89 : decode cX12_times 89 = .ok (.aload_n 0, 1) := by decide +kernel
theorem dX12_times_90 : decode cX12_times 90 = .ok (.invokevirtual 329, 3) := by decide +kernel
theorem dX12_times_93 : decode cX12_times 93 = .ok (.iadd, 1) := by decide +kernel
theorem dX12_times_94 : decode cX12_times 94 = .ok (.istore 6, 2) := by decide +kernel
theorem dX12_times_96 : decode cX12_times 96 = .ok (.goto (-16), 3) := by decide +kernel
theorem dX12_times_99 : decode cX12_times 99 = .ok (.iload_n 3, 1) := by decide +kernel
theorem dX12_times_100 : decode cX12_times 100 = .ok (.iload 6, 2) := by decide +kernel
theorem dX12_times_102 : decode cX12_times 102 = .ok (.iload_n 2, 1) := by decide +kernel
theorem dX12_times_103 : decode cX12_times 103 = .ok (.if_icmp .lt 7, 3) := by decide +kernel
theorem dX12_times_106 : decode cX12_times 106 = .ok (.iconst 1, 1) := by decide +kernel
theorem dX12_times_107 : decode cX12_times 107 = .ok (.goto 4, 3) := by decide +kernel
theorem dX12_times_110 : decode cX12_times 110 = .ok (.iconst 0, 1) := by decide +kernel
theorem dX12_times_111 : decode cX12_times 111 = .ok (.iadd, 1) := by decide +kernel
theorem dX12_times_112 : decode cX12_times 112 = .ok (.istore_n 3, 1) := by decide +kernel
theorem dX12_times_113 : decode cX12_times 113 = .ok (.iinc 4 1, 3) := by decide +kernel
theorem dX12_times_116 : decode cX12_times 116 = .ok (.goto (-80), 3) := by decide +kernel
theorem dX12_times_119 : decode cX12_times 119 = .ok (.aload_n 0, 1) := by decide +kernel
theorem dX12_times_120 : decode cX12_times 120 = .ok (.iconst 0, 1) := by decide +kernel
theorem dX12_times_121 : decode cX12_times 121 = .ok (.invokevirtual 237, 3) := by decide +kernel
theorem dX12_times_124 : decode cX12_times 124 = .ok (.iload_n 3, 1) := by decide +kernel
theorem dX12_times_125 : decode cX12_times 125 = .ok (.ireturn, 1) := by decide +kernel
theorem dX12_prove_0 : decode cX12_prove 0 = .ok (.iload_n 1, 1) := by decide +kernel
theorem dX12_prove_1 : decode cX12_prove 1 = .ok (.invokestatic 293, 3) := by decide +kernel
theorem dX12_prove_4 : decode cX12_prove 4 = .ok (.ifCond .ne 5, 3) := by decide +kernel
theorem dX12_prove_7 : decode cX12_prove 7 = .ok (.iconst (-1), 1) := by decide +kernel
theorem dX12_prove_8 : decode cX12_prove 8 = .ok (.ireturn, 1) := by decide +kernel
theorem dX12_prove_9 : decode cX12_prove 9 = .ok (.aload_n 0, 1) := by decide +kernel
theorem dX12_prove_10 : decode cX12_prove 10 = .ok (.iload_n 1, 1) := by decide +kernel
theorem dX12_prove_11 : decode cX12_prove 11 = .ok (.iconst 0, 1) := by decide +kernel
theorem dX12_prove_12 : decode cX12_prove 12 = .ok (.invokevirtual 296, 3) := by decide +kernel
theorem dX12_prove_15 : decode cX12_prove 15 = .ok (.aload_n 0, 1) := by decide +kernel
theorem dX12_prove_16 : decode cX12_prove 16 = .ok (.iconst 0, 1) := by decide +kernel
theorem dX12_prove_17 : decode cX12_prove 17 = .ok (.invokevirtual 234, 3) := by decide +kernel
theorem dX12_prove_20 : decode cX12_prove 20 = .ok (.iconst 0, 1) := by decide +kernel
theorem dX12_prove_21 : decode cX12_prove 21 = .ok (.istore_n 2, 1) := by decide +kernel
theorem dX12_prove_22 : decode cX12_prove 22 = .ok (.iload_n 2, 1) := by decide +kernel
theorem dX12_prove_23 : decode cX12_prove 23 = .ok (.aload_n 0, 1) := by decide +kernel
theorem dX12_prove_24 : decode cX12_prove 24 = .ok (.getfield 275, 3) := by decide +kernel
theorem dX12_prove_27 : decode cX12_prove 27 = .ok (.if_icmp .ge 57, 3) := by decide +kernel
theorem dX12_prove_30 : decode cX12_prove 30 = .ok (.aload_n 0, 1) := by decide +kernel
theorem dX12_prove_31 : decode cX12_prove 31 = .ok (.getfield 40, 3) := by decide +kernel
theorem dX12_prove_34 : decode cX12_prove 34 = .ok (.iconst 3, 1) := by decide +kernel
theorem dX12_prove_35 : decode cX12_prove 35 = .ok (.iload_n 2, 1) := by decide +kernel
theorem dX12_prove_36 : decode cX12_prove 36 = .ok (.imul, 1) := by decide +kernel
theorem dX12_prove_37 : decode cX12_prove 37 = .ok (.aload_n 0, 1) := by decide +kernel
theorem dX12_prove_38 : decode cX12_prove 38 = .ok (.getfield 37, 3) := by decide +kernel
theorem dX12_prove_41 : decode cX12_prove 41 = .ok (.iload_n 2, 1) := by decide +kernel
theorem dX12_prove_42 : decode cX12_prove 42 = .ok (.iaload, 1) := by decide +kernel
theorem dX12_prove_43 : decode cX12_prove 43 = .ok (.iastore, 1) := by decide +kernel
theorem dX12_prove_44 : decode cX12_prove 44 = .ok (.aload_n 0, 1) := by decide +kernel
theorem dX12_prove_45 : decode cX12_prove 45 = .ok (.getfield 40, 3) := by decide +kernel
theorem dX12_prove_48 : decode cX12_prove 48 = .ok (.iconst 3, 1) := by decide +kernel
theorem dX12_prove_49 : decode cX12_prove 49 = .ok (.iload_n 2, 1) := by decide +kernel
theorem dX12_prove_50 : decode cX12_prove 50 = .ok (.imul, 1) := by decide +kernel
theorem dX12_prove_51 : decode cX12_prove 51 = .ok (.iconst 1, 1) := by decide +kernel
theorem dX12_prove_52 : decode cX12_prove 52 = .ok (.iadd, 1) := by decide +kernel
theorem dX12_prove_53 : decode cX12_prove 53 = .ok (.aload_n 0, 1) := by decide +kernel
theorem dX12_prove_54 : decode cX12_prove 54 = .ok (.aload_n 0, 1) := by decide +kernel
theorem dX12_prove_55 : decode cX12_prove 55 = .ok (.getfield 37, 3) := by decide +kernel
theorem dX12_prove_58 : decode cX12_prove 58 = .ok (.iload_n 2, 1) := by decide +kernel
theorem dX12_prove_59 : decode cX12_prove 59 = .ok (.iaload, 1) := by decide +kernel
theorem dX12_prove_60 : decode cX12_prove 60 = .ok (.invokevirtual 287, 3) := by decide +kernel
theorem dX12_prove_63 : decode cX12_prove 63 = .ok (.iastore, 1) := by decide +kernel
theorem dX12_prove_64 : decode cX12_prove 64 = .ok (.aload_n 0, 1) := by decide +kernel
theorem dX12_prove_65 : decode cX12_prove 65 = .ok (.getfield 40, 3) := by decide +kernel
theorem dX12_prove_68 : decode cX12_prove 68 = .ok (.iconst 3, 1) := by decide +kernel
theorem dX12_prove_69 : decode cX12_prove 69 = .ok (.iload_n 2, 1) := by decide +kernel
theorem dX12_prove_70 : decode cX12_prove 70 = .ok (.imul, 1) := by decide +kernel
theorem dX12_prove_71 : decode cX12_prove 71 = .ok (.iconst 2, 1) := by decide +kernel
theorem dX12_prove_72 : decode cX12_prove 72 = .ok (.iadd, 1) := by decide +kernel
theorem dX12_prove_73 : decode cX12_prove 73 = .ok (.aload_n 0, 1) := by decide +kernel
theorem dX12_prove_74 : decode cX12_prove 74 = .ok (.invokevirtual 137, 3) := by decide +kernel
theorem dX12_prove_77 : decode cX12_prove 77 = .ok (.iastore, 1) := by decide +kernel
theorem dX12_prove_78 : decode cX12_prove 78 = .ok (.iinc 2 1, 3) := by decide +kernel
theorem dX12_prove_81 : decode cX12_prove 81 = .ok (.goto (-59), 3) := by decide +kernel
theorem dX12_prove_84 : decode cX12_prove 84 = .ok (.aload_n 0, 1) := by decide +kernel
theorem dX12_prove_85 : decode cX12_prove 85 = .ok (.iconst 0, 1) := by decide +kernel
theorem dX12_prove_86 : decode cX12_prove 86 = .ok (.invokevirtual 237, 3) := by decide +kernel
theorem dX12_prove_89 : decode cX12_prove 89 = .ok (.aload_n 0, 1) := by decide +kernel
theorem dX12_prove_90 : decode cX12_prove 90 = .ok (.aload_n 0, 1) := by decide +kernel
theorem dX12_prove_91 : decode cX12_prove 91 = .ok (.getfield 275, 3) := by decide +kernel
theorem dX12_prove_94 : decode cX12_prove 94 = .ok (.putfield 336, 3) := by decide +kernel
theorem dX12_prove_97 : decode cX12_prove 97 = .ok (.aload_n 0, 1) := by decide +kernel
theorem dX12_prove_98 : decode cX12_prove 98 = .ok (.getfield 336, 3) := by decide +kernel
theorem dX12_prove_101 : decode cX12_prove 101 = .ok (.ireturn, 1) := by decide +kernel
theorem dX12_isRow_0 : decode cX12_isRow 0 = .ok (.iload_n 1, 1) := by decide +kernel
theorem dX12_isRow_1 : decode cX12_isRow 1 = .ok (.i2l, 1) := by decide +kernel
theorem dX12_isRow_2 : decode cX12_isRow 2 = .ok (.lconst 0, 1) := by decide +kernel
theorem dX12_isRow_3 : decode cX12_isRow 3 = .ok (.aload_n 0, 1) := by decide +kernel
theorem dX12_isRow_4 : decode cX12_isRow 4 = .ok (.getfield 336, 3) := by decide +kernel
theorem dX12_isRow_7 : decode cX12_isRow 7 = .ok (.iconst 1, 1) := by decide +kernel
theorem dX12_isRow_8 : decode cX12_isRow 8 = .ok (.isub, 1) := by decide +kernel
theorem dX12_isRow_9 : decode cX12_isRow 9 = .ok (.i2l, 1) := by decide +kernel
theorem dX12_isRow_10 : decode cX12_isRow 10 = .ok (.invokestatic 66, 3) := by decide +kernel
theorem dX12_isRow_13 : decode cX12_isRow 13 = .ok (.ifCond .eq 19, 3) := by decide +kernel
theorem dX12_isRow_16 : decode cX12_isRow 16 = .ok (.iload_n 2, 1) := by decide +kernel
theorem dX12_isRow_17 : decode cX12_isRow 17 = .ok (.i2l, 1) := by decide +kernel
theorem dX12_isRow_18 : decode cX12_isRow 18 = .ok (.lconst 0, 1) := by decide +kernel
theorem dX12_isRow_19 : decode cX12_isRow 19 = .ok (.ldc2_w 88, 3) := by decide +kernel
theorem dX12_isRow_22 : decode cX12_isRow 22 = .ok (.invokestatic 66, 3) := by decide +kernel
theorem dX12_isRow_25 : decode cX12_isRow 25 = .ok (.ifCond .eq 7, 3) := by decide +kernel
theorem dX12_isRow_28 : decode cX12_isRow 28 = .ok (.iconst 1, 1) := by decide +kernel
theorem dX12_isRow_29 : decode cX12_isRow 29 = .ok (.goto 4, 3) := by decide +kernel
theorem dX12_isRow_32 : decode cX12_isRow 32 = .ok (.iconst 0, 1) := by decide +kernel
theorem dX12_isRow_33 : decode cX12_isRow 33 = .ok (.ireturn, 1) := by decide +kernel
theorem dX12_row_0 : decode cX12_row 0 = .ok (.aload_n 0, 1) := by decide +kernel
theorem dX12_row_1 : decode cX12_row 1 = .ok (.iload_n 1, 1) := by decide +kernel
theorem dX12_row_2 : decode cX12_row 2 = .ok (.iload_n 2, 1) := by decide +kernel
theorem dX12_row_3 : decode cX12_row 3 = .ok (.invokevirtual 339, 3) := by decide +kernel
theorem dX12_row_6 : decode cX12_row 6 = .ok (.ifCond .eq 16, 3) := by decide +kernel
theorem dX12_row_9 : decode cX12_row 9 = .ok (.aload_n 0, 1) := by decide +kernel
theorem dX12_row_10 : decode cX12_row 10 = .ok (.getfield 40, 3) := by decide +kernel
theorem dX12_row_13 : decode cX12_row 13 = .ok (.iconst 3, 1) := by decide +kernel
theorem dX12_row_14 : decode cX12_row 14 = .ok (.iload_n 1, 1) := by decide +kernel
theorem dX12_row_15 : decode cX12_row 15 = .ok (.imul, 1) := by decide +kernel
theorem dX12_row_16 : decode cX12_row 16 = .ok (.iload_n 2, 1) := by decide +kernel
theorem dX12_row_17 : decode cX12_row 17 = .ok (.iadd, 1) := by decide +kernel
theorem dX12_row_18 : decode cX12_row 18 = .ok (.iaload, 1) := by decide +kernel
theorem dX12_row_19 : decode cX12_row 19 = .ok (.goto 5, 3) := by decide +kernel
theorem dX12_row_22 : decode cX12_row 22 = .ok (.bipush (-9), 2) := by decide +kernel
theorem dX12_row_24 : decode cX12_row 24 = .ok (.ireturn, 1) := by decide +kernel
theorem dX12_alterRow_0 : decode cX12_alterRow 0 = .ok (.aload_n 0, 1) := by decide +kernel
theorem dX12_alterRow_1 : decode cX12_alterRow 1 = .ok (.iload_n 1, 1) := by decide +kernel
theorem dX12_alterRow_2 : decode cX12_alterRow 2 = .ok (.iload_n 2, 1) := by decide +kernel
theorem dX12_alterRow_3 : decode cX12_alterRow 3 = .ok (.invokevirtual 339, 3) := by decide +kernel
theorem dX12_alterRow_6 : decode cX12_alterRow 6 = .ok (.ifCond .ne 6, 3) := by decide +kernel
theorem dX12_alterRow_9 : decode cX12_alterRow 9 = .ok (.bipush (-9), 2) := by decide +kernel
theorem dX12_alterRow_11 : decode cX12_alterRow 11 = .ok (.ireturn, 1) := by decide +kernel
theorem dX12_alterRow_12 : decode cX12_alterRow 12 = .ok (.aload_n 0, 1) := by decide +kernel
theorem dX12_alterRow_13 : decode cX12_alterRow 13 = .ok (.getfield 40, 3) := by decide +kernel
theorem dX12_alterRow_16 : decode cX12_alterRow 16 = .ok (.iconst 3, 1) := by decide +kernel
theorem dX12_alterRow_17 : decode cX12_alterRow 17 = .ok (.iload_n 1, 1) := by decide +kernel
theorem dX12_alterRow_18 : decode cX12_alterRow 18 = .ok (.imul, 1) := by decide +kernel
theorem dX12_alterRow_19 : decode cX12_alterRow 19 = .ok (.iload_n 2, 1) := by decide +kernel
theorem dX12_alterRow_20 : decode cX12_alterRow 20 = .ok (.iadd, 1) := by decide +kernel
theorem dX12_alterRow_21 : decode cX12_alterRow 21 = .ok (.iaload, 1) := by decide +kernel
theorem dX12_alterRow_22 : decode cX12_alterRow 22 = .ok (.istore 4, 2) := by decide +kernel
theorem dX12_alterRow_24 : decode cX12_alterRow 24 = .ok (.aload_n 0, 1) := by decide +kernel
theorem dX12_alterRow_25 : decode cX12_alterRow 25 = .ok (.getfield 40, 3) := by decide +kernel
theorem dX12_alterRow_28 : decode cX12_alterRow 28 = .ok (.iconst 3, 1) := by decide +kernel
theorem dX12_alterRow_29 : decode cX12_alterRow 29 = .ok (.iload_n 1, 1) := by decide +kernel
theorem dX12_alterRow_30 : decode cX12_alterRow 30 = .ok (.imul, 1) := by decide +kernel
theorem dX12_alterRow_31 : decode cX12_alterRow 31 = .ok (.iload_n 2, 1) := by decide +kernel
theorem dX12_alterRow_32 : decode cX12_alterRow 32 = .ok (.iadd, 1) := by decide +kernel
theorem dX12_alterRow_33 : decode cX12_alterRow 33 = .ok (.iload_n 3, 1) := by decide +kernel
theorem dX12_alterRow_34 : decode cX12_alterRow 34 = .ok (.iastore, 1) := by decide +kernel
theorem dX12_alterRow_35 : decode cX12_alterRow 35 = .ok (.iload 4, 2) := by decide +kernel
theorem dX12_alterRow_37 : decode cX12_alterRow 37 = .ok (.ireturn, 1) := by decide +kernel
theorem dX12_isAct_0 : decode cX12_isAct 0 = .ok (.iload_n 1, 1) := by decide +kernel
theorem dX12_isAct_1 : decode cX12_isAct 1 = .ok (.i2l, 1) := by decide +kernel
theorem dX12_isAct_2 : decode cX12_isAct 2 = .ok (.lconst 0, 1) := by decide +kernel
theorem dX12_isAct_3 : decode cX12_isAct 3 = .ok (.aload_n 0, 1) := by decide +kernel
theorem dX12_isAct_4 : decode cX12_isAct 4 = .ok (.getfield 7, 3) := by decide +kernel
theorem dX12_isAct_7 : decode cX12_isAct 7 = .ok (.iconst 0, 1) := by decide +kernel
theorem dX12_isAct_8 : decode cX12_isAct 8 = .ok (.iaload, 1) := by decide +kernel
theorem dX12_isAct_9 : decode cX12_isAct 9 = .ok (.i2l, 1) := by decide +kernel
theorem dX12_isAct_10 : decode cX12_isAct 10 = .ok (.invokestatic 66, 3) := by decide +kernel
theorem dX12_isAct_13 : decode cX12_isAct 13 = .ok (.ireturn, 1) := by decide +kernel
theorem dX12_judge_0 : decode cX12_judge 0 = .ok (.aload_n 0, 1) := by decide +kernel
theorem dX12_judge_1 : decode cX12_judge 1 = .ok (.iconst 0, 1) := by decide +kernel
theorem dX12_judge_2 : decode cX12_judge 2 = .ok (.invokevirtual 234, 3) := by decide +kernel
theorem dX12_judge_5 : decode cX12_judge 5 = .ok (.iconst 0, 1) := by decide +kernel
theorem dX12_judge_6 : decode cX12_judge 6 = .ok (.istore_n 1, 1) := by decide +kernel
theorem dX12_judge_7 : decode cX12_judge 7 = .ok (.iconst 1, 1) := by decide +kernel
theorem dX12_judge_8 : decode cX12_judge 8 = .ok (.istore_n 2, 1) := by decide +kernel
theorem dX12_judge_9 : decode cX12_judge 9 = .ok (.iload_n 1, 1) := by decide +kernel
theorem dX12_judge_10 : decode cX12_judge 10 = .ok (.aload_n 0, 1) := by decide +kernel
theorem dX12_judge_11 : decode cX12_judge 11 = .ok (.getfield 336, 3) := by decide +kernel
theorem dX12_judge_14 : decode cX12_judge 14 = .ok (.if_icmp .ge 83, 3) := by decide +kernel
theorem dX12_judge_17 : decode cX12_judge 17 = .ok (.iload_n 2, 1) := by decide +kernel
theorem dX12_judge_18 : decode cX12_judge 18 = .ok (.ifCond .eq 79, 3) := by decide +kernel
theorem dX12_judge_21 : decode cX12_judge 21 = .ok (.aload_n 0, 1) := by decide +kernel
theorem dX12_judge_22 : decode cX12_judge 22 = .ok (.aload_n 0, 1) := by decide +kernel
theorem dX12_judge_23 : decode cX12_judge 23 = .ok (.getfield 40, 3) := by decide +kernel
theorem dX12_judge_26 : decode cX12_judge 26 = .ok (.iconst 3, 1) := by decide +kernel
theorem dX12_judge_27 : decode cX12_judge 27 = .ok (.iload_n 1, 1) := by decide +kernel
theorem dX12_judge_28 : decode cX12_judge 28 = .ok (.imul, 1) := by decide +kernel
theorem dX12_judge_29 : decode cX12_judge 29 = .ok (.iaload, 1) := by decide +kernel
theorem dX12_judge_30 : decode cX12_judge 30 = .ok (.invokevirtual 342, 3) := by decide +kernel
theorem dX12_judge_33 : decode cX12_judge 33 = .ok (.ifCond .eq 56, 3) := by decide +kernel
theorem dX12_judge_36 : decode cX12_judge 36 = .ok (.aload_n 0, 1) := by decide +kernel
theorem dX12_judge_37 : decode cX12_judge 37 = .ok (.invokevirtual 133, 3) := by decide +kernel
theorem dX12_judge_40 : decode cX12_judge 40 = .ok (.ifCond .ne 49, 3) := by decide +kernel
theorem dX12_judge_43 : decode cX12_judge 43 = .ok (.aload_n 0, 1) := by decide +kernel
theorem dX12_judge_44 : decode cX12_judge 44 = .ok (.aload_n 0, 1) := by decide +kernel
theorem dX12_judge_45 : decode cX12_judge 45 = .ok (.getfield 40, 3) := by decide +kernel
theorem dX12_judge_48 : decode cX12_judge 48 = .ok (.iconst 3, 1) := by decide +kernel
theorem dX12_judge_49 : decode cX12_judge 49 = .ok (.iload_n 1, 1) := by decide +kernel
theorem dX12_judge_50 : decode cX12_judge 50 = .ok (.imul, 1) := by decide +kernel
theorem dX12_judge_51 : decode cX12_judge 51 = .ok (.iaload, 1) := by decide +kernel
theorem dX12_judge_52 : decode cX12_judge 52 = .ok (.invokevirtual 287, 3) := by decide +kernel
theorem dX12_judge_55 : decode cX12_judge 55 = .ok (.aload_n 0, 1) := by decide +kernel
theorem dX12_judge_56 : decode cX12_judge 56 = .ok (.getfield 40, 3) := by decide +kernel
theorem dX12_judge_59 : decode cX12_judge 59 = .ok (.iconst 3, 1) := by decide +kernel
theorem dX12_judge_60 : decode cX12_judge 60 = .ok (.iload_n 1, 1) := by decide +kernel
theorem dX12_judge_61 : decode cX12_judge 61 = .ok (.imul, 1) := by decide +kernel
theorem dX12_judge_62 : decode cX12_judge 62 = .ok (.iconst 1, 1) := by decide +kernel
theorem dX12_judge_63 : decode cX12_judge 63 = .ok (.iadd, 1) := by decide +kernel
theorem dX12_judge_64 : decode cX12_judge 64 = .ok (.iaload, 1) := by decide +kernel
theorem dX12_judge_65 : decode cX12_judge 65 = .ok (.if_icmp .ne 24, 3) := by decide +kernel
theorem dX12_judge_68 : decode cX12_judge 68 = .ok (.aload_n 0, 1) := by decide +kernel
theorem dX12_judge_69 : decode cX12_judge 69 = .ok (.invokevirtual 137, 3) := by decide +kernel
theorem dX12_judge_72 : decode cX12_judge 72 = .ok (.aload_n 0, 1) := by decide +kernel
theorem dX12_judge_73 : decode cX12_judge 73 = .ok (.getfield 40, 3) := by decide +kernel
theorem dX12_judge_76 : decode cX12_judge 76 = .ok (.iconst 3, 1) := by decide +kernel
theorem dX12_judge_77 : decode cX12_judge 77 = .ok (.iload_n 1, 1) := by decide +kernel
theorem dX12_judge_78 : decode cX12_judge 78 = .ok (.imul, 1) := by decide +kernel
theorem dX12_judge_79 : decode cX12_judge 79 = .ok (.iconst 2, 1) := by decide +kernel
theorem dX12_judge_80 : decode cX12_judge 80 = .ok (.iadd, 1) := by decide +kernel
theorem dX12_judge_81 : decode cX12_judge 81 = .ok (.iaload, 1) := by decide +kernel
theorem dX12_judge_82 : decode cX12_judge 82 = .ok (.if_icmp .ne 7, 3) := by decide +kernel
theorem dX12_judge_85 : decode cX12_judge 85 = .ok (.iconst 1, 1) := by decide +kernel
theorem dX12_judge_86 : decode cX12_judge 86 = .ok (.goto 4, 3) := by decide +kernel
theorem dX12_judge_89 : decode cX12_judge 89 = .ok (.iconst 0, 1) := by decide +kernel
theorem dX12_judge_90 : decode cX12_judge 90 = .ok (.istore_n 2, 1) := by decide +kernel
theorem dX12_judge_91 : decode cX12_judge 91 = .ok (.iinc 1 1, 3) := by decide +kernel
theorem dX12_judge_94 : decode cX12_judge 94 = .ok (.goto (-85), 3) := by decide +kernel
theorem dX12_judge_97 : decode cX12_judge 97 = .ok (.aload_n 0, 1) := by decide +kernel
theorem dX12_judge_98 : decode cX12_judge 98 = .ok (.iconst 0, 1) := by decide +kernel
theorem dX12_judge_99 : decode cX12_judge 99 = .ok (.invokevirtual 237, 3) := by decide +kernel
theorem dX12_judge_102 : decode cX12_judge 102 = .ok (.iload_n 2, 1) := by decide +kernel
theorem dX12_judge_103 : decode cX12_judge 103 = .ok (.ifCond .eq 7, 3) := by decide +kernel
theorem dX12_judge_106 : decode cX12_judge 106 = .ok (.iconst 0, 1) := by decide +kernel
theorem dX12_judge_107 : decode cX12_judge 107 = .ok (.goto 4, 3) := by decide +kernel
theorem dX12_judge_110 : decode cX12_judge 110 = .ok (.iload_n 1, 1) := by decide +kernel
theorem dX12_judge_111 : decode cX12_judge 111 = .ok (.ireturn, 1) := by decide +kernel
theorem dX12_isSheet_0 : decode cX12_isSheet 0 = .ok (.iload_n 0, 1) := by decide +kernel
theorem dX12_isSheet_1 : decode cX12_isSheet 1 = .ok (.i2l, 1) := by decide +kernel
theorem dX12_isSheet_2 : decode cX12_isSheet 2 = .ok (.lconst 0, 1) := by decide +kernel
theorem dX12_isSheet_3 : decode cX12_isSheet 3 = .ok (.ldc2_w 300, 3) := by decide +kernel
theorem dX12_isSheet_6 : decode cX12_isSheet 6 = .ok (.invokestatic 66, 3) := by decide +kernel
theorem dX12_isSheet_9 : decode cX12_isSheet 9 = .ok (.ireturn, 1) := by decide +kernel
theorem dX12_isShelf_0 : decode cX12_isShelf 0 = .ok (.iload_n 0, 1) := by decide +kernel
theorem dX12_isShelf_1 : decode cX12_isShelf 1 = .ok (.i2l, 1) := by decide +kernel
theorem dX12_isShelf_2 : decode cX12_isShelf 2 = .ok (.lconst 0, 1) := by decide +kernel
theorem dX12_isShelf_3 : decode cX12_isShelf 3 = .ok (.ldc2_w 300, 3) := by decide +kernel
theorem dX12_isShelf_6 : decode cX12_isShelf 6 = .ok (.invokestatic 66, 3) := by decide +kernel
theorem dX12_isShelf_9 : decode cX12_isShelf 9 = .ok (.ireturn, 1) := by decide +kernel
theorem dX12_sheet_0 : decode cX12_sheet 0 = .ok (.iload_n 1, 1) := by decide +kernel
theorem dX12_sheet_1 : decode cX12_sheet 1 = .ok (.invokestatic 345, 3) := by decide +kernel
theorem dX12_sheet_4 : decode cX12_sheet 4 = .ok (.ifCond .eq 27, 3) := by decide +kernel
theorem dX12_sheet_7 : decode cX12_sheet 7 = .ok (.iload_n 2, 1) := by decide +kernel
theorem dX12_sheet_8 : decode cX12_sheet 8 = .ok (.i2l, 1) := by decide +kernel
theorem dX12_sheet_9 : decode cX12_sheet 9 = .ok (.ldc2_w 348, 3) := by decide +kernel
theorem dX12_sheet_12 : decode cX12_sheet 12 = .ok (.ldc2_w 126, 3) := by decide +kernel
theorem dX12_sheet_15 : decode cX12_sheet 15 = .ok (.invokestatic 66, 3) := by decide +kernel
theorem dX12_sheet_18 : decode cX12_sheet 18 = .ok (.ifCond .eq 13, 3) := by decide +kernel
theorem dX12_sheet_21 : decode cX12_sheet 21 = .ok (.iload_n 2, 1) := by decide +kernel
theorem dX12_sheet_22 : decode cX12_sheet 22 = .ok (.ifCond .lt 11, 3) := by decide +kernel
theorem dX12_sheet_25 : decode cX12_sheet 25 = .ok (.iload_n 3, 1) := by decide +kernel
theorem dX12_sheet_26 : decode cX12_sheet 26 = .ok (.bipush 40, 2) := by decide +kernel
theorem dX12_sheet_28 : decode cX12_sheet 28 = .ok (.if_icmp .le 5, 3) := by decide +kernel
theorem dX12_sheet_31 : decode cX12_sheet 31 = .ok (.iconst (-1), 1) := by decide +kernel
theorem dX12_sheet_32 : decode cX12_sheet 32 = .ok (.ireturn, 1) := by decide +kernel
theorem dX12_sheet_33 : decode cX12_sheet 33 = .ok (.iload_n 2, 1) := by decide +kernel
theorem dX12_sheet_34 : decode cX12_sheet 34 = .ok (.ifCond .lt 10, 3) := by decide +kernel
theorem dX12_sheet_37 : decode cX12_sheet 37 = .ok (.iload_n 3, 1) := by decide +kernel
theorem dX12_sheet_38 : decode cX12_sheet 38 = .ok (.ifCond .ge 6, 3) := by decide +kernel
theorem dX12_sheet_41 : decode cX12_sheet 41 = .ok (.bipush (-14), 2) := by decide +kernel
theorem dX12_sheet_43 : decode cX12_sheet 43 = .ok (.ireturn, 1) := by decide +kernel
theorem dX12_sheet_44 : decode cX12_sheet 44 = .ok (.aload_n 0, 1) := by decide +kernel
theorem dX12_sheet_45 : decode cX12_sheet 45 = .ok (.getfield 43, 3) := by decide +kernel
theorem dX12_sheet_48 : decode cX12_sheet 48 = .ok (.iload_n 1, 1) := by decide +kernel
theorem dX12_sheet_49 : decode cX12_sheet 49 = .ok (.iload_n 2, 1) := by decide +kernel
theorem dX12_sheet_50 : decode cX12_sheet 50 = .ok (.iastore, 1) := by decide +kernel
theorem dX12_sheet_51 : decode cX12_sheet 51 = .ok (.aload_n 0, 1) := by decide +kernel
theorem dX12_sheet_52 : decode cX12_sheet 52 = .ok (.getfield 46, 3) := by decide +kernel
theorem dX12_sheet_55 : decode cX12_sheet 55 = .ok (.iload_n 1, 1) := by decide +kernel
theorem dX12_sheet_56 : decode cX12_sheet 56 = .ok (.iload_n 2, 1) := by decide +kernel
theorem dX12_sheet_57 : decode cX12_sheet 57 = .ok (.ifCond .ge 7, 3) := by decide +kernel
theorem dX12_sheet_60 : decode cX12_sheet 60 = .ok (.iconst 0, 1) := by decide +kernel
theorem dX12_sheet_61 : decode cX12_sheet 61 = .ok (.goto 4, 3) := by decide +kernel
theorem dX12_sheet_64 : decode cX12_sheet 64 = .ok (.iload_n 3, 1) := by decide +kernel
theorem dX12_sheet_65 : decode cX12_sheet 65 = .ok (.iastore, 1) := by decide +kernel
theorem dX12_sheet_66 : decode cX12_sheet 66 = .ok (.iconst 0, 1) := by decide +kernel
theorem dX12_sheet_67 : decode cX12_sheet 67 = .ok (.istore 4, 2) := by decide +kernel
theorem dX12_sheet_69 : decode cX12_sheet 69 = .ok (.iload 4, 2) := by decide +kernel
theorem dX12_sheet_71 : decode cX12_sheet 71 = .ok (.bipush 40, 2) := by decide +kernel
theorem dX12_sheet_73 : decode cX12_sheet 73 = .ok (.if_icmp .ge 22, 3) := by decide +kernel
theorem dX12_sheet_76 : decode cX12_sheet 76 = .ok (.aload_n 0, 1) := by decide +kernel
theorem dX12_sheet_77 : decode cX12_sheet 77 = .ok (.getfield 49, 3) := by decide +kernel
theorem dX12_sheet_80 : decode cX12_sheet 80 = .ok (.bipush 40, 2) := by decide +kernel
theorem dX12_sheet_82 : decode cX12_sheet 82 = .ok (.iload_n 1, 1) := by decide +kernel
theorem dX12_sheet_83 : decode cX12_sheet 83 = .ok (.imul, 1) := by decide +kernel
theorem dX12_sheet_84 : decode cX12_sheet 84 = .ok (.iload 4, 2) := by decide +kernel
theorem dX12_sheet_86 : decode cX12_sheet 86 = .ok (.iadd, 1) := by decide +kernel
theorem dX12_sheet_87 : decode cX12_sheet 87 = .ok (.iconst 0, 1) := by decide +kernel
theorem dX12_sheet_88 : decode cX12_sheet 88 = .ok (.iastore, 1) := by decide +kernel
theorem dX12_sheet_89 : decode cX12_sheet 89 = .ok (.iinc 4 1, 3) := by decide +kernel
theorem dX12_sheet_92 : decode cX12_sheet 92 = .ok (.goto (-23), 3) := by decide +kernel
theorem dX12_sheet_95 : decode cX12_sheet 95 = .ok (.iconst 1, 1) := by decide +kernel
theorem dX12_sheet_96 : decode cX12_sheet 96 = .ok (.ireturn, 1) := by decide +kernel
theorem dX12_write_0 : decode cX12_write 0 = .ok (.iload_n 1, 1) := by decide +kernel
theorem dX12_write_1 : decode cX12_write 1 = .ok (.invokestatic 345, 3) := by decide +kernel
theorem dX12_write_4 : decode cX12_write 4 = .ok (.ifCond .ne 5, 3) := by decide +kernel
theorem dX12_write_7 : decode cX12_write 7 = .ok (.iconst (-1), 1) := by decide +kernel
theorem dX12_write_8 : decode cX12_write 8 = .ok (.ireturn, 1) := by decide +kernel
theorem dX12_write_9 : decode cX12_write 9 = .ok (.aload_n 0, 1) := by decide +kernel
theorem dX12_write_10 : decode cX12_write 10 = .ok (.getfield 43, 3) := by decide +kernel
theorem dX12_write_13 : decode cX12_write 13 = .ok (.iload_n 1, 1) := by decide +kernel
theorem dX12_write_14 : decode cX12_write 14 = .ok (.iaload, 1) := by decide +kernel
theorem dX12_write_15 : decode cX12_write 15 = .ok (.ifCond .ge 6, 3) := by decide +kernel
theorem dX12_write_18 : decode cX12_write 18 = .ok (.bipush (-11), 2) := by decide +kernel
theorem dX12_write_20 : decode cX12_write 20 = .ok (.ireturn, 1) := by decide +kernel
theorem dX12_write_21 : decode cX12_write 21 = .ok (.iload_n 2, 1) := by decide +kernel
theorem dX12_write_22 : decode cX12_write 22 = .ok (.i2l, 1) := by decide +kernel
theorem dX12_write_23 : decode cX12_write 23 = .ok (.lconst 0, 1) := by decide +kernel
theorem dX12_write_24 : decode cX12_write 24 = .ok (.aload_n 0, 1) := by decide +kernel
theorem dX12_write_25 : decode cX12_write 25 = .ok (.getfield 46, 3) := by decide +kernel
theorem dX12_write_28 : decode cX12_write 28 = .ok (.iload_n 1, 1) := by decide +kernel
theorem dX12_write_29 : decode cX12_write 29 = .ok (.iaload, 1) := by decide +kernel
theorem dX12_write_30 : decode cX12_write 30 = .ok (.iconst 1, 1) := by decide +kernel
theorem dX12_write_31 : decode cX12_write 31 = .ok (.isub, 1) := by decide +kernel
theorem dX12_write_32 : decode cX12_write 32 = .ok (.i2l, 1) := by decide +kernel
theorem dX12_write_33 : decode cX12_write 33 = .ok (.invokestatic 66, 3) := by decide +kernel
theorem dX12_write_36 : decode cX12_write 36 = .ok (.ifCond .ne 6, 3) := by decide +kernel
theorem dX12_write_39 : decode cX12_write 39 = .ok (.bipush (-12), 2) := by decide +kernel
theorem dX12_write_41 : decode cX12_write 41 = .ok (.ireturn, 1) := by decide +kernel
theorem dX12_write_42 : decode cX12_write 42 = .ok (.aload_n 0, 1) := by decide +kernel
theorem dX12_write_43 : decode cX12_write 43 = .ok (.getfield 49, 3) := by decide +kernel
theorem dX12_write_46 : decode cX12_write 46 = .ok (.bipush 40, 2) := by decide +kernel
theorem dX12_write_48 : decode cX12_write 48 = .ok (.iload_n 1, 1) := by decide +kernel
theorem dX12_write_49 : decode cX12_write 49 = .ok (.imul, 1) := by decide +kernel
theorem dX12_write_50 : decode cX12_write 50 = .ok (.iload_n 2, 1) := by decide +kernel
theorem dX12_write_51 : decode cX12_write 51 = .ok (.iadd, 1) := by decide +kernel
theorem dX12_write_52 : decode cX12_write 52 = .ok (.aload_n 0, 1) := by decide +kernel
theorem dX12_write_53 : decode cX12_write 53 = .ok (.getfield 43, 3) := by decide +kernel
theorem dX12_write_56 : decode cX12_write 56 = .ok (.iload_n 1, 1) := by decide +kernel
theorem dX12_write_57 : decode cX12_write 57 = .ok (.iaload, 1) := by decide +kernel
theorem dX12_write_58 : decode cX12_write 58 = .ok (.ifCond .ne 8, 3) := by decide +kernel
theorem dX12_write_61 : decode cX12_write 61 = .ok (.iload_n 3, 1) := by decide +kernel
theorem dX12_write_62 : decode cX12_write 62 = .ok (.i2b, 1) := by decide +kernel
theorem dX12_write_63 : decode cX12_write 63 = .ok (.goto 41, 3) := by decide +kernel
theorem dX12_write_66 : decode cX12_write 66 = .ok (.aload_n 0, 1) := by decide +kernel
theorem dX12_write_67 : decode cX12_write 67 = .ok (.getfield 43, 3) := by decide +kernel
theorem dX12_write_70 : decode cX12_write 70 = .ok (.iload_n 1, 1) := by decide +kernel
theorem dX12_write_71 : decode cX12_write 71 = .ok (.iaload, 1) := by decide +kernel
theorem dX12_write_72 : decode cX12_write 72 = .ok (.iconst 1, 1) := by decide +kernel
theorem dX12_write_73 : decode cX12_write 73 = .ok (.if_icmp .ne 8, 3) := by decide +kernel
theorem dX12_write_76 : decode cX12_write 76 = .ok (.iload_n 3, 1) := by decide +kernel
theorem dX12_write_77 : decode cX12_write 77 = .ok (.i2s, 1) := by decide +kernel
theorem dX12_write_78 : decode cX12_write 78 = .ok (.goto 26, 3) := by decide +kernel
theorem dX12_write_81 : decode cX12_write 81 = .ok (.aload_n 0, 1) := by decide +kernel
theorem dX12_write_82 : decode cX12_write 82 = .ok (.getfield 43, 3) := by decide +kernel
theorem dX12_write_85 : decode cX12_write 85 = .ok (.iload_n 1, 1) := by decide +kernel
theorem dX12_write_86 : decode cX12_write 86 = .ok (.iaload, 1) := by decide +kernel
theorem dX12_write_87 : decode cX12_write 87 = .ok (.iconst 4, 1) := by decide +kernel
theorem dX12_write_88 : decode cX12_write 88 = .ok (.if_icmp .ne 15, 3) := by decide +kernel
theorem dX12_write_91 : decode cX12_write 91 = .ok (.iload_n 3, 1) := by decide +kernel
theorem dX12_write_92 : decode cX12_write 92 = .ok (.ifCond .ne 7, 3) := by decide +kernel
theorem dX12_write_95 : decode cX12_write 95 = .ok (.iconst 0, 1) := by decide +kernel
theorem dX12_write_96 : decode cX12_write 96 = .ok (.goto 8, 3) := by decide +kernel
theorem dX12_write_99 : decode cX12_write 99 = .ok (.iconst 1, 1) := by decide +kernel
theorem dX12_write_100 : decode cX12_write 100 = .ok (.goto 4, 3) := by decide +kernel
theorem dX12_write_103 : decode cX12_write 103 = .ok (.iload_n 3, 1) := by decide +kernel
theorem dX12_write_104 : decode cX12_write 104 = .ok (.iastore, 1) := by decide +kernel
theorem dX12_write_105 : decode cX12_write 105 = .ok (.iconst 1, 1) := by decide +kernel
theorem dX12_write_106 : decode cX12_write 106 = .ok (.ireturn, 1) := by decide +kernel
theorem dX12_lacks_0 : decode cX12_lacks 0 = .ok (.aload_n 0, 1) := by decide +kernel
theorem dX12_lacks_1 : decode cX12_lacks 1 = .ok (.getfield 43, 3) := by decide +kernel
theorem dX12_lacks_4 : decode cX12_lacks 4 = .ok (.iload_n 1, 1) := by decide +kernel
theorem dX12_lacks_5 : decode cX12_lacks 5 = .ok (.iaload, 1) := by decide +kernel
theorem dX12_lacks_6 : decode cX12_lacks 6 = .ok (.ifCond .ge 8, 3) := by decide +kernel
theorem dX12_lacks_9 : decode cX12_lacks 9 = .ok (.bipush (-11), 2) := by decide +kernel
theorem dX12_lacks_11 : decode cX12_lacks 11 = .ok (.goto 19, 3) := by decide +kernel
theorem dX12_lacks_14 : decode cX12_lacks 14 = .ok (.aload_n 0, 1) := by decide +kernel
theorem dX12_lacks_15 : decode cX12_lacks 15 = .ok (.getfield 43, 3) := by decide +kernel
theorem dX12_lacks_18 : decode cX12_lacks 18 = .ok (.iload_n 1, 1) := by decide +kernel
theorem dX12_lacks_19 : decode cX12_lacks 19 = .ok (.iaload, 1) := by decide +kernel
theorem dX12_lacks_20 : decode cX12_lacks 20 = .ok (.iload_n 2, 1) := by decide +kernel
theorem dX12_lacks_21 : decode cX12_lacks 21 = .ok (.if_icmp .eq 8, 3) := by decide +kernel
theorem dX12_lacks_24 : decode cX12_lacks 24 = .ok (.bipush (-13), 2) := by decide +kernel
theorem dX12_lacks_26 : decode cX12_lacks 26 = .ok (.goto 4, 3) := by decide +kernel
theorem dX12_lacks_29 : decode cX12_lacks 29 = .ok (.iconst 0, 1) := by decide +kernel
theorem dX12_lacks_30 : decode cX12_lacks 30 = .ok (.ireturn, 1) := by decide +kernel
theorem dX12_item_0 : decode cX12_item 0 = .ok (.iload_n 1, 1) := by decide +kernel
theorem dX12_item_1 : decode cX12_item 1 = .ok (.invokestatic 345, 3) := by decide +kernel
theorem dX12_item_4 : decode cX12_item 4 = .ok (.ifCond .eq 15, 3) := by decide +kernel
theorem dX12_item_7 : decode cX12_item 7 = .ok (.iload_n 2, 1) := by decide +kernel
theorem dX12_item_8 : decode cX12_item 8 = .ok (.i2l, 1) := by decide +kernel
theorem dX12_item_9 : decode cX12_item 9 = .ok (.lconst 0, 1) := by decide +kernel
theorem dX12_item_10 : decode cX12_item 10 = .ok (.ldc2_w 126, 3) := by decide +kernel
theorem dX12_item_13 : decode cX12_item 13 = .ok (.invokestatic 66, 3) := by decide +kernel
theorem dX12_item_16 : decode cX12_item 16 = .ok (.ifCond .ne 5, 3) := by decide +kernel
theorem dX12_item_19 : decode cX12_item 19 = .ok (.iconst (-1), 1) := by decide +kernel
theorem dX12_item_20 : decode cX12_item 20 = .ok (.ireturn, 1) := by decide +kernel
theorem dX12_item_21 : decode cX12_item 21 = .ok (.aload_n 0, 1) := by decide +kernel
theorem dX12_item_22 : decode cX12_item 22 = .ok (.iload_n 1, 1) := by decide +kernel
theorem dX12_item_23 : decode cX12_item 23 = .ok (.iload_n 2, 1) := by decide +kernel
theorem dX12_item_24 : decode cX12_item 24 = .ok (.invokevirtual 350, 3) := by decide +kernel
theorem dX12_item_27 : decode cX12_item 27 = .ok (.ifCond .eq 10, 3) := by decide +kernel
theorem dX12_item_30 : decode cX12_item 30 = .ok (.aload_n 0, 1) := by decide +kernel
theorem dX12_item_31 : decode cX12_item 31 = .ok (.iload_n 1, 1) := by decide +kernel
theorem dX12_item_32 : decode cX12_item 32 = .ok (.iload_n 2, 1) := by decide +kernel
theorem dX12_item_33 : decode cX12_item 33 = .ok (.invokevirtual 350, 3) := by decide +kernel
theorem dX12_item_36 : decode cX12_item 36 = .ok (.ireturn, 1) := by decide +kernel
theorem dX12_item_37 : decode cX12_item 37 = .ok (.iload_n 3, 1) := by decide +kernel
theorem dX12_item_38 : decode cX12_item 38 = .ok (.i2l, 1) := by decide +kernel
theorem dX12_item_39 : decode cX12_item 39 = .ok (.lconst 0, 1) := by decide +kernel
theorem dX12_item_40 : decode cX12_item 40 = .ok (.aload_n 0, 1) := by decide +kernel
theorem dX12_item_41 : decode cX12_item 41 = .ok (.getfield 46, 3) := by decide +kernel
theorem dX12_item_44 : decode cX12_item 44 = .ok (.iload_n 1, 1) := by decide +kernel
theorem dX12_item_45 : decode cX12_item 45 = .ok (.iaload, 1) := by decide +kernel
theorem dX12_item_46 : decode cX12_item 46 = .ok (.iconst 1, 1) := by decide +kernel
theorem dX12_item_47 : decode cX12_item 47 = .ok (.isub, 1) := by decide +kernel
theorem dX12_item_48 : decode cX12_item 48 = .ok (.i2l, 1) := by decide +kernel
theorem dX12_item_49 : decode cX12_item 49 = .ok (.invokestatic 66, 3) := by decide +kernel
theorem dX12_item_52 : decode cX12_item 52 = .ok (.ifCond .eq 17, 3) := by decide +kernel
theorem dX12_item_55 : decode cX12_item 55 = .ok (.aload_n 0, 1) := by decide +kernel
theorem dX12_item_56 : decode cX12_item 56 = .ok (.getfield 49, 3) := by decide +kernel
theorem dX12_item_59 : decode cX12_item 59 = .ok (.bipush 40, 2) := by decide +kernel
theorem dX12_item_61 : decode cX12_item 61 = .ok (.iload_n 1, 1) := by decide +kernel
theorem dX12_item_62 : decode cX12_item 62 = .ok (.imul, 1) := by decide +kernel
theorem dX12_item_63 : decode cX12_item 63 = .ok (.iload_n 3, 1) := by decide +kernel
theorem dX12_item_64 : decode cX12_item 64 = .ok (.iadd, 1) := by decide +kernel
theorem dX12_item_65 : decode cX12_item 65 = .ok (.iaload, 1) := by decide +kernel
theorem dX12_item_66 : decode cX12_item 66 = .ok (.goto 5, 3) := by decide +kernel
theorem dX12_item_69 : decode cX12_item 69 = .ok (.bipush (-12), 2) := by decide +kernel
theorem dX12_item_71 : decode cX12_item 71 = .ok (.ireturn, 1) := by decide +kernel
theorem dX12_goAll_0 : decode cX12_goAll 0 = .ok (.iload_n 1, 1) := by decide +kernel
theorem dX12_goAll_1 : decode cX12_goAll 1 = .ok (.invokestatic 345, 3) := by decide +kernel
theorem dX12_goAll_4 : decode cX12_goAll 4 = .ok (.ifCond .eq 15, 3) := by decide +kernel
theorem dX12_goAll_7 : decode cX12_goAll 7 = .ok (.iload_n 3, 1) := by decide +kernel
theorem dX12_goAll_8 : decode cX12_goAll 8 = .ok (.i2l, 1) := by decide +kernel
theorem dX12_goAll_9 : decode cX12_goAll 9 = .ok (.lconst 0, 1) := by decide +kernel
theorem dX12_goAll_10 : decode cX12_goAll 10 = .ok (.ldc2_w 313, 3) := by decide +kernel
theorem dX12_goAll_13 : decode cX12_goAll 13 = .ok (.invokestatic 66, 3) := by decide +kernel
theorem dX12_goAll_16 : decode cX12_goAll 16 = .ok (.ifCond .ne 5, 3) := by decide +kernel
theorem dX12_goAll_19 : decode cX12_goAll 19 = .ok (.iconst (-1), 1) := by decide +kernel
theorem dX12_goAll_20 : decode cX12_goAll 20 = .ok (.ireturn, 1) := by decide +kernel
theorem dX12_goAll_21 : decode cX12_goAll 21 = .ok (.aload_n 0, 1) := by decide +kernel
theorem dX12_goAll_22 : decode cX12_goAll 22 = .ok (.iload_n 1, 1) := by decide +kernel
theorem dX12_goAll_23 : decode cX12_goAll 23 = .ok (.iconst 0, 1) := by decide +kernel
theorem dX12_goAll_24 : decode cX12_goAll 24 = .ok (.invokevirtual 350, 3) := by decide +kernel
theorem dX12_goAll_27 : decode cX12_goAll 27 = .ok (.ifCond .eq 10, 3) := by decide +kernel
theorem dX12_goAll_30 : decode cX12_goAll 30 = .ok (.aload_n 0, 1) := by decide +kernel
theorem dX12_goAll_31 : decode cX12_goAll 31 = .ok (.iload_n 1, 1) := by decide +kernel
theorem dX12_goAll_32 : decode cX12_goAll 32 = .ok (.iconst 0, 1) := by decide +kernel
theorem dX12_goAll_33 : decode cX12_goAll 33 = .ok (.invokevirtual 350, 3) := by decide +kernel
theorem dX12_goAll_36 : decode cX12_goAll 36 = .ok (.ireturn, 1) := by decide +kernel
theorem dX12_goAll_37 : decode cX12_goAll 37 = .ok (.iconst 0, 1) := by decide +kernel
theorem dX12_goAll_38 : decode cX12_goAll 38 = .ok (.istore 4, 2) := by decide +kernel
theorem dX12_goAll_40 : decode cX12_goAll 40 = .ok (.iconst 0, 1) := by decide +kernel
theorem dX12_goAll_41 : decode cX12_goAll 41 = .ok (.istore 5, 2) := by decide +kernel
theorem dX12_goAll_43 : decode cX12_goAll 43 = .ok (.iload 5, 2) := by decide +kernel
theorem dX12_goAll_45 : decode cX12_goAll 45 = .ok (.iload_n 3, 1) := by decide +kernel
theorem dX12_goAll_46 : decode cX12_goAll 46 = .ok (.if_icmp .ge 81, 3) := by decide +kernel
theorem dX12_goAll_49 : decode cX12_goAll 49 = .ok (.iload_n 2, 1) := by decide +kernel
theorem dX12_goAll_50 : decode cX12_goAll 50 = .ok (.i2l, 1) := by decide +kernel
theorem dX12_goAll_51 : decode cX12_goAll 51 = .ok (.iload 5, 2) := by decide +kernel
theorem dX12_goAll_53 : decode cX12_goAll 53 = .ok (.i2l, 1) := by decide +kernel
theorem dX12_goAll_54 : decode cX12_goAll 54 = .ok (.ladd, 1) := by decide +kernel
theorem dX12_goAll_55 : decode cX12_goAll 55 = .ok (.lconst 0, 1) := by decide +kernel
theorem dX12_goAll_56 : decode cX12_goAll 56 = .ok (.aload_n 0, 1) := by decide +kernel
theorem dX12_goAll_57 : decode cX12_goAll 57 = .ok (.getfield 46, 3) := by decide +kernel
theorem dX12_goAll_60 : decode cX12_goAll 60 = .ok (.iload_n 1, 1) := by decide +kernel
theorem dX12_goAll_61 : decode cX12_goAll 61 = .ok (.iaload, 1) := by decide +kernel
theorem dX12_goAll_62 : decode cX12_goAll 62 = .ok (.i2l, 1) := by decide +kernel
theorem dX12_goAll_63 : decode cX12_goAll 63 = .ok (.lconst 1, 1) := by decide +kernel
theorem dX12_goAll_64 : decode cX12_goAll 64 = .ok (.lsub, 1) := by decide +kernel
theorem dX12_goAll_65 : decode cX12_goAll 65 = .ok (.invokestatic 66, 3) := by decide +kernel
theorem dX12_goAll_68 : decode cX12_goAll 68 = .ok (.ifCond .ne 6, 3) := by decide +kernel
theorem dX12_goAll_71 : decode cX12_goAll 71 = .ok (.bipush (-12), 2) := by decide +kernel
theorem dX12_goAll_73 : decode cX12_goAll 73 = .ok (.ireturn, 1) := by decide +kernel
theorem dX12_goAll_74 : decode cX12_goAll 74 = .ok (.aload_n 0, 1) := by decide +kernel
theorem dX12_goAll_75 : decode cX12_goAll 75 = .ok (.getfield 49, 3) := by decide +kernel
theorem dX12_goAll_78 : decode cX12_goAll 78 = .ok (.bipush 40, 2) := by decide +kernel
theorem dX12_goAll_80 : decode cX12_goAll 80 = .ok (.iload_n 1, 1) := by decide +kernel
theorem dX12_goAll_81 : decode cX12_goAll 81 = .ok (.imul, 1) := by decide +kernel
theorem dX12_goAll_82 : decode cX12_goAll 82 = .ok (.iload_n 2, 1) := by decide +kernel
theorem dX12_goAll_83 : decode cX12_goAll 83 = .ok (.iadd, 1) := by decide +kernel
theorem dX12_goAll_84 : decode cX12_goAll 84 = .ok (.iload 5, 2) := by decide +kernel
theorem dX12_goAll_86 : decode cX12_goAll 86 = .ok (.iadd, 1) := by decide +kernel
theorem dX12_goAll_87 : decode cX12_goAll 87 = .ok (.iaload, 1) := by decide +kernel
theorem dX12_goAll_88 : decode cX12_goAll 88 = .ok (.istore 6, 2) := by decide +kernel
theorem dX12_goAll_90 : decode cX12_goAll 90 = .ok (.iload 4, 2) := by decide +kernel
theorem dX12_goAll_92 : decode cX12_goAll 92 = .ok (.aload_n 0, 1) := by decide +kernel
theorem dX12_goAll_93 : decode cX12_goAll 93 = .ok (.iload 6, 2) := by decide +kernel
theorem dX12_goAll_95 : decode cX12_goAll 95 = .ok (.invokevirtual 342, 3) := by decide +kernel
theorem dX12_goAll_98 : decode cX12_goAll 98 = .ok (.ifCond .eq 19, 3) := by decide +kernel
theorem dX12_goAll_101 : decode cX12_goAll 101 = .ok (.aload_n 0, 1) := by decide +kernel
theorem dX12_goAll_102 : decode cX12_goAll 102 = .ok (.invokevirtual 133, 3) := by decide +kernel
theorem dX12_goAll_105 : decode cX12_goAll 105 = .ok (.ifCond .ne 12, 3) := by decide +kernel
theorem dX12_goAll_108 : decode cX12_goAll 108 = .ok (.aload_n 0, 1) := by decide +kernel
theorem dX12_goAll_109 : decode cX12_goAll 109 = .ok (.iload 6, 2) := by decide +kernel
theorem dX12_goAll_111 : decode cX12_goAll 111 = .ok (.invokevirtual 287, 3) := by decide +kernel
theorem dX12_goAll_114 : decode cX12_goAll 114 = .ok (.goto 4, 3) := by decide +kernel
theorem dX12_goAll_117 : decode cX12_goAll 117 = .ok (.iconst 0, 1) := by decide +kernel
theorem dX12_goAll_118 : decode cX12_goAll 118 = .ok (.iadd, 1) := by decide +kernel
theorem dX12_goAll_119 : decode cX12_goAll 119 = .ok (.istore 4, 2) := by decide +kernel
theorem dX12_goAll_121 : decode cX12_goAll 121 = .ok (.iinc 5 1, 3) := by decide +kernel
theorem dX12_goAll_124 : decode cX12_goAll 124 = .ok (.goto (-81), 3) := by decide +kernel
theorem dX12_goAll_127 : decode cX12_goAll 127 = .ok (.iload 4, 2) := by decide +kernel
theorem dX12_goAll_129 : decode cX12_goAll 129 = .ok (.ireturn, 1) := by decide +kernel
theorem dX12_sumBy_0 : decode cX12_sumBy 0 = .ok (.iconst 0, 1) := by decide +kernel
theorem dX12_sumBy_1 : decode cX12_sumBy 1 = .ok (.istore 4, 2) := by decide +kernel
theorem dX12_sumBy_3 : decode cX12_sumBy 3 = .ok (.iconst 0, 1) := by decide +kernel
theorem dX12_sumBy_4 : decode cX12_sumBy 4 = .ok (.istore 5, 2) := by decide +kernel
theorem dX12_sumBy_6 : decode cX12_sumBy 6 = .ok (.iload 5, 2) := by decide +kernel
theorem dX12_sumBy_8 : decode cX12_sumBy 8 = .ok (.iload_n 3, 1) := by decide +kernel
theorem dX12_sumBy_9 : decode cX12_sumBy 9 = .ok (.if_icmp .ge 80, 3) := by decide +kernel
theorem dX12_sumBy_12 : decode cX12_sumBy 12 = .ok (.iload_n 2, 1) := by decide +kernel
theorem dX12_sumBy_13 : decode cX12_sumBy 13 = .ok (.i2l, 1) := by decide +kernel
theorem dX12_sumBy_14 : decode cX12_sumBy 14 = .ok (.iload 5, 2) := by decide +kernel
theorem dX12_sumBy_16 : decode cX12_sumBy 16 = .ok (.i2l, 1) := by decide +kernel
theorem dX12_sumBy_17 : decode cX12_sumBy 17 = .ok (.ladd, 1) := by decide +kernel
theorem dX12_sumBy_18 : decode cX12_sumBy 18 = .ok (.lconst 0, 1) := by decide +kernel
theorem dX12_sumBy_19 : decode cX12_sumBy 19 = .ok (.aload_n 0, 1) := by decide +kernel
theorem dX12_sumBy_20 : decode cX12_sumBy 20 = .ok (.getfield 46, 3) := by decide +kernel
theorem dX12_sumBy_23 : decode cX12_sumBy 23 = .ok (.iload_n 1, 1) := by decide +kernel
theorem dX12_sumBy_24 : decode cX12_sumBy 24 = .ok (.iaload, 1) := by decide +kernel
theorem dX12_sumBy_25 : decode cX12_sumBy 25 = .ok (.i2l, 1) := by decide +kernel
theorem dX12_sumBy_26 : decode cX12_sumBy 26 = .ok (.lconst 1, 1) := by decide +kernel
theorem dX12_sumBy_27 : decode cX12_sumBy 27 = .ok (.lsub, 1) := by decide +kernel
theorem dX12_sumBy_28 : decode cX12_sumBy 28 = .ok (.invokestatic 66, 3) := by decide +kernel
theorem dX12_sumBy_31 : decode cX12_sumBy 31 = .ok (.ifCond .ne 6, 3) := by decide +kernel
theorem dX12_sumBy_34 : decode cX12_sumBy 34 = .ok (.bipush (-12), 2) := by decide +kernel
theorem dX12_sumBy_36 : decode cX12_sumBy 36 = .ok (.ireturn, 1) := by decide +kernel
theorem dX12_sumBy_37 : decode cX12_sumBy 37 = .ok (.aload_n 0, 1) := by decide +kernel
theorem dX12_sumBy_38 : decode cX12_sumBy 38 = .ok (.getfield 49, 3) := by decide +kernel
theorem dX12_sumBy_41 : decode cX12_sumBy 41 = .ok (.bipush 40, 2) := by decide +kernel
theorem dX12_sumBy_43 : decode cX12_sumBy 43 = .ok (.iload_n 1, 1) := by decide +kernel
theorem dX12_sumBy_44 : decode cX12_sumBy 44 = .ok (.imul, 1) := by decide +kernel
theorem dX12_sumBy_45 : decode cX12_sumBy 45 = .ok (.iload_n 2, 1) := by decide +kernel
theorem dX12_sumBy_46 : decode cX12_sumBy 46 = .ok (.iadd, 1) := by decide +kernel
theorem dX12_sumBy_47 : decode cX12_sumBy 47 = .ok (.iload 5, 2) := by decide +kernel
theorem dX12_sumBy_49 : decode cX12_sumBy 49 = .ok (.iadd, 1) := by decide +kernel
theorem dX12_sumBy_50 : decode cX12_sumBy 50 = .ok (.iaload, 1) := by decide +kernel
theorem dX12_sumBy_51 : decode cX12_sumBy 51 = .ok (.istore 6, 2) := by decide +kernel
theorem dX12_sumBy_53 : decode cX12_sumBy 53 = .ok (.aload_n 0, 1) := by decide +kernel
theorem dX12_sumBy_54 : decode cX12_sumBy 54 = .ok (.iload 6, 2) := by decide +kernel
theorem dX12_sumBy_56 : decode cX12_sumBy 56 = .ok (.invokevirtual 342, 3) := by decide +kernel
theorem dX12_sumBy_59 : decode cX12_sumBy 59 = .ok (.ifCond .eq 10, 3) := by decide +kernel
theorem dX12_sumBy_62 : decode cX12_sumBy 62 = .ok (.aload_n 0, 1) := by decide +kernel
theorem dX12_sumBy_63 : decode cX12_sumBy 63 = .ok (.invokevirtual 133, 3) := by decide +kernel
theorem dX12_sumBy_66 : decode cX12_sumBy 66 = .ok (.ifCond .eq 6, 3) := by decide +kernel
theorem dX12_sumBy_69 : decode cX12_sumBy 69 = .ok (.bipush (-4), 2) := by decide +kernel
theorem dX12_sumBy_71 : decode cX12_sumBy 71 = .ok (.ireturn, 1) := by decide +kernel
theorem dX12_sumBy_72 : decode cX12_sumBy 72 = .ok (.iload 4, 2) := by decide +kernel
theorem dX12_sumBy_74 : decode cX12_sumBy 74 = .ok (.aload_n 0, 1) := by decide +kernel
theorem dX12_sumBy_75 : decode cX12_sumBy 75 = .ok (.iload 6, 2) := by decide +kernel
theorem dX12_sumBy_77 : decode cX12_sumBy 77 = .ok (.invokevirtual 287, 3) := by decide +kernel
theorem dX12_sumBy_80 : decode cX12_sumBy 80 = .ok (.iadd, 1) := by decide +kernel
theorem dX12_sumBy_81 : decode cX12_sumBy 81 = .ok (.istore 4, 2) := by decide +kernel
theorem dX12_sumBy_83 : decode cX12_sumBy 83 = .ok (.iinc 5 1, 3) := by decide +kernel
theorem dX12_sumBy_86 : decode cX12_sumBy 86 = .ok (.goto (-80), 3) := by decide +kernel
theorem dX12_sumBy_89 : decode cX12_sumBy 89 = .ok (.iload 4, 2) := by decide +kernel
theorem dX12_sumBy_91 : decode cX12_sumBy 91 = .ok (.ireturn, 1) := by decide +kernel
theorem dX12_wouldBe_0 : decode cX12_wouldBe 0 = .ok (.iload_n 1, 1) := by decide +kernel
theorem dX12_wouldBe_1 : decode cX12_wouldBe 1 = .ok (.invokestatic 345, 3) := by decide +kernel
theorem dX12_wouldBe_4 : decode cX12_wouldBe 4 = .ok (.ifCond .eq 15, 3) := by decide +kernel
theorem dX12_wouldBe_7 : decode cX12_wouldBe 7 = .ok (.iload_n 3, 1) := by decide +kernel
theorem dX12_wouldBe_8 : decode cX12_wouldBe 8 = .ok (.i2l, 1) := by decide +kernel
theorem dX12_wouldBe_9 : decode cX12_wouldBe 9 = .ok (.lconst 0, 1) := by decide +kernel
theorem dX12_wouldBe_10 : decode cX12_wouldBe 10 = .ok (.ldc2_w 313, 3) := by decide +kernel
theorem dX12_wouldBe_13 : decode cX12_wouldBe 13 = .ok (.invokestatic 66, 3) := by decide +kernel
theorem dX12_wouldBe_16 : decode cX12_wouldBe 16 = .ok (.ifCond .ne 5, 3) := by decide +kernel
theorem dX12_wouldBe_19 : decode cX12_wouldBe 19 = .ok (.iconst (-1), 1) := by decide +kernel
theorem dX12_wouldBe_20 : decode cX12_wouldBe 20 = .ok (.ireturn, 1) := by decide +kernel
theorem dX12_wouldBe_21 : decode cX12_wouldBe 21 = .ok (.aload_n 0, 1) := by decide +kernel
theorem dX12_wouldBe_22 : decode cX12_wouldBe 22 = .ok (.iload_n 1, 1) := by decide +kernel
theorem dX12_wouldBe_23 : decode cX12_wouldBe 23 = .ok (.iconst 0, 1) := by decide +kernel
theorem dX12_wouldBe_24 : decode cX12_wouldBe 24 = .ok (.invokevirtual 350, 3) := by decide +kernel
theorem dX12_wouldBe_27 : decode cX12_wouldBe 27 = .ok (.ifCond .eq 10, 3) := by decide +kernel
theorem dX12_wouldBe_30 : decode cX12_wouldBe 30 = .ok (.aload_n 0, 1) := by decide +kernel
theorem dX12_wouldBe_31 : decode cX12_wouldBe 31 = .ok (.iload_n 1, 1) := by decide +kernel
theorem dX12_wouldBe_32 : decode cX12_wouldBe 32 = .ok (.iconst 0, 1) := by decide +kernel
theorem dX12_wouldBe_33 : decode cX12_wouldBe 33 = .ok (.invokevirtual 350, 3) := by decide +kernel
theorem dX12_wouldBe_36 : decode cX12_wouldBe 36 = .ok (.ireturn, 1) := by decide +kernel
theorem dX12_wouldBe_37 : decode cX12_wouldBe 37 = .ok (.aload_n 0, 1) := by decide +kernel
theorem dX12_wouldBe_38 : decode cX12_wouldBe 38 = .ok (.iconst 0, 1) := by decide +kernel
theorem dX12_wouldBe_39 : decode cX12_wouldBe 39 = .ok (.invokevirtual 234, 3) := by decide +kernel
theorem dX12_wouldBe_42 : decode cX12_wouldBe 42 = .ok (.aload_n 0, 1) := by decide +kernel
theorem dX12_wouldBe_43 : decode cX12_wouldBe 43 = .ok (.iload_n 1, 1) := by decide +kernel
theorem dX12_wouldBe_44 : decode cX12_wouldBe 44 = .ok (.iload_n 2, 1) := by decide +kernel
theorem dX12_wouldBe_45 : decode cX12_wouldBe 45 = .ok (.iload_n 3, 1) := by decide +kernel
theorem dX12_wouldBe_46 : decode cX12_wouldBe 46 = .ok (.invokevirtual 353, 3) := by decide +kernel
theorem dX12_wouldBe_49 : decode cX12_wouldBe 49 = .ok (.istore 4, 2) := by decide +kernel
theorem dX12_wouldBe_51 : decode cX12_wouldBe 51 = .ok (.aload_n 0, 1) := by decide +kernel
theorem dX12_wouldBe_52 : decode cX12_wouldBe 52 = .ok (.iconst 0, 1) := by decide +kernel
theorem dX12_wouldBe_53 : decode cX12_wouldBe 53 = .ok (.invokevirtual 237, 3) := by decide +kernel
theorem dX12_wouldBe_56 : decode cX12_wouldBe 56 = .ok (.iload 4, 2) := by decide +kernel
theorem dX12_wouldBe_58 : decode cX12_wouldBe 58 = .ok (.ireturn, 1) := by decide +kernel
theorem dX12_shelf_0 : decode cX12_shelf 0 = .ok (.iload_n 1, 1) := by decide +kernel
theorem dX12_shelf_1 : decode cX12_shelf 1 = .ok (.invokestatic 356, 3) := by decide +kernel
theorem dX12_shelf_4 : decode cX12_shelf 4 = .ok (.ifCond .eq 39, 3) := by decide +kernel
theorem dX12_shelf_7 : decode cX12_shelf 7 = .ok (.iload_n 2, 1) := by decide +kernel
theorem dX12_shelf_8 : decode cX12_shelf 8 = .ok (.i2l, 1) := by decide +kernel
theorem dX12_shelf_9 : decode cX12_shelf 9 = .ok (.lconst 0, 1) := by decide +kernel
theorem dX12_shelf_10 : decode cX12_shelf 10 = .ok (.ldc2_w 88, 3) := by decide +kernel
theorem dX12_shelf_13 : decode cX12_shelf 13 = .ok (.invokestatic 66, 3) := by decide +kernel
theorem dX12_shelf_16 : decode cX12_shelf 16 = .ok (.ifCond .eq 27, 3) := by decide +kernel
theorem dX12_shelf_19 : decode cX12_shelf 19 = .ok (.iload_n 2, 1) := by decide +kernel
theorem dX12_shelf_20 : decode cX12_shelf 20 = .ok (.ifCond .ne 11, 3) := by decide +kernel
theorem dX12_shelf_23 : decode cX12_shelf 23 = .ok (.aload_n 0, 1) := by decide +kernel
theorem dX12_shelf_24 : decode cX12_shelf 24 = .ok (.iload_n 3, 1) := by decide +kernel
theorem dX12_shelf_25 : decode cX12_shelf 25 = .ok (.invokevirtual 110, 3) := by decide +kernel
theorem dX12_shelf_28 : decode cX12_shelf 28 = .ok (.ifCond .eq 15, 3) := by decide +kernel
theorem dX12_shelf_31 : decode cX12_shelf 31 = .ok (.iload_n 2, 1) := by decide +kernel
theorem dX12_shelf_32 : decode cX12_shelf 32 = .ok (.iconst 1, 1) := by decide +kernel
theorem dX12_shelf_33 : decode cX12_shelf 33 = .ok (.if_icmp .ne 12, 3) := by decide +kernel
theorem dX12_shelf_36 : decode cX12_shelf 36 = .ok (.iload_n 3, 1) := by decide +kernel
theorem dX12_shelf_37 : decode cX12_shelf 37 = .ok (.invokestatic 345, 3) := by decide +kernel
theorem dX12_shelf_40 : decode cX12_shelf 40 = .ok (.ifCond .ne 5, 3) := by decide +kernel
theorem dX12_shelf_43 : decode cX12_shelf 43 = .ok (.iconst (-1), 1) := by decide +kernel
theorem dX12_shelf_44 : decode cX12_shelf 44 = .ok (.ireturn, 1) := by decide +kernel
theorem dX12_shelf_45 : decode cX12_shelf 45 = .ok (.iload_n 2, 1) := by decide +kernel
theorem dX12_shelf_46 : decode cX12_shelf 46 = .ok (.iconst 1, 1) := by decide +kernel
theorem dX12_shelf_47 : decode cX12_shelf 47 = .ok (.if_icmp .ne 16, 3) := by decide +kernel
theorem dX12_shelf_50 : decode cX12_shelf 50 = .ok (.aload_n 0, 1) := by decide +kernel
theorem dX12_shelf_51 : decode cX12_shelf 51 = .ok (.getfield 43, 3) := by decide +kernel
theorem dX12_shelf_54 : decode cX12_shelf 54 = .ok (.iload_n 3, 1) := by decide +kernel
theorem dX12_shelf_55 : decode cX12_shelf 55 = .ok (.iaload, 1) := by decide +kernel
theorem dX12_shelf_56 : decode cX12_shelf 56 = .ok (.ifCond .lt 7, 3) := by decide +kernel
theorem dX12_shelf_59 : decode cX12_shelf 59 = .ok (.iconst 1, 1) := by decide +kernel
theorem dX12_shelf_60 : decode cX12_shelf 60 = .ok (.goto 4, 3) := by decide +kernel
theorem dX12_shelf_63 : decode cX12_shelf 63 = .ok (.iconst 0, 1) := by decide +kernel
theorem dX12_shelf_64 : decode cX12_shelf 64 = .ok (.istore 4, 2) := by decide +kernel
theorem dX12_shelf_66 : decode cX12_shelf 66 = .ok (.aload_n 0, 1) := by decide +kernel
theorem dX12_shelf_67 : decode cX12_shelf 67 = .ok (.getfield 52, 3) := by decide +kernel
theorem dX12_shelf_70 : decode cX12_shelf 70 = .ok (.iload_n 1, 1) := by decide +kernel
theorem dX12_shelf_71 : decode cX12_shelf 71 = .ok (.iload_n 2, 1) := by decide +kernel
theorem dX12_shelf_72 : decode cX12_shelf 72 = .ok (.ifCond .ne 7, 3) := by decide +kernel
theorem dX12_shelf_75 : decode cX12_shelf 75 = .ok (.iconst 1, 1) := by decide +kernel
theorem dX12_shelf_76 : decode cX12_shelf 76 = .ok (.goto 13, 3) := by decide +kernel
theorem dX12_shelf_79 : decode cX12_shelf 79 = .ok (.iload 4, 2) := by decide +kernel
theorem dX12_shelf_81 : decode cX12_shelf 81 = .ok (.ifCond .eq 7, 3) := by decide +kernel
theorem dX12_shelf_84 : decode cX12_shelf 84 = .ok (.iconst 2, 1) := by decide +kernel
theorem dX12_shelf_85 : decode cX12_shelf 85 = .ok (.goto 4, 3) := by decide +kernel
theorem dX12_shelf_88 : decode cX12_shelf 88 = .ok (.iconst 0, 1) := by decide +kernel
theorem dX12_shelf_89 : decode cX12_shelf 89 = .ok (.iastore, 1) := by decide +kernel
theorem dX12_shelf_90 : decode cX12_shelf 90 = .ok (.aload_n 0, 1) := by decide +kernel
theorem dX12_shelf_91 : decode cX12_shelf 91 = .ok (.getfield 55, 3) := by decide +kernel
theorem dX12_shelf_94 : decode cX12_shelf 94 = .ok (.iload_n 1, 1) := by decide +kernel
theorem dX12_shelf_95 : decode cX12_shelf 95 = .ok (.iload_n 2, 1) := by decide +kernel
theorem dX12_shelf_96 : decode cX12_shelf 96 = .ok (.ifCond .ne 7, 3) := by decide +kernel
theorem dX12_shelf_99 : decode cX12_shelf 99 = .ok (.iload_n 3, 1) := by decide +kernel
theorem dX12_shelf_100 : decode cX12_shelf 100 = .ok (.goto 18, 3) := by decide +kernel
theorem dX12_shelf_103 : decode cX12_shelf 103 = .ok (.iload 4, 2) := by decide +kernel
theorem dX12_shelf_105 : decode cX12_shelf 105 = .ok (.ifCond .eq 12, 3) := by decide +kernel
theorem dX12_shelf_108 : decode cX12_shelf 108 = .ok (.aload_n 0, 1) := by decide +kernel
theorem dX12_shelf_109 : decode cX12_shelf 109 = .ok (.getfield 43, 3) := by decide +kernel
theorem dX12_shelf_112 : decode cX12_shelf 112 = .ok (.iload_n 3, 1) := by decide +kernel
theorem dX12_shelf_113 : decode cX12_shelf 113 = .ok (.iaload, 1) := by decide +kernel
theorem dX12_shelf_114 : decode cX12_shelf 114 = .ok (.goto 4, 3) := by decide +kernel
theorem dX12_shelf_117 : decode cX12_shelf 117 = .ok (.iconst 0, 1) := by decide +kernel
theorem dX12_shelf_118 : decode cX12_shelf 118 = .ok (.iastore, 1) := by decide +kernel
theorem dX12_shelf_119 : decode cX12_shelf 119 = .ok (.aload_n 0, 1) := by decide +kernel
theorem dX12_shelf_120 : decode cX12_shelf 120 = .ok (.getfield 58, 3) := by decide +kernel
theorem dX12_shelf_123 : decode cX12_shelf 123 = .ok (.iload_n 1, 1) := by decide +kernel
theorem dX12_shelf_124 : decode cX12_shelf 124 = .ok (.iload 4, 2) := by decide +kernel
theorem dX12_shelf_126 : decode cX12_shelf 126 = .ok (.ifCond .eq 12, 3) := by decide +kernel
theorem dX12_shelf_129 : decode cX12_shelf 129 = .ok (.aload_n 0, 1) := by decide +kernel
theorem dX12_shelf_130 : decode cX12_shelf 130 = .ok (.getfield 46, 3) := by decide +kernel
theorem dX12_shelf_133 : decode cX12_shelf 133 = .ok (.iload_n 3, 1) := by decide +kernel
theorem dX12_shelf_134 : decode cX12_shelf 134 = .ok (.iaload, 1) := by decide +kernel
theorem dX12_shelf_135 : decode cX12_shelf 135 = .ok (.goto 4, 3) := by decide +kernel
theorem dX12_shelf_138 : decode cX12_shelf 138 = .ok (.iconst 0, 1) := by decide +kernel
theorem dX12_shelf_139 : decode cX12_shelf 139 = .ok (.iastore, 1) := by decide +kernel
theorem dX12_shelf_140 : decode cX12_shelf 140 = .ok (.iconst 1, 1) := by decide +kernel
theorem dX12_shelf_141 : decode cX12_shelf 141 = .ok (.ireturn, 1) := by decide +kernel
theorem dX12_heldOn_0 : decode cX12_heldOn 0 = .ok (.aload_n 0, 1) := by decide +kernel
theorem dX12_heldOn_1 : decode cX12_heldOn 1 = .ok (.getfield 52, 3) := by decide +kernel
theorem dX12_heldOn_4 : decode cX12_heldOn 4 = .ok (.iload_n 1, 1) := by decide +kernel
theorem dX12_heldOn_5 : decode cX12_heldOn 5 = .ok (.iaload, 1) := by decide +kernel
theorem dX12_heldOn_6 : decode cX12_heldOn 6 = .ok (.iconst 1, 1) := by decide +kernel
theorem dX12_heldOn_7 : decode cX12_heldOn 7 = .ok (.if_icmp .ne 20, 3) := by decide +kernel
theorem dX12_heldOn_10 : decode cX12_heldOn 10 = .ok (.aload_n 0, 1) := by decide +kernel
theorem dX12_heldOn_11 : decode cX12_heldOn 11 = .ok (.aload_n 0, 1) := by decide +kernel
theorem dX12_heldOn_12 : decode cX12_heldOn 12 = .ok (.getfield 55, 3) := by decide +kernel
theorem dX12_heldOn_15 : decode cX12_heldOn 15 = .ok (.iload_n 1, 1) := by decide +kernel
theorem dX12_heldOn_16 : decode cX12_heldOn 16 = .ok (.iaload, 1) := by decide +kernel
theorem dX12_heldOn_17 : decode cX12_heldOn 17 = .ok (.invokevirtual 110, 3) := by decide +kernel
theorem dX12_heldOn_20 : decode cX12_heldOn 20 = .ok (.ifCond .ne 7, 3) := by decide +kernel
theorem dX12_heldOn_23 : decode cX12_heldOn 23 = .ok (.iconst 0, 1) := by decide +kernel
theorem dX12_heldOn_24 : decode cX12_heldOn 24 = .ok (.goto 9, 3) := by decide +kernel
theorem dX12_heldOn_27 : decode cX12_heldOn 27 = .ok (.aload_n 0, 1) := by decide +kernel
theorem dX12_heldOn_28 : decode cX12_heldOn 28 = .ok (.getfield 52, 3) := by decide +kernel
theorem dX12_heldOn_31 : decode cX12_heldOn 31 = .ok (.iload_n 1, 1) := by decide +kernel
theorem dX12_heldOn_32 : decode cX12_heldOn 32 = .ok (.iaload, 1) := by decide +kernel
theorem dX12_heldOn_33 : decode cX12_heldOn 33 = .ok (.ireturn, 1) := by decide +kernel
theorem dX12_taken_0 : decode cX12_taken 0 = .ok (.iload_n 1, 1) := by decide +kernel
theorem dX12_taken_1 : decode cX12_taken 1 = .ok (.invokestatic 356, 3) := by decide +kernel
theorem dX12_taken_4 : decode cX12_taken 4 = .ok (.ifCond .eq 29, 3) := by decide +kernel
theorem dX12_taken_7 : decode cX12_taken 7 = .ok (.iload_n 2, 1) := by decide +kernel
theorem dX12_taken_8 : decode cX12_taken 8 = .ok (.i2l, 1) := by decide +kernel
theorem dX12_taken_9 : decode cX12_taken 9 = .ok (.lconst 0, 1) := by decide +kernel
theorem dX12_taken_10 : decode cX12_taken 10 = .ok (.ldc2_w 359, 3) := by decide +kernel
theorem dX12_taken_13 : decode cX12_taken 13 = .ok (.invokestatic 66, 3) := by decide +kernel
theorem dX12_taken_16 : decode cX12_taken 16 = .ok (.ifCond .eq 17, 3) := by decide +kernel
theorem dX12_taken_19 : decode cX12_taken 19 = .ok (.iload_n 2, 1) := by decide +kernel
theorem dX12_taken_20 : decode cX12_taken 20 = .ok (.i2l, 1) := by decide +kernel
theorem dX12_taken_21 : decode cX12_taken 21 = .ok (.ldc2_w 361, 3) := by decide +kernel
theorem dX12_taken_24 : decode cX12_taken 24 = .ok (.ldc2_w 70, 3) := by decide +kernel
theorem dX12_taken_27 : decode cX12_taken 27 = .ok (.invokestatic 66, 3) := by decide +kernel
theorem dX12_taken_30 : decode cX12_taken 30 = .ok (.ifCond .eq 5, 3) := by decide +kernel
theorem dX12_taken_33 : decode cX12_taken 33 = .ok (.iconst (-1), 1) := by decide +kernel
theorem dX12_taken_34 : decode cX12_taken 34 = .ok (.ireturn, 1) := by decide +kernel
theorem dX12_taken_35 : decode cX12_taken 35 = .ok (.aload_n 0, 1) := by decide +kernel
theorem dX12_taken_36 : decode cX12_taken 36 = .ok (.iload_n 1, 1) := by decide +kernel
theorem dX12_taken_37 : decode cX12_taken 37 = .ok (.invokevirtual 363, 3) := by decide +kernel
theorem dX12_taken_40 : decode cX12_taken 40 = .ok (.istore_n 3, 1) := by decide +kernel
theorem dX12_taken_41 : decode cX12_taken 41 = .ok (.iload_n 3, 1) := by decide +kernel
theorem dX12_taken_42 : decode cX12_taken 42 = .ok (.ifCond .ne 6, 3) := by decide +kernel
theorem dX12_taken_45 : decode cX12_taken 45 = .ok (.bipush (-11), 2) := by decide +kernel
theorem dX12_taken_47 : decode cX12_taken 47 = .ok (.ireturn, 1) := by decide +kernel
theorem dX12_taken_48 : decode cX12_taken 48 = .ok (.iload_n 2, 1) := by decide +kernel
theorem dX12_taken_49 : decode cX12_taken 49 = .ok (.bipush 10, 2) := by decide +kernel
theorem dX12_taken_51 : decode cX12_taken 51 = .ok (.if_icmp .ge 38, 3) := by decide +kernel
theorem dX12_taken_54 : decode cX12_taken 54 = .ok (.iload_n 3, 1) := by decide +kernel
theorem dX12_taken_55 : decode cX12_taken 55 = .ok (.iconst 1, 1) := by decide +kernel
theorem dX12_taken_56 : decode cX12_taken 56 = .ok (.if_icmp .ne 30, 3) := by decide +kernel
theorem dX12_taken_59 : decode cX12_taken 59 = .ok (.aload_n 0, 1) := by decide +kernel
theorem dX12_taken_60 : decode cX12_taken 60 = .ok (.aload_n 0, 1) := by decide +kernel
theorem dX12_taken_61 : decode cX12_taken 61 = .ok (.getfield 55, 3) := by decide +kernel
theorem dX12_taken_64 : decode cX12_taken 64 = .ok (.iload_n 1, 1) := by decide +kernel
theorem dX12_taken_65 : decode cX12_taken 65 = .ok (.iaload, 1) := by decide +kernel
theorem dX12_taken_66 : decode cX12_taken 66 = .ok (.iconst 0, 1) := by decide +kernel
theorem dX12_taken_67 : decode cX12_taken 67 = .ok (.invokevirtual 78, 3) := by decide +kernel
theorem dX12_taken_70 : decode cX12_taken 70 = .ok (.iload_n 2, 1) := by decide +kernel
theorem dX12_taken_71 : decode cX12_taken 71 = .ok (.invokestatic 92, 3) := by decide +kernel
theorem dX12_taken_74 : decode cX12_taken 74 = .ok (.ifCond .eq 12, 3) := by decide +kernel
theorem dX12_taken_77 : decode cX12_taken 77 = .ok (.aload_n 0, 1) := by decide +kernel
theorem dX12_taken_78 : decode cX12_taken 78 = .ok (.getfield 55, 3) := by decide +kernel
theorem dX12_taken_81 : decode cX12_taken 81 = .ok (.iload_n 1, 1) := by decide +kernel
theorem dX12_taken_82 : decode cX12_taken 82 = .ok (.iaload, 1) := by decide +kernel
theorem dX12_taken_83 : decode cX12_taken 83 = .ok (.goto 5, 3) := by decide +kernel
theorem dX12_taken_86 : decode cX12_taken 86 = .ok (.bipush (-13), 2) := by decide +kernel
theorem dX12_taken_88 : decode cX12_taken 88 = .ok (.ireturn, 1) := by decide +kernel
theorem dX12_taken_89 : decode cX12_taken 89 = .ok (.iload_n 3, 1) := by decide +kernel
theorem dX12_taken_90 : decode cX12_taken 90 = .ok (.iconst 2, 1) := by decide +kernel
theorem dX12_taken_91 : decode cX12_taken 91 = .ok (.if_icmp .ne 25, 3) := by decide +kernel
theorem dX12_taken_94 : decode cX12_taken 94 = .ok (.aload_n 0, 1) := by decide +kernel
theorem dX12_taken_95 : decode cX12_taken 95 = .ok (.getfield 55, 3) := by decide +kernel
theorem dX12_taken_98 : decode cX12_taken 98 = .ok (.iload_n 1, 1) := by decide +kernel
theorem dX12_taken_99 : decode cX12_taken 99 = .ok (.iaload, 1) := by decide +kernel
theorem dX12_taken_100 : decode cX12_taken 100 = .ok (.iload_n 2, 1) := by decide +kernel
theorem dX12_taken_101 : decode cX12_taken 101 = .ok (.bipush 10, 2) := by decide +kernel
theorem dX12_taken_103 : decode cX12_taken 103 = .ok (.isub, 1) := by decide +kernel
theorem dX12_taken_104 : decode cX12_taken 104 = .ok (.if_icmp .ne 12, 3) := by decide +kernel
theorem dX12_taken_107 : decode cX12_taken 107 = .ok (.aload_n 0, 1) := by decide +kernel
theorem dX12_taken_108 : decode cX12_taken 108 = .ok (.getfield 58, 3) := by decide +kernel
theorem dX12_taken_111 : decode cX12_taken 111 = .ok (.iload_n 1, 1) := by decide +kernel
theorem dX12_taken_112 : decode cX12_taken 112 = .ok (.iaload, 1) := by decide +kernel
theorem dX12_taken_113 : decode cX12_taken 113 = .ok (.goto 5, 3) := by decide +kernel
theorem dX12_taken_116 : decode cX12_taken 116 = .ok (.bipush (-13), 2) := by decide +kernel
theorem dX12_taken_118 : decode cX12_taken 118 = .ok (.ireturn, 1) := by decide +kernel
theorem dX12_runs_0 : decode cX12_runs 0 = .ok (.aload_n 0, 1) := by decide +kernel
theorem dX12_runs_1 : decode cX12_runs 1 = .ok (.getfield 366, 3) := by decide +kernel
theorem dX12_runs_4 : decode cX12_runs 4 = .ok (.bipush 30, 2) := by decide +kernel
theorem dX12_runs_6 : decode cX12_runs 6 = .ok (.if_icmp .ge 23, 3) := by decide +kernel
theorem dX12_runs_9 : decode cX12_runs 9 = .ok (.aload_n 0, 1) := by decide +kernel
theorem dX12_runs_10 : decode cX12_runs 10 = .ok (.getfield 61, 3) := by decide +kernel
theorem dX12_runs_13 : decode cX12_runs 13 = .ok (.aload_n 0, 1) := by decide +kernel
theorem dX12_runs_14 : decode cX12_runs 14 = .ok (.getfield 366, 3) := by decide +kernel
theorem dX12_runs_17 : decode cX12_runs 17 = .ok (.iload_n 1, 1) := by decide +kernel
theorem dX12_runs_18 : decode cX12_runs 18 = .ok (.iastore, 1) := by decide +kernel
theorem dX12_runs_19 : decode cX12_runs 19 = .ok (.aload_n 0, 1) := by decide +kernel
theorem dX12_runs_20 : decode cX12_runs 20 = .ok (.dup, 1) := by decide +kernel
theorem dX12_runs_21 : decode cX12_runs 21 = .ok (.getfield 366, 3) := by decide +kernel
theorem dX12_runs_24 : decode cX12_runs 24 = .ok (.iconst 1, 1) := by decide +kernel
theorem dX12_runs_25 : decode cX12_runs 25 = .ok (.iadd, 1) := by decide +kernel
theorem dX12_runs_26 : decode cX12_runs 26 = .ok (.putfield 366, 3) := by decide +kernel
theorem dX12_runs_29 : decode cX12_runs 29 = .ok (.return_, 1) := by decide +kernel
theorem dX12_glowsPlain_0 : decode cX12_glowsPlain 0 = .ok (.aload_n 0, 1) := by decide +kernel
theorem dX12_glowsPlain_1 : decode cX12_glowsPlain 1 = .ok (.bipush 10, 2) := by decide +kernel
theorem dX12_glowsPlain_3 : decode cX12_glowsPlain 3 = .ok (.invokevirtual 369, 3) := by decide +kernel
theorem dX12_glowsPlain_6 : decode cX12_glowsPlain 6 = .ok (.iload_n 1, 1) := by decide +kernel
theorem dX12_glowsPlain_7 : decode cX12_glowsPlain 7 = .ok (.aload_n 0, 1) := by decide +kernel
theorem dX12_glowsPlain_8 : decode cX12_glowsPlain 8 = .ok (.getfield 372, 3) := by decide +kernel
theorem dX12_glowsPlain_11 : decode cX12_glowsPlain 11 = .ok (.iconst 3, 1) := by decide +kernel
theorem dX12_glowsPlain_12 : decode cX12_glowsPlain 12 = .ok (.imul, 1) := by decide +kernel
theorem dX12_glowsPlain_13 : decode cX12_glowsPlain 13 = .ok (.isub, 1) := by decide +kernel
theorem dX12_glowsPlain_14 : decode cX12_glowsPlain 14 = .ok (.ireturn, 1) := by decide +kernel
theorem dX12_glows_0 : decode cX12_glows 0 = .ok (.aload_n 0, 1) := by decide +kernel
theorem dX12_glows_1 : decode cX12_glows 1 = .ok (.getfield 375, 3) := by decide +kernel
theorem dX12_glows_4 : decode cX12_glows 4 = .ok (.iconst 1, 1) := by decide +kernel
theorem dX12_glows_5 : decode cX12_glows 5 = .ok (.if_icmp .ne 17, 3) := by decide +kernel
theorem dX12_glows_8 : decode cX12_glows 8 = .ok (.aload_n 0, 1) := by decide +kernel
theorem dX12_glows_9 : decode cX12_glows 9 = .ok (.bipush 20, 2) := by decide +kernel
theorem dX12_glows_11 : decode cX12_glows 11 = .ok (.invokevirtual 369, 3) := by decide +kernel
theorem dX12_glows_14 : decode cX12_glows 14 = .ok (.aload_n 0, 1) := by decide +kernel
theorem dX12_glows_15 : decode cX12_glows 15 = .ok (.iload_n 1, 1) := by decide +kernel
theorem dX12_glows_16 : decode cX12_glows 16 = .ok (.invokevirtual 378, 3) := by decide +kernel
theorem dX12_glows_19 : decode cX12_glows 19 = .ok (.iconst 2, 1) := by decide +kernel
theorem dX12_glows_20 : decode cX12_glows 20 = .ok (.imul, 1) := by decide +kernel
theorem dX12_glows_21 : decode cX12_glows 21 = .ok (.ireturn, 1) := by decide +kernel
theorem dX12_glows_22 : decode cX12_glows 22 = .ok (.aload_n 0, 1) := by decide +kernel
theorem dX12_glows_23 : decode cX12_glows 23 = .ok (.getfield 375, 3) := by decide +kernel
theorem dX12_glows_26 : decode cX12_glows 26 = .ok (.iconst 3, 1) := by decide +kernel
theorem dX12_glows_27 : decode cX12_glows 27 = .ok (.if_icmp .ne 17, 3) := by decide +kernel
theorem dX12_glows_30 : decode cX12_glows 30 = .ok (.aload_n 0, 1) := by decide +kernel
theorem dX12_glows_31 : decode cX12_glows 31 = .ok (.bipush 50, 2) := by decide +kernel
theorem dX12_glows_33 : decode cX12_glows 33 = .ok (.invokevirtual 369, 3) := by decide +kernel
theorem dX12_glows_36 : decode cX12_glows 36 = .ok (.aload_n 0, 1) := by decide +kernel
theorem dX12_glows_37 : decode cX12_glows 37 = .ok (.iload_n 1, 1) := by decide +kernel
theorem dX12_glows_38 : decode cX12_glows 38 = .ok (.invokevirtual 378, 3) := by decide +kernel
theorem dX12_glows_41 : decode cX12_glows 41 = .ok (.iconst 3, 1) := by decide +kernel
theorem dX12_glows_42 : decode cX12_glows 42 = .ok (.ixor, 1) := by decide +kernel
theorem dX12_glows_43 : decode cX12_glows 43 = .ok (.ireturn, 1) := by decide +kernel
theorem dX12_glows_44 : decode cX12_glows 44 = .ok (.aload_n 0, 1) := by decide +kernel
theorem dX12_glows_45 : decode cX12_glows 45 = .ok (.iload_n 1, 1) := by decide +kernel
theorem dX12_glows_46 : decode cX12_glows 46 = .ok (.invokevirtual 378, 3) := by decide +kernel
theorem dX12_glows_49 : decode cX12_glows 49 = .ok (.ireturn, 1) := by decide +kernel
theorem dX12_longsPlain_0 : decode cX12_longsPlain 0 = .ok (.aload_n 0, 1) := by decide +kernel
theorem dX12_longsPlain_1 : decode cX12_longsPlain 1 = .ok (.bipush 11, 2) := by decide +kernel
theorem dX12_longsPlain_3 : decode cX12_longsPlain 3 = .ok (.invokevirtual 369, 3) := by decide +kernel
theorem dX12_longsPlain_6 : decode cX12_longsPlain 6 = .ok (.aload_n 0, 1) := by decide +kernel
theorem dX12_longsPlain_7 : decode cX12_longsPlain 7 = .ok (.iload_n 1, 1) := by decide +kernel
theorem dX12_longsPlain_8 : decode cX12_longsPlain 8 = .ok (.invokevirtual 381, 3) := by decide +kernel
theorem dX12_longsPlain_11 : decode cX12_longsPlain 11 = .ok (.aload_n 0, 1) := by decide +kernel
theorem dX12_longsPlain_12 : decode cX12_longsPlain 12 = .ok (.getfield 384, 3) := by decide +kernel
theorem dX12_longsPlain_15 : decode cX12_longsPlain 15 = .ok (.ixor, 1) := by decide +kernel
theorem dX12_longsPlain_16 : decode cX12_longsPlain 16 = .ok (.ireturn, 1) := by decide +kernel
theorem dX12_longsActs_0 : decode cX12_longsActs 0 = .ok (.aload_n 0, 1) := by decide +kernel
theorem dX12_longsActs_1 : decode cX12_longsActs 1 = .ok (.getfield 375, 3) := by decide +kernel
theorem dX12_longsActs_4 : decode cX12_longsActs 4 = .ok (.iconst 2, 1) := by decide +kernel
theorem dX12_longsActs_5 : decode cX12_longsActs 5 = .ok (.if_icmp .eq 11, 3) := by decide +kernel
theorem dX12_longsActs_8 : decode cX12_longsActs 8 = .ok (.aload_n 0, 1) := by decide +kernel
theorem dX12_longsActs_9 : decode cX12_longsActs 9 = .ok (.getfield 375, 3) := by decide +kernel
theorem dX12_longsActs_12 : decode cX12_longsActs 12 = .ok (.iconst 3, 1) := by decide +kernel
theorem dX12_longsActs_13 : decode cX12_longsActs 13 = .ok (.if_icmp .ne 20, 3) := by decide +kernel
theorem dX12_longsActs_16 : decode cX12_longsActs 16 = .ok (.aload_n 0, 1) := by decide +kernel
theorem dX12_longsActs_17 : decode cX12_longsActs 17 = .ok (.bipush 30, 2) := by decide +kernel
theorem dX12_longsActs_19 : decode cX12_longsActs 19 = .ok (.invokevirtual 369, 3) := by decide +kernel
theorem dX12_longsActs_22 : decode cX12_longsActs 22 = .ok (.aload_n 0, 1) := by decide +kernel
theorem dX12_longsActs_23 : decode cX12_longsActs 23 = .ok (.iload_n 1, 1) := by decide +kernel
theorem dX12_longsActs_24 : decode cX12_longsActs 24 = .ok (.invokevirtual 387, 3) := by decide +kernel
theorem dX12_longsActs_27 : decode cX12_longsActs 27 = .ok (.aload_n 0, 1) := by decide +kernel
theorem dX12_longsActs_28 : decode cX12_longsActs 28 = .ok (.getfield 372, 3) := by decide +kernel
theorem dX12_longsActs_31 : decode cX12_longsActs 31 = .ok (.isub, 1) := by decide +kernel
theorem dX12_longsActs_32 : decode cX12_longsActs 32 = .ok (.ireturn, 1) := by decide +kernel
theorem dX12_longsActs_33 : decode cX12_longsActs 33 = .ok (.aload_n 0, 1) := by decide +kernel
theorem dX12_longsActs_34 : decode cX12_longsActs 34 = .ok (.getfield 375, 3) := by decide +kernel
theorem dX12_longsActs_37 : decode cX12_longsActs 37 = .ok (.iconst 5, 1) := by decide +kernel
theorem dX12_longsActs_38 : decode cX12_longsActs 38 = .ok (.if_icmp .ne 17, 3) := by decide +kernel
theorem dX12_longsActs_41 : decode cX12_longsActs 41 = .ok (.aload_n 0, 1) := by decide +kernel
theorem dX12_longsActs_42 : decode cX12_longsActs 42 = .ok (.bipush 60, 2) := by decide +kernel
theorem dX12_longsActs_44 : decode cX12_longsActs 44 = .ok (.invokevirtual 369, 3) := by decide +kernel
theorem dX12_longsActs_47 : decode cX12_longsActs 47 = .ok (.iconst 0, 1) := by decide +kernel
theorem dX12_longsActs_48 : decode cX12_longsActs 48 = .ok (.aload_n 0, 1) := by decide +kernel
theorem dX12_longsActs_49 : decode cX12_longsActs 49 = .ok (.iload_n 1, 1) := by decide +kernel
theorem dX12_longsActs_50 : decode cX12_longsActs 50 = .ok (.invokevirtual 387, 3) := by decide +kernel
theorem dX12_longsActs_53 : decode cX12_longsActs 53 = .ok (.isub, 1) := by decide +kernel
theorem dX12_longsActs_54 : decode cX12_longsActs 54 = .ok (.ireturn, 1) := by decide +kernel
theorem dX12_longsActs_55 : decode cX12_longsActs 55 = .ok (.aload_n 0, 1) := by decide +kernel
theorem dX12_longsActs_56 : decode cX12_longsActs 56 = .ok (.iload_n 1, 1) := by decide +kernel
theorem dX12_longsActs_57 : decode cX12_longsActs 57 = .ok (.invokevirtual 387, 3) := by decide +kernel
theorem dX12_longsActs_60 : decode cX12_longsActs 60 = .ok (.ireturn, 1) := by decide +kernel
theorem dX12_partsPlain_0 : decode cX12_partsPlain 0 = .ok (.aload_n 0, 1) := by decide +kernel
theorem dX12_partsPlain_1 : decode cX12_partsPlain 1 = .ok (.bipush 12, 2) := by decide +kernel
theorem dX12_partsPlain_3 : decode cX12_partsPlain 3 = .ok (.invokevirtual 369, 3) := by decide +kernel
theorem dX12_partsPlain_6 : decode cX12_partsPlain 6 = .ok (.aload_n 0, 1) := by decide +kernel
theorem dX12_partsPlain_7 : decode cX12_partsPlain 7 = .ok (.aload_n 0, 1) := by decide +kernel
theorem dX12_partsPlain_8 : decode cX12_partsPlain 8 = .ok (.getfield 390, 3) := by decide +kernel
theorem dX12_partsPlain_11 : decode cX12_partsPlain 11 = .ok (.ifCond .ne 14, 3) := by decide +kernel
theorem dX12_partsPlain_14 : decode cX12_partsPlain 14 = .ok (.aload_n 0, 1) := by decide +kernel
theorem dX12_partsPlain_15 : decode cX12_partsPlain 15 = .ok (.getfield 372, 3) := by decide +kernel
theorem dX12_partsPlain_18 : decode cX12_partsPlain 18 = .ok (.aload_n 0, 1) := by decide +kernel
theorem dX12_partsPlain_19 : decode cX12_partsPlain 19 = .ok (.getfield 384, 3) := by decide +kernel
theorem dX12_partsPlain_22 : decode cX12_partsPlain 22 = .ok (.if_icmp .ne 7, 3) := by decide +kernel
theorem dX12_partsPlain_25 : decode cX12_partsPlain 25 = .ok (.iconst 1, 1) := by decide +kernel
theorem dX12_partsPlain_26 : decode cX12_partsPlain 26 = .ok (.goto 4, 3) := by decide +kernel
theorem dX12_partsPlain_29 : decode cX12_partsPlain 29 = .ok (.iconst 0, 1) := by decide +kernel
theorem dX12_partsPlain_30 : decode cX12_partsPlain 30 = .ok (.putfield 390, 3) := by decide +kernel
theorem dX12_partsPlain_33 : decode cX12_partsPlain 33 = .ok (.aload_n 0, 1) := by decide +kernel
theorem dX12_partsPlain_34 : decode cX12_partsPlain 34 = .ok (.getfield 390, 3) := by decide +kernel
theorem dX12_partsPlain_37 : decode cX12_partsPlain 37 = .ok (.ifCond .eq 7, 3) := by decide +kernel
theorem dX12_partsPlain_40 : decode cX12_partsPlain 40 = .ok (.iconst 0, 1) := by decide +kernel
theorem dX12_partsPlain_41 : decode cX12_partsPlain 41 = .ok (.goto 14, 3) := by decide +kernel
theorem dX12_partsPlain_44 : decode cX12_partsPlain 44 = .ok (.iload_n 1, 1) := by decide +kernel
theorem dX12_partsPlain_45 : decode cX12_partsPlain 45 = .ok (.aload_n 0, 1) := by decide +kernel
theorem dX12_partsPlain_46 : decode cX12_partsPlain 46 = .ok (.getfield 372, 3) := by decide +kernel
theorem dX12_partsPlain_49 : decode cX12_partsPlain 49 = .ok (.aload_n 0, 1) := by decide +kernel
theorem dX12_partsPlain_50 : decode cX12_partsPlain 50 = .ok (.getfield 384, 3) := by decide +kernel
theorem dX12_partsPlain_53 : decode cX12_partsPlain 53 = .ok (.isub, 1) := by decide +kernel
theorem dX12_partsPlain_54 : decode cX12_partsPlain 54 = .ok (.irem, 1) := by decide +kernel
theorem dX12_partsPlain_55 : decode cX12_partsPlain 55 = .ok (.ireturn, 1) := by decide +kernel
theorem dX12_partsPortable_0 : decode cX12_partsPortable 0 = .ok (.aload_n 0, 1) := by decide +kernel
theorem dX12_partsPortable_1 : decode cX12_partsPortable 1 = .ok (.bipush 40, 2) := by decide +kernel
theorem dX12_partsPortable_3 : decode cX12_partsPortable 3 = .ok (.invokevirtual 369, 3) := by decide +kernel
theorem dX12_partsPortable_6 : decode cX12_partsPortable 6 = .ok (.aload_n 0, 1) := by decide +kernel
theorem dX12_partsPortable_7 : decode cX12_partsPortable 7 = .ok (.iload_n 1, 1) := by decide +kernel
theorem dX12_partsPortable_8 : decode cX12_partsPortable 8 = .ok (.invokevirtual 393, 3) := by decide +kernel
theorem dX12_partsPortable_11 : decode cX12_partsPortable 11 = .ok (.aload_n 0, 1) := by decide +kernel
theorem dX12_partsPortable_12 : decode cX12_partsPortable 12 = .ok (.getfield 384, 3) := by decide +kernel
theorem dX12_partsPortable_15 : decode cX12_partsPortable 15 = .ok (.iadd, 1) := by decide +kernel
theorem dX12_partsPortable_16 : decode cX12_partsPortable 16 = .ok (.ireturn, 1) := by decide +kernel
theorem dX12_parts_0 : decode cX12_parts 0 = .ok (.aload_n 0, 1) := by decide +kernel
theorem dX12_parts_1 : decode cX12_parts 1 = .ok (.getfield 375, 3) := by decide +kernel
theorem dX12_parts_4 : decode cX12_parts 4 = .ok (.iconst 4, 1) := by decide +kernel
theorem dX12_parts_5 : decode cX12_parts 5 = .ok (.if_icmp .ne 9, 3) := by decide +kernel
theorem dX12_parts_8 : decode cX12_parts 8 = .ok (.aload_n 0, 1) := by decide +kernel
theorem dX12_parts_9 : decode cX12_parts 9 = .ok (.iload_n 1, 1) := by decide +kernel
theorem dX12_parts_10 : decode cX12_parts 10 = .ok (.invokevirtual 396, 3) := by decide +kernel
theorem dX12_parts_13 : decode cX12_parts 13 = .ok (.ireturn, 1) := by decide +kernel
theorem dX12_parts_14 : decode cX12_parts 14 = .ok (.aload_n 0, 1) := by decide +kernel
theorem dX12_parts_15 : decode cX12_parts 15 = .ok (.getfield 375, 3) := by decide +kernel
theorem dX12_parts_18 : decode cX12_parts 18 = .ok (.iconst 5, 1) := by decide +kernel
theorem dX12_parts_19 : decode cX12_parts 19 = .ok (.if_icmp .eq 9, 3) := by decide +kernel
theorem dX12_parts_22 : decode cX12_parts 22 = .ok (.aload_n 0, 1) := by decide +kernel
theorem dX12_parts_23 : decode cX12_parts 23 = .ok (.iload_n 1, 1) := by decide +kernel
theorem dX12_parts_24 : decode cX12_parts 24 = .ok (.invokevirtual 393, 3) := by decide +kernel
theorem dX12_parts_27 : decode cX12_parts 27 = .ok (.ireturn, 1) := by decide +kernel
theorem dX12_parts_28 : decode cX12_parts 28 = .ok (.aload_n 0, 1) := by decide +kernel
theorem dX12_parts_29 : decode cX12_parts 29 = .ok (.bipush 61, 2) := by decide +kernel
theorem dX12_parts_31 : decode cX12_parts 31 = .ok (.invokevirtual 369, 3) := by decide +kernel
theorem dX12_parts_34 : decode cX12_parts 34 = .ok (.aload_n 0, 1) := by decide +kernel
theorem dX12_parts_35 : decode cX12_parts 35 = .ok (.iload_n 1, 1) := by decide +kernel
theorem dX12_parts_36 : decode cX12_parts 36 = .ok (.invokevirtual 396, 3) := by decide +kernel
theorem dX12_parts_39 : decode cX12_parts 39 = .ok (.istore_n 2, 1) := by decide +kernel
theorem dX12_parts_40 : decode cX12_parts 40 = .ok (.aload_n 0, 1) := by decide +kernel
theorem dX12_parts_41 : decode cX12_parts 41 = .ok (.getfield 390, 3) := by decide +kernel
theorem dX12_parts_44 : decode cX12_parts 44 = .ok (.ifCond .eq 7, 3) := by decide +kernel
theorem dX12_parts_47 : decode cX12_parts 47 = .ok (.iconst 0, 1) := by decide +kernel
theorem dX12_parts_48 : decode cX12_parts 48 = .ok (.goto 13, 3) := by decide +kernel
theorem dX12_parts_51 : decode cX12_parts 51 = .ok (.iload_n 2, 1) := by decide +kernel
theorem dX12_parts_52 : decode cX12_parts 52 = .ok (.aload_n 0, 1) := by decide +kernel
theorem dX12_parts_53 : decode cX12_parts 53 = .ok (.aload_n 0, 1) := by decide +kernel
theorem dX12_parts_54 : decode cX12_parts 54 = .ok (.getfield 372, 3) := by decide +kernel
theorem dX12_parts_57 : decode cX12_parts 57 = .ok (.invokevirtual 381, 3) := by decide +kernel
theorem dX12_parts_60 : decode cX12_parts 60 = .ok (.isub, 1) := by decide +kernel
theorem dX12_parts_61 : decode cX12_parts 61 = .ok (.ireturn, 1) := by decide +kernel
theorem dX12_wedsPlain_0 : decode cX12_wedsPlain 0 = .ok (.aload_n 0, 1) := by decide +kernel
theorem dX12_wedsPlain_1 : decode cX12_wedsPlain 1 = .ok (.bipush 13, 2) := by decide +kernel
theorem dX12_wedsPlain_3 : decode cX12_wedsPlain 3 = .ok (.invokevirtual 369, 3) := by decide +kernel
theorem dX12_wedsPlain_6 : decode cX12_wedsPlain 6 = .ok (.aload_n 0, 1) := by decide +kernel
theorem dX12_wedsPlain_7 : decode cX12_wedsPlain 7 = .ok (.iload_n 1, 1) := by decide +kernel
theorem dX12_wedsPlain_8 : decode cX12_wedsPlain 8 = .ok (.invokevirtual 399, 3) := by decide +kernel
theorem dX12_wedsPlain_11 : decode cX12_wedsPlain 11 = .ok (.iconst 1, 1) := by decide +kernel
theorem dX12_wedsPlain_12 : decode cX12_wedsPlain 12 = .ok (.iadd, 1) := by decide +kernel
theorem dX12_wedsPlain_13 : decode cX12_wedsPlain 13 = .ok (.ireturn, 1) := by decide +kernel
theorem dX12_wedsActs_0 : decode cX12_wedsActs 0 = .ok (.aload_n 0, 1) := by decide +kernel
theorem dX12_wedsActs_1 : decode cX12_wedsActs 1 = .ok (.getfield 375, 3) := by decide +kernel
theorem dX12_wedsActs_4 : decode cX12_wedsActs 4 = .ok (.iconst 3, 1) := by decide +kernel
theorem dX12_wedsActs_5 : decode cX12_wedsActs 5 = .ok (.if_icmp .eq 9, 3) := by decide +kernel
theorem dX12_wedsActs_8 : decode cX12_wedsActs 8 = .ok (.aload_n 0, 1) := by decide +kernel
theorem dX12_wedsActs_9 : decode cX12_wedsActs 9 = .ok (.iload_n 1, 1) := by decide +kernel
theorem dX12_wedsActs_10 : decode cX12_wedsActs 10 = .ok (.invokevirtual 402, 3) := by decide +kernel
theorem dX12_wedsActs_13 : decode cX12_wedsActs 13 = .ok (.ireturn, 1) := by decide +kernel
theorem dX12_wedsActs_14 : decode cX12_wedsActs 14 = .ok (.aload_n 0, 1) := by decide +kernel
theorem dX12_wedsActs_15 : decode cX12_wedsActs 15 = .ok (.bipush 51, 2) := by decide +kernel
theorem dX12_wedsActs_17 : decode cX12_wedsActs 17 = .ok (.invokevirtual 369, 3) := by decide +kernel
theorem dX12_wedsActs_20 : decode cX12_wedsActs 20 = .ok (.aload_n 0, 1) := by decide +kernel
theorem dX12_wedsActs_21 : decode cX12_wedsActs 21 = .ok (.iload_n 1, 1) := by decide +kernel
theorem dX12_wedsActs_22 : decode cX12_wedsActs 22 = .ok (.invokevirtual 402, 3) := by decide +kernel
theorem dX12_wedsActs_25 : decode cX12_wedsActs 25 = .ok (.istore_n 2, 1) := by decide +kernel
theorem dX12_wedsActs_26 : decode cX12_wedsActs 26 = .ok (.iload_n 2, 1) := by decide +kernel
theorem dX12_wedsActs_27 : decode cX12_wedsActs 27 = .ok (.aload_n 0, 1) := by decide +kernel
theorem dX12_wedsActs_28 : decode cX12_wedsActs 28 = .ok (.iload_n 1, 1) := by decide +kernel
theorem dX12_wedsActs_29 : decode cX12_wedsActs 29 = .ok (.invokevirtual 405, 3) := by decide +kernel
theorem dX12_wedsActs_32 : decode cX12_wedsActs 32 = .ok (.imul, 1) := by decide +kernel
theorem dX12_wedsActs_33 : decode cX12_wedsActs 33 = .ok (.ireturn, 1) := by decide +kernel
theorem dX12_act_0 : decode cX12_act 0 = .ok (.aload_n 0, 1) := by decide +kernel
theorem dX12_act_1 : decode cX12_act 1 = .ok (.iconst 0, 1) := by decide +kernel
theorem dX12_act_2 : decode cX12_act 2 = .ok (.putfield 366, 3) := by decide +kernel
theorem dX12_act_5 : decode cX12_act 5 = .ok (.iload_n 1, 1) := by decide +kernel
theorem dX12_act_6 : decode cX12_act 6 = .ok (.invokestatic 356, 3) := by decide +kernel
theorem dX12_act_9 : decode cX12_act 9 = .ok (.ifCond .eq 24, 3) := by decide +kernel
theorem dX12_act_12 : decode cX12_act 12 = .ok (.iload_n 2, 1) := by decide +kernel
theorem dX12_act_13 : decode cX12_act 13 = .ok (.i2l, 1) := by decide +kernel
theorem dX12_act_14 : decode cX12_act 14 = .ok (.lconst 0, 1) := by decide +kernel
theorem dX12_act_15 : decode cX12_act 15 = .ok (.ldc2_w 300, 3) := by decide +kernel
theorem dX12_act_18 : decode cX12_act 18 = .ok (.invokestatic 66, 3) := by decide +kernel
theorem dX12_act_21 : decode cX12_act 21 = .ok (.ifCond .eq 12, 3) := by decide +kernel
theorem dX12_act_24 : decode cX12_act 24 = .ok (.aload_n 0, 1) := by decide +kernel
theorem dX12_act_25 : decode cX12_act 25 = .ok (.iload_n 1, 1) := by decide +kernel
theorem dX12_act_26 : decode cX12_act 26 = .ok (.invokevirtual 363, 3) := by decide +kernel
theorem dX12_act_29 : decode cX12_act 29 = .ok (.iconst 1, 1) := by decide +kernel
theorem dX12_act_30 : decode cX12_act 30 = .ok (.if_icmp .eq 5, 3) := by decide +kernel
theorem dX12_act_33 : decode cX12_act 33 = .ok (.iconst 0, 1) := by decide +kernel
theorem dX12_act_34 : decode cX12_act 34 = .ok (.ireturn, 1) := by decide +kernel
theorem dX12_act_35 : decode cX12_act 35 = .ok (.aload_n 0, 1) := by decide +kernel
theorem dX12_act_36 : decode cX12_act 36 = .ok (.iconst 0, 1) := by decide +kernel
theorem dX12_act_37 : decode cX12_act 37 = .ok (.putfield 390, 3) := by decide +kernel
theorem dX12_act_40 : decode cX12_act 40 = .ok (.aload_n 0, 1) := by decide +kernel
theorem dX12_act_41 : decode cX12_act 41 = .ok (.aload_n 0, 1) := by decide +kernel
theorem dX12_act_42 : decode cX12_act 42 = .ok (.aload_n 0, 1) := by decide +kernel
theorem dX12_act_43 : decode cX12_act 43 = .ok (.getfield 55, 3) := by decide +kernel
theorem dX12_act_46 : decode cX12_act 46 = .ok (.iload_n 1, 1) := by decide +kernel
theorem dX12_act_47 : decode cX12_act 47 = .ok (.iaload, 1) := by decide +kernel
theorem dX12_act_48 : decode cX12_act 48 = .ok (.iconst 0, 1) := by decide +kernel
theorem dX12_act_49 : decode cX12_act 49 = .ok (.invokevirtual 78, 3) := by decide +kernel
theorem dX12_act_52 : decode cX12_act 52 = .ok (.putfield 375, 3) := by decide +kernel
theorem dX12_act_55 : decode cX12_act 55 = .ok (.aload_n 0, 1) := by decide +kernel
theorem dX12_act_56 : decode cX12_act 56 = .ok (.aload_n 0, 1) := by decide +kernel
theorem dX12_act_57 : decode cX12_act 57 = .ok (.getfield 55, 3) := by decide +kernel
theorem dX12_act_60 : decode cX12_act 60 = .ok (.iload_n 1, 1) := by decide +kernel
theorem dX12_act_61 : decode cX12_act 61 = .ok (.iaload, 1) := by decide +kernel
theorem dX12_act_62 : decode cX12_act 62 = .ok (.putfield 372, 3) := by decide +kernel
theorem dX12_act_65 : decode cX12_act 65 = .ok (.aload_n 0, 1) := by decide +kernel
theorem dX12_act_66 : decode cX12_act 66 = .ok (.aload_n 0, 1) := by decide +kernel
theorem dX12_act_67 : decode cX12_act 67 = .ok (.aload_n 0, 1) := by decide +kernel
theorem dX12_act_68 : decode cX12_act 68 = .ok (.getfield 55, 3) := by decide +kernel
theorem dX12_act_71 : decode cX12_act 71 = .ok (.iload_n 1, 1) := by decide +kernel
theorem dX12_act_72 : decode cX12_act 72 = .ok (.iaload, 1) := by decide +kernel
theorem dX12_act_73 : decode cX12_act 73 = .ok (.iconst 3, 1) := by decide +kernel
theorem dX12_act_74 : decode cX12_act 74 = .ok (.invokevirtual 78, 3) := by decide +kernel
theorem dX12_act_77 : decode cX12_act 77 = .ok (.putfield 384, 3) := by decide +kernel
theorem dX12_act_80 : decode cX12_act 80 = .ok (.iload_n 2, 1) := by decide +kernel
theorem dX12_act_81 : decode cX12_act 81 = .ok (.ifCond .ne 11, 3) := by decide +kernel
theorem dX12_act_84 : decode cX12_act 84 = .ok (.aload_n 0, 1) := by decide +kernel
theorem dX12_act_85 : decode cX12_act 85 = .ok (.iload_n 3, 1) := by decide +kernel
theorem dX12_act_86 : decode cX12_act 86 = .ok (.invokevirtual 381, 3) := by decide +kernel
theorem dX12_act_89 : decode cX12_act 89 = .ok (.goto 34, 3) := by decide +kernel
theorem dX12_act_92 : decode cX12_act 92 = .ok (.iload_n 2, 1) := by decide +kernel
theorem dX12_act_93 : decode cX12_act 93 = .ok (.iconst 1, 1) := by decide +kernel
theorem dX12_act_94 : decode cX12_act 94 = .ok (.if_icmp .ne 11, 3) := by decide +kernel
theorem dX12_act_97 : decode cX12_act 97 = .ok (.aload_n 0, 1) := by decide +kernel
theorem dX12_act_98 : decode cX12_act 98 = .ok (.iload_n 3, 1) := by decide +kernel
theorem dX12_act_99 : decode cX12_act 99 = .ok (.invokevirtual 399, 3) := by decide +kernel
theorem dX12_act_102 : decode cX12_act 102 = .ok (.goto 21, 3) := by decide +kernel
theorem dX12_act_105 : decode cX12_act 105 = .ok (.iload_n 2, 1) := by decide +kernel
theorem dX12_act_106 : decode cX12_act 106 = .ok (.iconst 2, 1) := by decide +kernel
theorem dX12_act_107 : decode cX12_act 107 = .ok (.if_icmp .ne 11, 3) := by decide +kernel
theorem dX12_act_110 : decode cX12_act 110 = .ok (.aload_n 0, 1) := by decide +kernel
theorem dX12_act_111 : decode cX12_act 111 = .ok (.iload_n 3, 1) := by decide +kernel
theorem dX12_act_112 : decode cX12_act 112 = .ok (.invokevirtual 405, 3) := by decide +kernel
theorem dX12_act_115 : decode cX12_act 115 = .ok (.goto 8, 3) := by decide +kernel
theorem dX12_act_118 : decode cX12_act 118 = .ok (.aload_n 0, 1) := by decide +kernel
theorem dX12_act_119 : decode cX12_act 119 = .ok (.iload_n 3, 1) := by decide +kernel
theorem dX12_act_120 : decode cX12_act 120 = .ok (.invokevirtual 408, 3) := by decide +kernel
theorem dX12_act_123 : decode cX12_act 123 = .ok (.istore 4, 2) := by decide +kernel
theorem dX12_act_125 : decode cX12_act 125 = .ok (.aload_n 0, 1) := by decide +kernel
theorem dX12_act_126 : decode cX12_act 126 = .ok (.getfield 390, 3) := by decide +kernel
theorem dX12_act_129 : decode cX12_act 129 = .ok (.ifCond .eq 8, 3) := by decide +kernel
theorem dX12_act_132 : decode cX12_act 132 = .ok (.bipush (-15), 2) := by decide +kernel
theorem dX12_act_134 : decode cX12_act 134 = .ok (.goto 5, 3) := by decide +kernel
theorem dX12_act_137 : decode cX12_act 137 = .ok (.iload 4, 2) := by decide +kernel
theorem dX12_act_139 : decode cX12_act 139 = .ok (.ireturn, 1) := by decide +kernel
theorem dX12_trace_0 : decode cX12_trace 0 = .ok (.iload_n 1, 1) := by decide +kernel
theorem dX12_trace_1 : decode cX12_trace 1 = .ok (.i2l, 1) := by decide +kernel
theorem dX12_trace_2 : decode cX12_trace 2 = .ok (.lconst 0, 1) := by decide +kernel
theorem dX12_trace_3 : decode cX12_trace 3 = .ok (.aload_n 0, 1) := by decide +kernel
theorem dX12_trace_4 : decode cX12_trace 4 = .ok (.getfield 366, 3) := by decide +kernel
theorem dX12_trace_7 : decode cX12_trace 7 = .ok (.iconst 1, 1) := by decide +kernel
theorem dX12_trace_8 : decode cX12_trace 8 = .ok (.isub, 1) := by decide +kernel
theorem dX12_trace_9 : decode cX12_trace 9 = .ok (.i2l, 1) := by decide +kernel
theorem dX12_trace_10 : decode cX12_trace 10 = .ok (.invokestatic 66, 3) := by decide +kernel
theorem dX12_trace_13 : decode cX12_trace 13 = .ok (.ifCond .eq 12, 3) := by decide +kernel
theorem dX12_trace_16 : decode cX12_trace 16 = .ok (.aload_n 0, 1) := by decide +kernel
theorem dX12_trace_17 : decode cX12_trace 17 = .ok (.getfield 61, 3) := by decide +kernel
theorem dX12_trace_20 : decode cX12_trace 20 = .ok (.iload_n 1, 1) := by decide +kernel
theorem dX12_trace_21 : decode cX12_trace 21 = .ok (.iaload, 1) := by decide +kernel
theorem dX12_trace_22 : decode cX12_trace 22 = .ok (.goto 5, 3) := by decide +kernel
theorem dX12_trace_25 : decode cX12_trace 25 = .ok (.bipush (-3), 2) := by decide +kernel
theorem dX12_trace_27 : decode cX12_trace 27 = .ok (.ireturn, 1) := by decide +kernel
theorem dX12_many_0 : decode cX12_many 0 = .ok (.iload_n 1, 1) := by decide +kernel
theorem dX12_many_1 : decode cX12_many 1 = .ok (.tableswitch 88 0 6 #[43, 50, 57, 65, 73, 78, 83], 43) := by decide +kernel
theorem dX12_many_44 : decode cX12_many 44 = .ok (.aload_n 0, 1) := by decide +kernel
theorem dX12_many_45 : decode cX12_many 45 = .ok (.getfield 7, 3) := by decide +kernel
theorem dX12_many_48 : decode cX12_many 48 = .ok (.iconst 0, 1) := by decide +kernel
theorem dX12_many_49 : decode cX12_many 49 = .ok (.iaload, 1) := by decide +kernel
theorem dX12_many_50 : decode cX12_many 50 = .ok (.ireturn, 1) := by decide +kernel
theorem dX12_many_51 : decode cX12_many 51 = .ok (.aload_n 0, 1) := by decide +kernel
theorem dX12_many_52 : decode cX12_many 52 = .ok (.getfield 7, 3) := by decide +kernel
theorem dX12_many_55 : decode cX12_many 55 = .ok (.iconst 5, 1) := by decide +kernel
theorem dX12_many_56 : decode cX12_many 56 = .ok (.iaload, 1) := by decide +kernel
theorem dX12_many_57 : decode cX12_many 57 = .ok (.ireturn, 1) := by decide +kernel
theorem dX12_many_58 : decode cX12_many 58 = .ok (.aload_n 0, 1) := by decide +kernel
theorem dX12_many_59 : decode cX12_many 59 = .ok (.invokevirtual 137, 3) := by decide +kernel
theorem dX12_many_62 : decode cX12_many 62 = .ok (.invokestatic 263, 3) := by decide +kernel
theorem dX12_many_65 : decode cX12_many 65 = .ok (.ireturn, 1) := by decide +kernel
theorem dX12_many_66 : decode cX12_many 66 = .ok (.aload_n 0, 1) := by decide +kernel
theorem dX12_many_67 : decode cX12_many 67 = .ok (.getfield 7, 3) := by decide +kernel
theorem dX12_many_70 : decode cX12_many 70 = .ok (.bipush 6, 2) := by decide +kernel
theorem dX12_many_72 : decode cX12_many 72 = .ok (.iaload, 1) := by decide +kernel
theorem dX12_many_73 : decode cX12_many 73 = .ok (.ireturn, 1) := by decide +kernel
theorem dX12_many_74 : decode cX12_many 74 = .ok (.aload_n 0, 1) := by decide +kernel
theorem dX12_many_75 : decode cX12_many 75 = .ok (.getfield 336, 3) := by decide +kernel
theorem dX12_many_78 : decode cX12_many 78 = .ok (.ireturn, 1) := by decide +kernel
theorem dX12_many_79 : decode cX12_many 79 = .ok (.aload_n 0, 1) := by decide +kernel
theorem dX12_many_80 : decode cX12_many 80 = .ok (.getfield 143, 3) := by decide +kernel
theorem dX12_many_83 : decode cX12_many 83 = .ok (.ireturn, 1) := by decide +kernel
theorem dX12_many_84 : decode cX12_many 84 = .ok (.aload_n 0, 1) := by decide +kernel
theorem dX12_many_85 : decode cX12_many 85 = .ok (.getfield 366, 3) := by decide +kernel
theorem dX12_many_88 : decode cX12_many 88 = .ok (.ireturn, 1) := by decide +kernel
theorem dX12_many_89 : decode cX12_many 89 = .ok (.iconst (-1), 1) := by decide +kernel
theorem dX12_many_90 : decode cX12_many 90 = .ok (.ireturn, 1) := by decide +kernel
theorem dX12_keep_0 : decode cX12_keep 0 = .ok (.iconst 0, 1) := by decide +kernel
theorem dX12_keep_1 : decode cX12_keep 1 = .ok (.istore_n 1, 1) := by decide +kernel
theorem dX12_keep_2 : decode cX12_keep 2 = .ok (.iload_n 1, 1) := by decide +kernel
theorem dX12_keep_3 : decode cX12_keep 3 = .ok (.sipush 544, 3) := by decide +kernel
theorem dX12_keep_6 : decode cX12_keep 6 = .ok (.if_icmp .ge 21, 3) := by decide +kernel
theorem dX12_keep_9 : decode cX12_keep 9 = .ok (.aload_n 0, 1) := by decide +kernel
theorem dX12_keep_10 : decode cX12_keep 10 = .ok (.getfield 13, 3) := by decide +kernel
theorem dX12_keep_13 : decode cX12_keep 13 = .ok (.iload_n 1, 1) := by decide +kernel
theorem dX12_keep_14 : decode cX12_keep 14 = .ok (.aload_n 0, 1) := by decide +kernel
theorem dX12_keep_15 : decode cX12_keep 15 = .ok (.getfield 7, 3) := by decide +kernel
theorem dX12_keep_18 : decode cX12_keep 18 = .ok (.iload_n 1, 1) := by decide +kernel
theorem dX12_keep_19 : decode cX12_keep 19 = .ok (.iaload, 1) := by decide +kernel
theorem dX12_keep_20 : decode cX12_keep 20 = .ok (.iastore, 1) := by decide +kernel
theorem dX12_keep_21 : decode cX12_keep 21 = .ok (.iinc 1 1, 3) := by decide +kernel
theorem dX12_keep_24 : decode cX12_keep 24 = .ok (.goto (-22), 3) := by decide +kernel
theorem dX12_keep_27 : decode cX12_keep 27 = .ok (.aload_n 0, 1) := by decide +kernel
theorem dX12_keep_28 : decode cX12_keep 28 = .ok (.iconst 1, 1) := by decide +kernel
theorem dX12_keep_29 : decode cX12_keep 29 = .ok (.putfield 411, 3) := by decide +kernel
theorem dX12_keep_32 : decode cX12_keep 32 = .ok (.iconst 1, 1) := by decide +kernel
theorem dX12_keep_33 : decode cX12_keep 33 = .ok (.ireturn, 1) := by decide +kernel
theorem dX12_again_0 : decode cX12_again 0 = .ok (.aload_n 0, 1) := by decide +kernel
theorem dX12_again_1 : decode cX12_again 1 = .ok (.getfield 411, 3) := by decide +kernel
theorem dX12_again_4 : decode cX12_again 4 = .ok (.ifCond .ne 6, 3) := by decide +kernel
theorem dX12_again_7 : decode cX12_again 7 = .ok (.bipush (-3), 2) := by decide +kernel
theorem dX12_again_9 : decode cX12_again 9 = .ok (.ireturn, 1) := by decide +kernel
theorem dX12_again_10 : decode cX12_again 10 = .ok (.iconst 0, 1) := by decide +kernel
theorem dX12_again_11 : decode cX12_again 11 = .ok (.istore_n 1, 1) := by decide +kernel
theorem dX12_again_12 : decode cX12_again 12 = .ok (.iload_n 1, 1) := by decide +kernel
theorem dX12_again_13 : decode cX12_again 13 = .ok (.sipush 544, 3) := by decide +kernel
theorem dX12_again_16 : decode cX12_again 16 = .ok (.if_icmp .ge 21, 3) := by decide +kernel
theorem dX12_again_19 : decode cX12_again 19 = .ok (.aload_n 0, 1) := by decide +kernel
theorem dX12_again_20 : decode cX12_again 20 = .ok (.getfield 7, 3) := by decide +kernel
theorem dX12_again_23 : decode cX12_again 23 = .ok (.iload_n 1, 1) := by decide +kernel
theorem dX12_again_24 : decode cX12_again 24 = .ok (.aload_n 0, 1) := by decide +kernel
theorem dX12_again_25 : decode cX12_again 25 = .ok (.getfield 13, 3) := by decide +kernel
theorem dX12_again_28 : decode cX12_again 28 = .ok (.iload_n 1, 1) := by decide +kernel
theorem dX12_again_29 : decode cX12_again 29 = .ok (.iaload, 1) := by decide +kernel
theorem dX12_again_30 : decode cX12_again 30 = .ok (.iastore, 1) := by decide +kernel
theorem dX12_again_31 : decode cX12_again 31 = .ok (.iinc 1 1, 3) := by decide +kernel
theorem dX12_again_34 : decode cX12_again 34 = .ok (.goto (-22), 3) := by decide +kernel
theorem dX12_again_37 : decode cX12_again 37 = .ok (.aload_n 0, 1) := by decide +kernel
theorem dX12_again_38 : decode cX12_again 38 = .ok (.getfield 7, 3) := by decide +kernel
theorem dX12_again_41 : decode cX12_again 41 = .ok (.iconst 0, 1) := by decide +kernel
theorem dX12_again_42 : decode cX12_again 42 = .ok (.iaload, 1) := by decide +kernel
theorem dX12_again_43 : decode cX12_again 43 = .ok (.ireturn, 1) := by decide +kernel
