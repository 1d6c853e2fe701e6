theorem dX12_init_0 : decode cX12_init 0 = .ok (.aload_n 0, 1) := by decide +kernel
theorem dX12_init_1 : decode cX12_init 1 = .ok (.invokespecial 1, 3) := by decide +kernel
theorem dX12_init_4 : decode cX12_init 4 = .ok (.aload_n 0, 1) := by decide +kernel
theorem dX12_init_5 : decode cX12_init 5 = .ok (.sipush 544, 3) := by decide +kernel
theorem dX12_init_8 : decode cX12_init 8 = .ok (.newarray .int, 2) := by decide +kernel
theorem dX12_init_10 : decode cX12_init 10 = .ok (.putfield 7, 3) := by decide +kernel
theorem dX12_init_13 : decode cX12_init 13 = .ok (.aload_n 0, 1) := by decide +kernel
theorem dX12_init_14 : decode cX12_init 14 = .ok (.sipush 544, 3) := by decide +kernel
theorem dX12_init_17 : decode cX12_init 17 = .ok (.newarray .int, 2) := by decide +kernel
theorem dX12_init_19 : decode cX12_init 19 = .ok (.putfield 13, 3) := by decide +kernel
theorem dX12_init_22 : decode cX12_init 22 = .ok (.aload_n 0, 1) := by decide +kernel
theorem dX12_init_23 : decode cX12_init 23 = .ok (.sipush 190, 3) := by decide +kernel
theorem dX12_init_26 : decode cX12_init 26 = .ok (.newarray .int, 2) := by decide +kernel
theorem dX12_init_28 : decode cX12_init 28 = .ok (.putfield 16, 3) := by decide +kernel
theorem dX12_init_31 : decode cX12_init 31 = .ok (.aload_n 0, 1) := by decide +kernel
theorem dX12_init_32 : decode cX12_init 32 = .ok (.sipush 200, 3) := by decide +kernel
theorem dX12_init_35 : decode cX12_init 35 = .ok (.newarray .int, 2) := by decide +kernel
theorem dX12_init_37 : decode cX12_init 37 = .ok (.putfield 19, 3) := by decide +kernel
theorem dX12_init_40 : decode cX12_init 40 = .ok (.aload_n 0, 1) := by decide +kernel
theorem dX12_init_41 : decode cX12_init 41 = .ok (.bipush 6, 2) := by decide +kernel
theorem dX12_init_43 : decode cX12_init 43 = .ok (.newarray .int, 2) := by decide +kernel
theorem dX12_init_45 : decode cX12_init 45 = .ok (.putfield 22, 3) := by decide +kernel
theorem dX12_init_48 : decode cX12_init 48 = .ok (.aload_n 0, 1) := by decide +kernel
theorem dX12_init_49 : decode cX12_init 49 = .ok (.sipush 544, 3) := by decide +kernel
theorem dX12_init_52 : decode cX12_init 52 = .ok (.newarray .int, 2) := by decide +kernel
theorem dX12_init_54 : decode cX12_init 54 = .ok (.putfield 25, 3) := by decide +kernel
theorem dX12_init_57 : decode cX12_init 57 = .ok (.aload_n 0, 1) := by decide +kernel
theorem dX12_init_58 : decode cX12_init 58 = .ok (.bipush 6, 2) := by decide +kernel
theorem dX12_init_60 : decode cX12_init 60 = .ok (.newarray .int, 2) := by decide +kernel
theorem dX12_init_62 : decode cX12_init 62 = .ok (.putfield 28, 3) := by decide +kernel
theorem dX12_init_65 : decode cX12_init 65 = .ok (.aload_n 0, 1) := by decide +kernel
theorem dX12_init_66 : decode cX12_init 66 = .ok (.bipush 6, 2) := by decide +kernel
theorem dX12_init_68 : decode cX12_init 68 = .ok (.newarray .int, 2) := by decide +kernel
theorem dX12_init_70 : decode cX12_init 70 = .ok (.putfield 31, 3) := by decide +kernel
theorem dX12_init_73 : decode cX12_init 73 = .ok (.aload_n 0, 1) := by decide +kernel
theorem dX12_init_74 : decode cX12_init 74 = .ok (.iconst 4, 1) := by decide +kernel
theorem dX12_init_75 : decode cX12_init 75 = .ok (.newarray .int, 2) := by decide +kernel
theorem dX12_init_77 : decode cX12_init 77 = .ok (.putfield 34, 3) := by decide +kernel
theorem dX12_init_80 : decode cX12_init 80 = .ok (.aload_n 0, 1) := by decide +kernel
theorem dX12_init_81 : decode cX12_init 81 = .ok (.iconst 4, 1) := by decide +kernel
theorem dX12_init_82 : decode cX12_init 82 = .ok (.newarray .int, 2) := by decide +kernel
theorem dX12_init_84 : decode cX12_init 84 = .ok (.putfield 37, 3) := by decide +kernel
theorem dX12_init_87 : decode cX12_init 87 = .ok (.aload_n 0, 1) := by decide +kernel
theorem dX12_init_88 : decode cX12_init 88 = .ok (.bipush 12, 2) := by decide +kernel
theorem dX12_init_90 : decode cX12_init 90 = .ok (.newarray .int, 2) := by decide +kernel
theorem dX12_init_92 : decode cX12_init 92 = .ok (.putfield 40, 3) := by decide +kernel
theorem dX12_init_95 : decode cX12_init 95 = .ok (.aload_n 0, 1) := by decide +kernel
theorem dX12_init_96 : decode cX12_init 96 = .ok (.iconst 4, 1) := by decide +kernel
theorem dX12_init_97 : decode cX12_init 97 = .ok (.newarray .int, 2) := by decide +kernel
theorem dX12_init_99 : decode cX12_init 99 = .ok (.dup, 1) := by decide +kernel
theorem dX12_init_100 : decode cX12_init 100 = .ok (.iconst 0, 1) := by decide +kernel
theorem dX12_init_101 : decode cX12_init 101 = .ok (.iconst (-1), 1) := by decide +kernel
theorem dX12_init_102 : decode cX12_init 102 = .ok (.iastore, 1) := by decide +kernel
theorem dX12_init_103 : decode cX12_init 103 = .ok (.dup, 1) := by decide +kernel
theorem dX12_init_104 : decode cX12_init 104 = .ok (.iconst 1, 1) := by decide +kernel
theorem dX12_init_105 : decode cX12_init 105 = .ok (.iconst (-1), 1) := by decide +kernel
theorem dX12_init_106 : decode cX12_init 106 = .ok (.iastore, 1) := by decide +kernel
theorem dX12_init_107 : decode cX12_init 107 = .ok (.dup, 1) := by decide +kernel
theorem dX12_init_108 : decode cX12_init 108 = .ok (.iconst 2, 1) := by decide +kernel
theorem dX12_init_109 : decode cX12_init 109 = .ok (.iconst (-1), 1) := by decide +kernel
theorem dX12_init_110 : decode cX12_init 110 = .ok (.iastore, 1) := by decide +kernel
theorem dX12_init_111 : decode cX12_init 111 = .ok (.dup, 1) := by decide +kernel
theorem dX12_init_112 : decode cX12_init 112 = .ok (.iconst 3, 1) := by decide +kernel
theorem dX12_init_113 : decode cX12_init 113 = .ok (.iconst (-1), 1) := by decide +kernel
theorem dX12_init_114 : decode cX12_init 114 = .ok (.iastore, 1) := by decide +kernel
theorem dX12_init_115 : decode cX12_init 115 = .ok (.putfield 43, 3) := by decide +kernel
theorem dX12_init_118 : decode cX12_init 118 = .ok (.aload_n 0, 1) := by decide +kernel
theorem dX12_init_119 : decode cX12_init 119 = .ok (.iconst 4, 1) := by decide +kernel
theorem dX12_init_120 : decode cX12_init 120 = .ok (.newarray .int, 2) := by decide +kernel
theorem dX12_init_122 : decode cX12_init 122 = .ok (.putfield 46, 3) := by decide +kernel
theorem dX12_init_125 : decode cX12_init 125 = .ok (.aload_n 0, 1) := by decide +kernel
theorem dX12_init_126 : decode cX12_init 126 = .ok (.sipush 160, 3) := by decide +kernel
theorem dX12_init_129 : decode cX12_init 129 = .ok (.newarray .int, 2) := by decide +kernel
theorem dX12_init_131 : decode cX12_init 131 = .ok (.putfield 49, 3) := by decide +kernel
theorem dX12_init_134 : decode cX12_init 134 = .ok (.aload_n 0, 1) := by decide +kernel
theorem dX12_init_135 : decode cX12_init 135 = .ok (.iconst 4, 1) := by decide +kernel
theorem dX12_init_136 : decode cX12_init 136 = .ok (.newarray .int, 2) := by decide +kernel
theorem dX12_init_138 : decode cX12_init 138 = .ok (.putfield 52, 3) := by decide +kernel
theorem dX12_init_141 : decode cX12_init 141 = .ok (.aload_n 0, 1) := by decide +kernel
theorem dX12_init_142 : decode cX12_init 142 = .ok (.iconst 4, 1) := by decide +kernel
theorem dX12_init_143 : decode cX12_init 143 = .ok (.newarray .int, 2) := by decide +kernel
theorem dX12_init_145 : decode cX12_init 145 = .ok (.putfield 55, 3) := by decide +kernel
theorem dX12_init_148 : decode cX12_init 148 = .ok (.aload_n 0, 1) := by decide +kernel
theorem dX12_init_149 : decode cX12_init 149 = .ok (.iconst 4, 1) := by decide +kernel
theorem dX12_init_150 : decode cX12_init 150 = .ok (.newarray .int, 2) := by decide +kernel
theorem dX12_init_152 : decode cX12_init 152 = .ok (.putfield 58, 3) := by decide +kernel
theorem dX12_init_155 : decode cX12_init 155 = .ok (.aload_n 0, 1) := by decide +kernel
theorem dX12_init_156 : decode cX12_init 156 = .ok (.bipush 30, 2) := by decide +kernel
theorem dX12_init_158 : decode cX12_init 158 = .ok (.newarray .int, 2) := by decide +kernel
theorem dX12_init_160 : decode cX12_init 160 = .ok (.putfield 61, 3) := by decide +kernel
theorem dX12_init_163 : decode cX12_init 163 = .ok (.aload_n 0, 1) := by decide +kernel
theorem dX12_init_164 : decode cX12_init 164 = .ok (.getfield 7, 3) := by decide +kernel
theorem dX12_init_167 : decode cX12_init 167 = .ok (.iconst 2, 1) := by decide +kernel
theorem dX12_init_168 : decode cX12_init 168 = .ok (.bipush 12, 2) := by decide +kernel
theorem dX12_init_170 : decode cX12_init 170 = .ok (.iastore, 1) := by decide +kernel
theorem dX12_init_171 : decode cX12_init 171 = .ok (.aload_n 0, 1) := by decide +kernel
theorem dX12_init_172 : decode cX12_init 172 = .ok (.getfield 7, 3) := by decide +kernel
theorem dX12_init_175 : decode cX12_init 175 = .ok (.iconst 4, 1) := by decide +kernel
theorem dX12_init_176 : decode cX12_init 176 = .ok (.iconst 1, 1) := by decide +kernel
theorem dX12_init_177 : decode cX12_init 177 = .ok (.iastore, 1) := by decide +kernel
theorem dX12_init_178 : decode cX12_init 178 = .ok (.return_, 1) := by decide +kernel
theorem dX12_isIn_0 : decode cX12_isIn 0 = .ok (.lload_n 0, 1) := by decide +kernel
theorem dX12_isIn_1 : decode cX12_isIn 1 = .ok (.lload_n 2, 1) := by decide +kernel
theorem dX12_isIn_2 : decode cX12_isIn 2 = .ok (.lcmp, 1) := by decide +kernel
theorem dX12_isIn_3 : decode cX12_isIn 3 = .ok (.ifCond .lt 14, 3) := by decide +kernel
theorem dX12_isIn_6 : decode cX12_isIn 6 = .ok (.lload_n 0, 1) := by decide +kernel
theorem dX12_isIn_7 : decode cX12_isIn 7 = .ok (.lload 4, 2) := by decide +kernel
theorem dX12_isIn_9 : decode cX12_isIn 9 = .ok (.lcmp, 1) := by decide +kernel
theorem dX12_isIn_10 : decode cX12_isIn 10 = .ok (.ifCond .gt 7, 3) := by decide +kernel
theorem dX12_isIn_13 : decode cX12_isIn 13 = .ok (.iconst 1, 1) := by decide +kernel
theorem dX12_isIn_14 : decode cX12_isIn 14 = .ok (.goto 4, 3) := by decide +kernel
theorem dX12_isIn_17 : decode cX12_isIn 17 = .ok (.iconst 0, 1) := by decide +kernel
theorem dX12_isIn_18 : decode cX12_isIn 18 = .ok (.ireturn, 1) := by decide +kernel
theorem dX12_isOven_0 : decode cX12_isOven 0 = .ok (.iload_n 1, 1) := by decide +kernel
theorem dX12_isOven_1 : decode cX12_isOven 1 = .ok (.ifCond .lt 17, 3) := by decide +kernel
theorem dX12_isOven_4 : decode cX12_isOven 4 = .ok (.iload_n 1, 1) := by decide +kernel
theorem dX12_isOven_5 : decode cX12_isOven 5 = .ok (.aload_n 0, 1) := by decide +kernel
theorem dX12_isOven_6 : decode cX12_isOven 6 = .ok (.getfield 7, 3) := by decide +kernel
theorem dX12_isOven_9 : decode cX12_isOven 9 = .ok (.iconst 0, 1) := by decide +kernel
theorem dX12_isOven_10 : decode cX12_isOven 10 = .ok (.iaload, 1) := by decide +kernel
theorem dX12_isOven_11 : decode cX12_isOven 11 = .ok (.if_icmp .ge 7, 3) := by decide +kernel
theorem dX12_isOven_14 : decode cX12_isOven 14 = .ok (.iconst 1, 1) := by decide +kernel
theorem dX12_isOven_15 : decode cX12_isOven 15 = .ok (.goto 4, 3) := by decide +kernel
theorem dX12_isOven_18 : decode cX12_isOven 18 = .ok (.iconst 0, 1) := by decide +kernel
theorem dX12_isOven_19 : decode cX12_isOven 19 = .ok (.ireturn, 1) := by decide +kernel
theorem dX12_its_0 : decode cX12_its 0 = .ok (.aload_n 0, 1) := by decide +kernel
theorem dX12_its_1 : decode cX12_its 1 = .ok (.getfield 7, 3) := by decide +kernel
theorem dX12_its_4 : decode cX12_its 4 = .ok (.bipush 8, 2) := by decide +kernel
theorem dX12_its_6 : decode cX12_its 6 = .ok (.iconst 5, 1) := by decide +kernel
theorem dX12_its_7 : decode cX12_its 7 = .ok (.iload_n 1, 1) := by decide +kernel
theorem dX12_its_8 : decode cX12_its 8 = .ok (.imul, 1) := by decide +kernel
theorem dX12_its_9 : decode cX12_its 9 = .ok (.iadd, 1) := by decide +kernel
theorem dX12_its_10 : decode cX12_its 10 = .ok (.iload_n 2, 1) := by decide +kernel
theorem dX12_its_11 : decode cX12_its 11 = .ok (.iadd, 1) := by decide +kernel
theorem dX12_its_12 : decode cX12_its 12 = .ok (.iaload, 1) := by decide +kernel
theorem dX12_its_13 : decode cX12_its 13 = .ok (.ireturn, 1) := by decide +kernel
theorem dX12_becomes_0 : decode cX12_becomes 0 = .ok (.aload_n 0, 1) := by decide +kernel
theorem dX12_becomes_1 : decode cX12_becomes 1 = .ok (.getfield 7, 3) := by decide +kernel
theorem dX12_becomes_4 : decode cX12_becomes 4 = .ok (.iload_n 1, 1) := by decide +kernel
theorem dX12_becomes_5 : decode cX12_becomes 5 = .ok (.iaload, 1) := by decide +kernel
theorem dX12_becomes_6 : decode cX12_becomes 6 = .ok (.istore_n 3, 1) := by decide +kernel
theorem dX12_becomes_7 : decode cX12_becomes 7 = .ok (.aload_n 0, 1) := by decide +kernel
theorem dX12_becomes_8 : decode cX12_becomes 8 = .ok (.getfield 7, 3) := by decide +kernel
theorem dX12_becomes_11 : decode cX12_becomes 11 = .ok (.iload_n 1, 1) := by decide +kernel
theorem dX12_becomes_12 : decode cX12_becomes 12 = .ok (.iload_n 2, 1) := by decide +kernel
theorem dX12_becomes_13 : decode cX12_becomes 13 = .ok (.iastore, 1) := by decide +kernel
theorem dX12_becomes_14 : decode cX12_becomes 14 = .ok (.iload_n 3, 1) := by decide +kernel
theorem dX12_becomes_15 : decode cX12_becomes 15 = .ok (.ireturn, 1) := by decide +kernel
theorem dX12_laysAside_0 : decode cX12_laysAside 0 = .ok (.iconst 0, 1) := by decide +kernel
theorem dX12_laysAside_1 : decode cX12_laysAside 1 = .ok (.istore_n 2, 1) := by decide +kernel
theorem dX12_laysAside_2 : decode cX12_laysAside 2 = .ok (.iload_n 2, 1) := by decide +kernel
theorem dX12_laysAside_3 : decode cX12_laysAside 3 = .ok (.bipush 38, 2) := by decide +kernel
theorem dX12_laysAside_5 : decode cX12_laysAside 5 = .ok (.if_icmp .ge 26, 3) := by decide +kernel
theorem dX12_laysAside_8 : decode cX12_laysAside 8 = .ok (.aload_n 0, 1) := by decide +kernel
theorem dX12_laysAside_9 : decode cX12_laysAside 9 = .ok (.getfield 16, 3) := by decide +kernel
theorem dX12_laysAside_12 : decode cX12_laysAside 12 = .ok (.bipush 38, 2) := by decide +kernel
theorem dX12_laysAside_14 : decode cX12_laysAside 14 = .ok (.iload_n 1, 1) := by decide +kernel
theorem dX12_laysAside_15 : decode cX12_laysAside 15 = .ok (.imul, 1) := by decide +kernel
theorem dX12_laysAside_16 : decode cX12_laysAside 16 = .ok (.iload_n 2, 1) := by decide +kernel
theorem dX12_laysAside_17 : decode cX12_laysAside 17 = .ok (.iadd, 1) := by decide +kernel
theorem dX12_laysAside_18 : decode cX12_laysAside 18 = .ok (.aload_n 0, 1) := by decide +kernel
theorem dX12_laysAside_19 : decode cX12_laysAside 19 = .ok (.getfield 7, 3) := by decide +kernel
theorem dX12_laysAside_22 : decode cX12_laysAside 22 = .ok (.iload_n 2, 1) := by decide +kernel
theorem dX12_laysAside_23 : decode cX12_laysAside 23 = .ok (.iaload, 1) := by decide +kernel
theorem dX12_laysAside_24 : decode cX12_laysAside 24 = .ok (.iastore, 1) := by decide +kernel
theorem dX12_laysAside_25 : decode cX12_laysAside 25 = .ok (.iinc 2 1, 3) := by decide +kernel
theorem dX12_laysAside_28 : decode cX12_laysAside 28 = .ok (.goto (-26), 3) := by decide +kernel
theorem dX12_laysAside_31 : decode cX12_laysAside 31 = .ok (.return_, 1) := by decide +kernel
theorem dX12_laysBack_0 : decode cX12_laysBack 0 = .ok (.iconst 0, 1) := by decide +kernel
theorem dX12_laysBack_1 : decode cX12_laysBack 1 = .ok (.istore_n 2, 1) := by decide +kernel
theorem dX12_laysBack_2 : decode cX12_laysBack 2 = .ok (.iload_n 2, 1) := by decide +kernel
theorem dX12_laysBack_3 : decode cX12_laysBack 3 = .ok (.bipush 38, 2) := by decide +kernel
theorem dX12_laysBack_5 : decode cX12_laysBack 5 = .ok (.if_icmp .ge 26, 3) := by decide +kernel
theorem dX12_laysBack_8 : decode cX12_laysBack 8 = .ok (.aload_n 0, 1) := by decide +kernel
theorem dX12_laysBack_9 : decode cX12_laysBack 9 = .ok (.getfield 7, 3) := by decide +kernel
theorem dX12_laysBack_12 : decode cX12_laysBack 12 = .ok (.iload_n 2, 1) := by decide +kernel
theorem dX12_laysBack_13 : decode cX12_laysBack 13 = .ok (.aload_n 0, 1) := by decide +kernel
theorem dX12_laysBack_14 : decode cX12_laysBack 14 = .ok (.getfield 16, 3) := by decide +kernel
theorem dX12_laysBack_17 : decode cX12_laysBack 17 = .ok (.bipush 38, 2) := by decide +kernel
theorem dX12_laysBack_19 : decode cX12_laysBack 19 = .ok (.iload_n 1, 1) := by decide +kernel
theorem dX12_laysBack_20 : decode cX12_laysBack 20 = .ok (.imul, 1) := by decide +kernel
theorem dX12_laysBack_21 : decode cX12_laysBack 21 = .ok (.iload_n 2, 1) := by decide +kernel
theorem dX12_laysBack_22 : decode cX12_laysBack 22 = .ok (.iadd, 1) := by decide +kernel
theorem dX12_laysBack_23 : decode cX12_laysBack 23 = .ok (.iaload, 1) := by decide +kernel
theorem dX12_laysBack_24 : decode cX12_laysBack 24 = .ok (.iastore, 1) := by decide +kernel
theorem dX12_laysBack_25 : decode cX12_laysBack 25 = .ok (.iinc 2 1, 3) := by decide +kernel
theorem dX12_laysBack_28 : decode cX12_laysBack 28 = .ok (.goto (-26), 3) := by decide +kernel
theorem dX12_laysBack_31 : decode cX12_laysBack 31 = .ok (.return_, 1) := by decide +kernel
theorem dX12_isOver_0 : decode cX12_isOver 0 = .ok (.aload_n 0, 1) := by decide +kernel
theorem dX12_isOver_1 : decode cX12_isOver 1 = .ok (.getfield 7, 3) := by decide +kernel
theorem dX12_isOver_4 : decode cX12_isOver 4 = .ok (.iconst 1, 1) := by decide +kernel
theorem dX12_isOver_5 : decode cX12_isOver 5 = .ok (.iaload, 1) := by decide +kernel
theorem dX12_isOver_6 : decode cX12_isOver 6 = .ok (.aload_n 0, 1) := by decide +kernel
theorem dX12_isOver_7 : decode cX12_isOver 7 = .ok (.getfield 7, 3) := by decide +kernel
theorem dX12_isOver_10 : decode cX12_isOver 10 = .ok (.iconst 2, 1) := by decide +kernel
theorem dX12_isOver_11 : decode cX12_isOver 11 = .ok (.iaload, 1) := by decide +kernel
theorem dX12_isOver_12 : decode cX12_isOver 12 = .ok (.if_icmp .lt 7, 3) := by decide +kernel
theorem dX12_isOver_15 : decode cX12_isOver 15 = .ok (.iconst 1, 1) := by decide +kernel
theorem dX12_isOver_16 : decode cX12_isOver 16 = .ok (.goto 4, 3) := by decide +kernel
theorem dX12_isOver_19 : decode cX12_isOver 19 = .ok (.iconst 0, 1) := by decide +kernel
theorem dX12_isOver_20 : decode cX12_isOver 20 = .ok (.ireturn, 1) := by decide +kernel
theorem dX12_oven_0 : decode cX12_oven 0 = .ok (.iload_n 1, 1) := by decide +kernel
theorem dX12_oven_1 : decode cX12_oven 1 = .ok (.i2l, 1) := by decide +kernel
theorem dX12_oven_2 : decode cX12_oven 2 = .ok (.lconst 1, 1) := by decide +kernel
theorem dX12_oven_3 : decode cX12_oven 3 = .ok (.ldc2_w 64, 3) := by decide +kernel
theorem dX12_oven_6 : decode cX12_oven 6 = .ok (.invokestatic 66, 3) := by decide +kernel
theorem dX12_oven_9 : decode cX12_oven 9 = .ok (.ifCond .eq 40, 3) := by decide +kernel
theorem dX12_oven_12 : decode cX12_oven 12 = .ok (.iload_n 2, 1) := by decide +kernel
theorem dX12_oven_13 : decode cX12_oven 13 = .ok (.i2l, 1) := by decide +kernel
theorem dX12_oven_14 : decode cX12_oven 14 = .ok (.lconst 0, 1) := by decide +kernel
theorem dX12_oven_15 : decode cX12_oven 15 = .ok (.ldc2_w 70, 3) := by decide +kernel
theorem dX12_oven_18 : decode cX12_oven 18 = .ok (.invokestatic 66, 3) := by decide +kernel
theorem dX12_oven_21 : decode cX12_oven 21 = .ok (.ifCond .eq 28, 3) := by decide +kernel
theorem dX12_oven_24 : decode cX12_oven 24 = .ok (.iload_n 3, 1) := by decide +kernel
theorem dX12_oven_25 : decode cX12_oven 25 = .ok (.i2l, 1) := by decide +kernel
theorem dX12_oven_26 : decode cX12_oven 26 = .ok (.lconst 0, 1) := by decide +kernel
theorem dX12_oven_27 : decode cX12_oven 27 = .ok (.ldc2_w 72, 3) := by decide +kernel
theorem dX12_oven_30 : decode cX12_oven 30 = .ok (.invokestatic 66, 3) := by decide +kernel
theorem dX12_oven_33 : decode cX12_oven 33 = .ok (.ifCond .eq 16, 3) := by decide +kernel
theorem dX12_oven_36 : decode cX12_oven 36 = .ok (.iload 4, 2) := by decide +kernel
theorem dX12_oven_38 : decode cX12_oven 38 = .ok (.i2l, 1) := by decide +kernel
theorem dX12_oven_39 : decode cX12_oven 39 = .ok (.lconst 1, 1) := by decide +kernel
theorem dX12_oven_40 : decode cX12_oven 40 = .ok (.ldc2_w 70, 3) := by decide +kernel
theorem dX12_oven_43 : decode cX12_oven 43 = .ok (.invokestatic 66, 3) := by decide +kernel
theorem dX12_oven_46 : decode cX12_oven 46 = .ok (.ifCond .ne 5, 3) := by decide +kernel
theorem dX12_oven_49 : decode cX12_oven 49 = .ok (.iconst (-1), 1) := by decide +kernel
theorem dX12_oven_50 : decode cX12_oven 50 = .ok (.ireturn, 1) := by decide +kernel
theorem dX12_oven_51 : decode cX12_oven 51 = .ok (.aload_n 0, 1) := by decide +kernel
theorem dX12_oven_52 : decode cX12_oven 52 = .ok (.getfield 7, 3) := by decide +kernel
theorem dX12_oven_55 : decode cX12_oven 55 = .ok (.iconst 0, 1) := by decide +kernel
theorem dX12_oven_56 : decode cX12_oven 56 = .ok (.iaload, 1) := by decide +kernel
theorem dX12_oven_57 : decode cX12_oven 57 = .ok (.bipush 6, 2) := by decide +kernel
theorem dX12_oven_59 : decode cX12_oven 59 = .ok (.if_icmp .ne 6, 3) := by decide +kernel
theorem dX12_oven_62 : decode cX12_oven 62 = .ok (.bipush (-2), 2) := by decide +kernel
theorem dX12_oven_64 : decode cX12_oven 64 = .ok (.ireturn, 1) := by decide +kernel
theorem dX12_oven_65 : decode cX12_oven 65 = .ok (.bipush 8, 2) := by decide +kernel
theorem dX12_oven_67 : decode cX12_oven 67 = .ok (.iconst 5, 1) := by decide +kernel
theorem dX12_oven_68 : decode cX12_oven 68 = .ok (.aload_n 0, 1) := by decide +kernel
theorem dX12_oven_69 : decode cX12_oven 69 = .ok (.getfield 7, 3) := by decide +kernel
theorem dX12_oven_72 : decode cX12_oven 72 = .ok (.iconst 0, 1) := by decide +kernel
theorem dX12_oven_73 : decode cX12_oven 73 = .ok (.iaload, 1) := by decide +kernel
theorem dX12_oven_74 : decode cX12_oven 74 = .ok (.imul, 1) := by decide +kernel
theorem dX12_oven_75 : decode cX12_oven 75 = .ok (.iadd, 1) := by decide +kernel
theorem dX12_oven_76 : decode cX12_oven 76 = .ok (.istore 5, 2) := by decide +kernel
theorem dX12_oven_78 : decode cX12_oven 78 = .ok (.aload_n 0, 1) := by decide +kernel
theorem dX12_oven_79 : decode cX12_oven 79 = .ok (.getfield 7, 3) := by decide +kernel
theorem dX12_oven_82 : decode cX12_oven 82 = .ok (.iload 5, 2) := by decide +kernel
theorem dX12_oven_84 : decode cX12_oven 84 = .ok (.iload_n 1, 1) := by decide +kernel
theorem dX12_oven_85 : decode cX12_oven 85 = .ok (.iastore, 1) := by decide +kernel
theorem dX12_oven_86 : decode cX12_oven 86 = .ok (.aload_n 0, 1) := by decide +kernel
theorem dX12_oven_87 : decode cX12_oven 87 = .ok (.getfield 7, 3) := by decide +kernel
theorem dX12_oven_90 : decode cX12_oven 90 = .ok (.iload 5, 2) := by decide +kernel
theorem dX12_oven_92 : decode cX12_oven 92 = .ok (.iconst 1, 1) := by decide +kernel
theorem dX12_oven_93 : decode cX12_oven 93 = .ok (.iadd, 1) := by decide +kernel
theorem dX12_oven_94 : decode cX12_oven 94 = .ok (.iload_n 2, 1) := by decide +kernel
theorem dX12_oven_95 : decode cX12_oven 95 = .ok (.iastore, 1) := by decide +kernel
theorem dX12_oven_96 : decode cX12_oven 96 = .ok (.aload_n 0, 1) := by decide +kernel
theorem dX12_oven_97 : decode cX12_oven 97 = .ok (.getfield 7, 3) := by decide +kernel
theorem dX12_oven_100 : decode cX12_oven 100 = .ok (.iload 5, 2) := by decide +kernel
theorem dX12_oven_102 : decode cX12_oven 102 = .ok (.iconst 2, 1) := by decide +kernel
theorem dX12_oven_103 : decode cX12_oven 103 = .ok (.iadd, 1) := by decide +kernel
theorem dX12_oven_104 : decode cX12_oven 104 = .ok (.iload_n 3, 1) := by decide +kernel
theorem dX12_oven_105 : decode cX12_oven 105 = .ok (.iastore, 1) := by decide +kernel
theorem dX12_oven_106 : decode cX12_oven 106 = .ok (.aload_n 0, 1) := by decide +kernel
theorem dX12_oven_107 : decode cX12_oven 107 = .ok (.getfield 7, 3) := by decide +kernel
theorem dX12_oven_110 : decode cX12_oven 110 = .ok (.iload 5, 2) := by decide +kernel
theorem dX12_oven_112 : decode cX12_oven 112 = .ok (.iconst 3, 1) := by decide +kernel
theorem dX12_oven_113 : decode cX12_oven 113 = .ok (.iadd, 1) := by decide +kernel
theorem dX12_oven_114 : decode cX12_oven 114 = .ok (.iload 4, 2) := by decide +kernel
theorem dX12_oven_116 : decode cX12_oven 116 = .ok (.iastore, 1) := by decide +kernel
theorem dX12_oven_117 : decode cX12_oven 117 = .ok (.aload_n 0, 1) := by decide +kernel
theorem dX12_oven_118 : decode cX12_oven 118 = .ok (.getfield 7, 3) := by decide +kernel
theorem dX12_oven_121 : decode cX12_oven 121 = .ok (.iload 5, 2) := by decide +kernel
theorem dX12_oven_123 : decode cX12_oven 123 = .ok (.iconst 4, 1) := by decide +kernel
theorem dX12_oven_124 : decode cX12_oven 124 = .ok (.iadd, 1) := by decide +kernel
theorem dX12_oven_125 : decode cX12_oven 125 = .ok (.iconst 0, 1) := by decide +kernel
theorem dX12_oven_126 : decode cX12_oven 126 = .ok (.iastore, 1) := by decide +kernel
theorem dX12_oven_127 : decode cX12_oven 127 = .ok (.aload_n 0, 1) := by decide +kernel
theorem dX12_oven_128 : decode cX12_oven 128 = .ok (.getfield 7, 3) := by decide +kernel
theorem dX12_oven_131 : decode cX12_oven 131 = .ok (.iconst 0, 1) := by decide +kernel
theorem dX12_oven_132 : decode cX12_oven 132 = .ok (.dup2, 1) := by decide +kernel
theorem dX12_oven_133 : decode cX12_oven 133 = .ok (.iaload, 1) := by decide +kernel
theorem dX12_oven_134 : decode cX12_oven 134 = .ok (.iconst 1, 1) := by decide +kernel
theorem dX12_oven_135 : decode cX12_oven 135 = .ok (.iadd, 1) := by decide +kernel
theorem dX12_oven_136 : decode cX12_oven 136 = .ok (.iastore, 1) := by decide +kernel
theorem dX12_oven_137 : decode cX12_oven 137 = .ok (.aload_n 0, 1) := by decide +kernel
theorem dX12_oven_138 : decode cX12_oven 138 = .ok (.getfield 7, 3) := by decide +kernel
theorem dX12_oven_141 : decode cX12_oven 141 = .ok (.iconst 0, 1) := by decide +kernel
theorem dX12_oven_142 : decode cX12_oven 142 = .ok (.iaload, 1) := by decide +kernel
theorem dX12_oven_143 : decode cX12_oven 143 = .ok (.iconst 1, 1) := by decide +kernel
theorem dX12_oven_144 : decode cX12_oven 144 = .ok (.isub, 1) := by decide +kernel
theorem dX12_oven_145 : decode cX12_oven 145 = .ok (.ireturn, 1) := by decide +kernel
theorem dX12_apart_0 : decode cX12_apart 0 = .ok (.iload_n 0, 1) := by decide +kernel
theorem dX12_apart_1 : decode cX12_apart 1 = .ok (.iload_n 1, 1) := by decide +kernel
theorem dX12_apart_2 : decode cX12_apart 2 = .ok (.if_icmp .ge 9, 3) := by decide +kernel
theorem dX12_apart_5 : decode cX12_apart 5 = .ok (.iload_n 1, 1) := by decide +kernel
theorem dX12_apart_6 : decode cX12_apart 6 = .ok (.iload_n 0, 1) := by decide +kernel
theorem dX12_apart_7 : decode cX12_apart 7 = .ok (.isub, 1) := by decide +kernel
theorem dX12_apart_8 : decode cX12_apart 8 = .ok (.goto 6, 3) := by decide +kernel
theorem dX12_apart_11 : decode cX12_apart 11 = .ok (.iload_n 0, 1) := by decide +kernel
theorem dX12_apart_12 : decode cX12_apart 12 = .ok (.iload_n 1, 1) := by decide +kernel
theorem dX12_apart_13 : decode cX12_apart 13 = .ok (.isub, 1) := by decide +kernel
theorem dX12_apart_14 : decode cX12_apart 14 = .ok (.ireturn, 1) := by decide +kernel
theorem dX12_longsBy_0 : decode cX12_longsBy 0 = .ok (.iload_n 3, 1) := by decide +kernel
theorem dX12_longsBy_1 : decode cX12_longsBy 1 = .ok (.iload_n 2, 1) := by decide +kernel
theorem dX12_longsBy_2 : decode cX12_longsBy 2 = .ok (.iload 4, 2) := by decide +kernel
theorem dX12_longsBy_4 : decode cX12_longsBy 4 = .ok (.invokestatic 74, 3) := by decide +kernel
theorem dX12_longsBy_7 : decode cX12_longsBy 7 = .ok (.isub, 1) := by decide +kernel
theorem dX12_longsBy_8 : decode cX12_longsBy 8 = .ok (.istore 6, 2) := by decide +kernel
theorem dX12_longsBy_10 : decode cX12_longsBy 10 = .ok (.iload_n 0, 1) := by decide +kernel
theorem dX12_longsBy_11 : decode cX12_longsBy 11 = .ok (.tableswitch 50 1 4 #[29, 34, 46, 48], 29) := by decide +kernel
theorem dX12_longsBy_40 : decode cX12_longsBy 40 = .ok (.iload 6, 2) := by decide +kernel
theorem dX12_longsBy_42 : decode cX12_longsBy 42 = .ok (.iconst 3, 1) := by decide +kernel
theorem dX12_longsBy_43 : decode cX12_longsBy 43 = .ok (.isub, 1) := by decide +kernel
theorem dX12_longsBy_44 : decode cX12_longsBy 44 = .ok (.ireturn, 1) := by decide +kernel
theorem dX12_longsBy_45 : decode cX12_longsBy 45 = .ok (.iload_n 3, 1) := by decide +kernel
theorem dX12_longsBy_46 : decode cX12_longsBy 46 = .ok (.iload_n 1, 1) := by decide +kernel
theorem dX12_longsBy_47 : decode cX12_longsBy 47 = .ok (.if_icmp .lt 8, 3) := by decide +kernel
theorem dX12_longsBy_50 : decode cX12_longsBy 50 = .ok (.iload 6, 2) := by decide +kernel
theorem dX12_longsBy_52 : decode cX12_longsBy 52 = .ok (.goto 4, 3) := by decide +kernel
theorem dX12_longsBy_55 : decode cX12_longsBy 55 = .ok (.iconst (-1), 1) := by decide +kernel
theorem dX12_longsBy_56 : decode cX12_longsBy 56 = .ok (.ireturn, 1) := by decide +kernel
theorem dX12_longsBy_57 : decode cX12_longsBy 57 = .ok (.iconst (-1), 1) := by decide +kernel
theorem dX12_longsBy_58 : decode cX12_longsBy 58 = .ok (.ireturn, 1) := by decide +kernel
theorem dX12_longsBy_59 : decode cX12_longsBy 59 = .ok (.iload_n 3, 1) := by decide +kernel
theorem dX12_longsBy_60 : decode cX12_longsBy 60 = .ok (.ireturn, 1) := by decide +kernel
theorem dX12_longsBy_61 : decode cX12_longsBy 61 = .ok (.iload 5, 2) := by decide +kernel
theorem dX12_longsBy_63 : decode cX12_longsBy 63 = .ok (.ifCond .eq 9, 3) := by decide +kernel
theorem dX12_longsBy_66 : decode cX12_longsBy 66 = .ok (.iload_n 3, 1) := by decide +kernel
theorem dX12_longsBy_67 : decode cX12_longsBy 67 = .ok (.iconst 2, 1) := by decide +kernel
theorem dX12_longsBy_68 : decode cX12_longsBy 68 = .ok (.iadd, 1) := by decide +kernel
theorem dX12_longsBy_69 : decode cX12_longsBy 69 = .ok (.goto 4, 3) := by decide +kernel
theorem dX12_longsBy_72 : decode cX12_longsBy 72 = .ok (.iload_n 3, 1) := by decide +kernel
theorem dX12_longsBy_73 : decode cX12_longsBy 73 = .ok (.ireturn, 1) := by decide +kernel
theorem dX12_longs_0 : decode cX12_longs 0 = .ok (.aload_n 0, 1) := by decide +kernel
theorem dX12_longs_1 : decode cX12_longs 1 = .ok (.iload_n 1, 1) := by decide +kernel
theorem dX12_longs_2 : decode cX12_longs 2 = .ok (.iconst 0, 1) := by decide +kernel
theorem dX12_longs_3 : decode cX12_longs 3 = .ok (.invokevirtual 78, 3) := by decide +kernel
theorem dX12_longs_6 : decode cX12_longs 6 = .ok (.aload_n 0, 1) := by decide +kernel
theorem dX12_longs_7 : decode cX12_longs 7 = .ok (.iload_n 1, 1) := by decide +kernel
theorem dX12_longs_8 : decode cX12_longs 8 = .ok (.iconst 1, 1) := by decide +kernel
theorem dX12_longs_9 : decode cX12_longs 9 = .ok (.invokevirtual 78, 3) := by decide +kernel
theorem dX12_longs_12 : decode cX12_longs 12 = .ok (.aload_n 0, 1) := by decide +kernel
theorem dX12_longs_13 : decode cX12_longs 13 = .ok (.iload_n 1, 1) := by decide +kernel
theorem dX12_longs_14 : decode cX12_longs 14 = .ok (.iconst 2, 1) := by decide +kernel
theorem dX12_longs_15 : decode cX12_longs 15 = .ok (.invokevirtual 78, 3) := by decide +kernel
theorem dX12_longs_18 : decode cX12_longs 18 = .ok (.aload_n 0, 1) := by decide +kernel
theorem dX12_longs_19 : decode cX12_longs 19 = .ok (.iload_n 2, 1) := by decide +kernel
theorem dX12_longs_20 : decode cX12_longs 20 = .ok (.iconst 1, 1) := by decide +kernel
theorem dX12_longs_21 : decode cX12_longs 21 = .ok (.invokevirtual 78, 3) := by decide +kernel
theorem dX12_longs_24 : decode cX12_longs 24 = .ok (.aload_n 0, 1) := by decide +kernel
theorem dX12_longs_25 : decode cX12_longs 25 = .ok (.iload_n 2, 1) := by decide +kernel
theorem dX12_longs_26 : decode cX12_longs 26 = .ok (.iconst 2, 1) := by decide +kernel
theorem dX12_longs_27 : decode cX12_longs 27 = .ok (.invokevirtual 78, 3) := by decide +kernel
theorem dX12_longs_30 : decode cX12_longs 30 = .ok (.iload_n 2, 1) := by decide +kernel
theorem dX12_longs_31 : decode cX12_longs 31 = .ok (.iload_n 1, 1) := by decide +kernel
theorem dX12_longs_32 : decode cX12_longs 32 = .ok (.if_icmp .le 7, 3) := by decide +kernel
theorem dX12_longs_35 : decode cX12_longs 35 = .ok (.iconst 1, 1) := by decide +kernel
theorem dX12_longs_36 : decode cX12_longs 36 = .ok (.goto 4, 3) := by decide +kernel
theorem dX12_longs_39 : decode cX12_longs 39 = .ok (.iconst 0, 1) := by decide +kernel
theorem dX12_longs_40 : decode cX12_longs 40 = .ok (.invokestatic 81, 3) := by decide +kernel
theorem dX12_longs_43 : decode cX12_longs 43 = .ok (.ireturn, 1) := by decide +kernel
theorem dX12_bakes_0 : decode cX12_bakes 0 = .ok (.aload_n 0, 1) := by decide +kernel
theorem dX12_bakes_1 : decode cX12_bakes 1 = .ok (.iload_n 1, 1) := by decide +kernel
theorem dX12_bakes_2 : decode cX12_bakes 2 = .ok (.iconst 3, 1) := by decide +kernel
theorem dX12_bakes_3 : decode cX12_bakes 3 = .ok (.invokevirtual 78, 3) := by decide +kernel
theorem dX12_bakes_6 : decode cX12_bakes 6 = .ok (.istore_n 2, 1) := by decide +kernel
theorem dX12_bakes_7 : decode cX12_bakes 7 = .ok (.aload_n 0, 1) := by decide +kernel
theorem dX12_bakes_8 : decode cX12_bakes 8 = .ok (.iload_n 1, 1) := by decide +kernel
theorem dX12_bakes_9 : decode cX12_bakes 9 = .ok (.iconst 0, 1) := by decide +kernel
theorem dX12_bakes_10 : decode cX12_bakes 10 = .ok (.invokevirtual 78, 3) := by decide +kernel
theorem dX12_bakes_13 : decode cX12_bakes 13 = .ok (.tableswitch 67 1 5 #[35, 39, 43, 67, 49], 35) := by decide +kernel
theorem dX12_bakes_48 : decode cX12_bakes 48 = .ok (.iload_n 2, 1) := by decide +kernel
theorem dX12_bakes_49 : decode cX12_bakes 49 = .ok (.iconst 2, 1) := by decide +kernel
theorem dX12_bakes_50 : decode cX12_bakes 50 = .ok (.idiv, 1) := by decide +kernel
theorem dX12_bakes_51 : decode cX12_bakes 51 = .ok (.ireturn, 1) := by decide +kernel
theorem dX12_bakes_52 : decode cX12_bakes 52 = .ok (.iconst 2, 1) := by decide +kernel
theorem dX12_bakes_53 : decode cX12_bakes 53 = .ok (.iload_n 2, 1) := by decide +kernel
theorem dX12_bakes_54 : decode cX12_bakes 54 = .ok (.imul, 1) := by decide +kernel
theorem dX12_bakes_55 : decode cX12_bakes 55 = .ok (.ireturn, 1) := by decide +kernel
theorem dX12_bakes_56 : decode cX12_bakes 56 = .ok (.iconst 2, 1) := by decide +kernel
theorem dX12_bakes_57 : decode cX12_bakes 57 = .ok (.iload_n 2, 1) := by decide +kernel
theorem dX12_bakes_58 : decode cX12_bakes 58 = .ok (.imul, 1) := by decide +kernel
theorem dX12_bakes_59 : decode cX12_bakes 59 = .ok (.iconst 1, 1) := by decide +kernel
theorem dX12_bakes_60 : decode cX12_bakes 60 = .ok (.iadd, 1) := by decide +kernel
theorem dX12_bakes_61 : decode cX12_bakes 61 = .ok (.ireturn, 1) := by decide +kernel
theorem dX12_bakes_62 : decode cX12_bakes 62 = .ok (.aload_n 0, 1) := by decide +kernel
theorem dX12_bakes_63 : decode cX12_bakes 63 = .ok (.getfield 7, 3) := by decide +kernel
theorem dX12_bakes_66 : decode cX12_bakes 66 = .ok (.iconst 1, 1) := by decide +kernel
theorem dX12_bakes_67 : decode cX12_bakes 67 = .ok (.iaload, 1) := by decide +kernel
theorem dX12_bakes_68 : decode cX12_bakes 68 = .ok (.iconst 2, 1) := by decide +kernel
theorem dX12_bakes_69 : decode cX12_bakes 69 = .ok (.irem, 1) := by decide +kernel
theorem dX12_bakes_70 : decode cX12_bakes 70 = .ok (.iconst 1, 1) := by decide +kernel
theorem dX12_bakes_71 : decode cX12_bakes 71 = .ok (.if_icmp .ne 7, 3) := by decide +kernel
theorem dX12_bakes_74 : decode cX12_bakes 74 = .ok (.iconst 0, 1) := by decide +kernel
theorem dX12_bakes_75 : decode cX12_bakes 75 = .ok (.goto 4, 3) := by decide +kernel
theorem dX12_bakes_78 : decode cX12_bakes 78 = .ok (.iload_n 2, 1) := by decide +kernel
theorem dX12_bakes_79 : decode cX12_bakes 79 = .ok (.ireturn, 1) := by decide +kernel
theorem dX12_bakes_80 : decode cX12_bakes 80 = .ok (.iload_n 2, 1) := by decide +kernel
theorem dX12_bakes_81 : decode cX12_bakes 81 = .ok (.ireturn, 1) := by decide +kernel
theorem dX12_isUnder_0 : decode cX12_isUnder 0 = .ok (.iload_n 1, 1) := by decide +kernel
theorem dX12_isUnder_1 : decode cX12_isUnder 1 = .ok (.ifCond .eq 28, 3) := by decide +kernel
theorem dX12_isUnder_4 : decode cX12_isUnder 4 = .ok (.iload_n 0, 1) := by decide +kernel
theorem dX12_isUnder_5 : decode cX12_isUnder 5 = .ok (.iload_n 1, 1) := by decide +kernel
theorem dX12_isUnder_6 : decode cX12_isUnder 6 = .ok (.if_icmp .eq 23, 3) := by decide +kernel
theorem dX12_isUnder_9 : decode cX12_isUnder 9 = .ok (.iload_n 1, 1) := by decide +kernel
theorem dX12_isUnder_10 : decode cX12_isUnder 10 = .ok (.iconst 2, 1) := by decide +kernel
theorem dX12_isUnder_11 : decode cX12_isUnder 11 = .ok (.if_icmp .ne 8, 3) := by decide +kernel
theorem dX12_isUnder_14 : decode cX12_isUnder 14 = .ok (.iload_n 0, 1) := by decide +kernel
theorem dX12_isUnder_15 : decode cX12_isUnder 15 = .ok (.iconst 3, 1) := by decide +kernel
theorem dX12_isUnder_16 : decode cX12_isUnder 16 = .ok (.if_icmp .eq 13, 3) := by decide +kernel
theorem dX12_isUnder_19 : decode cX12_isUnder 19 = .ok (.iload_n 1, 1) := by decide +kernel
theorem dX12_isUnder_20 : decode cX12_isUnder 20 = .ok (.iconst 4, 1) := by decide +kernel
theorem dX12_isUnder_21 : decode cX12_isUnder 21 = .ok (.if_icmp .ne 12, 3) := by decide +kernel
theorem dX12_isUnder_24 : decode cX12_isUnder 24 = .ok (.iload_n 0, 1) := by decide +kernel
theorem dX12_isUnder_25 : decode cX12_isUnder 25 = .ok (.iconst 5, 1) := by decide +kernel
theorem dX12_isUnder_26 : decode cX12_isUnder 26 = .ok (.if_icmp .ne 7, 3) := by decide +kernel
theorem dX12_isUnder_29 : decode cX12_isUnder 29 = .ok (.iconst 1, 1) := by decide +kernel
theorem dX12_isUnder_30 : decode cX12_isUnder 30 = .ok (.goto 4, 3) := by decide +kernel
theorem dX12_isUnder_33 : decode cX12_isUnder 33 = .ok (.iconst 0, 1) := by decide +kernel
theorem dX12_isUnder_34 : decode cX12_isUnder 34 = .ok (.ireturn, 1) := by decide +kernel
theorem dX12_valueOf_0 : decode cX12_valueOf 0 = .ok (.iload_n 1, 1) := by decide +kernel
theorem dX12_valueOf_1 : decode cX12_valueOf 1 = .ok (.sipush 10000, 3) := by decide +kernel
theorem dX12_valueOf_4 : decode cX12_valueOf 4 = .ok (.isub, 1) := by decide +kernel
theorem dX12_valueOf_5 : decode cX12_valueOf 5 = .ok (.tableswitch 65 0 4 #[35, 42, 49, 56, 63], 35) := by decide +kernel
theorem dX12_valueOf_40 : decode cX12_valueOf 40 = .ok (.aload_n 0, 1) := by decide +kernel
theorem dX12_valueOf_41 : decode cX12_valueOf 41 = .ok (.getfield 7, 3) := by decide +kernel
theorem dX12_valueOf_44 : decode cX12_valueOf 44 = .ok (.iconst 1, 1) := by decide +kernel
theorem dX12_valueOf_45 : decode cX12_valueOf 45 = .ok (.iaload, 1) := by decide +kernel
theorem dX12_valueOf_46 : decode cX12_valueOf 46 = .ok (.ireturn, 1) := by decide +kernel
theorem dX12_valueOf_47 : decode cX12_valueOf 47 = .ok (.aload_n 0, 1) := by decide +kernel
theorem dX12_valueOf_48 : decode cX12_valueOf 48 = .ok (.iload_n 2, 1) := by decide +kernel
theorem dX12_valueOf_49 : decode cX12_valueOf 49 = .ok (.iconst 1, 1) := by decide +kernel
theorem dX12_valueOf_50 : decode cX12_valueOf 50 = .ok (.invokevirtual 78, 3) := by decide +kernel
theorem dX12_valueOf_53 : decode cX12_valueOf 53 = .ok (.ireturn, 1) := by decide +kernel
theorem dX12_valueOf_54 : decode cX12_valueOf 54 = .ok (.aload_n 0, 1) := by decide +kernel
theorem dX12_valueOf_55 : decode cX12_valueOf 55 = .ok (.iload_n 2, 1) := by decide +kernel
theorem dX12_valueOf_56 : decode cX12_valueOf 56 = .ok (.iconst 2, 1) := by decide +kernel
theorem dX12_valueOf_57 : decode cX12_valueOf 57 = .ok (.invokevirtual 78, 3) := by decide +kernel
theorem dX12_valueOf_60 : decode cX12_valueOf 60 = .ok (.ireturn, 1) := by decide +kernel
theorem dX12_valueOf_61 : decode cX12_valueOf 61 = .ok (.aload_n 0, 1) := by decide +kernel
theorem dX12_valueOf_62 : decode cX12_valueOf 62 = .ok (.iload_n 2, 1) := by decide +kernel
theorem dX12_valueOf_63 : decode cX12_valueOf 63 = .ok (.iconst 3, 1) := by decide +kernel
theorem dX12_valueOf_64 : decode cX12_valueOf 64 = .ok (.invokevirtual 78, 3) := by decide +kernel
theorem dX12_valueOf_67 : decode cX12_valueOf 67 = .ok (.ireturn, 1) := by decide +kernel
theorem dX12_valueOf_68 : decode cX12_valueOf 68 = .ok (.iload_n 2, 1) := by decide +kernel
theorem dX12_valueOf_69 : decode cX12_valueOf 69 = .ok (.ireturn, 1) := by decide +kernel
theorem dX12_valueOf_70 : decode cX12_valueOf 70 = .ok (.iload_n 1, 1) := by decide +kernel
theorem dX12_valueOf_71 : decode cX12_valueOf 71 = .ok (.ireturn, 1) := by decide +kernel
theorem dX12_holds_0 : decode cX12_holds 0 = .ok (.lconst 1, 1) := by decide +kernel
theorem dX12_holds_1 : decode cX12_holds 1 = .ok (.lstore_n 3, 1) := by decide +kernel
theorem dX12_holds_2 : decode cX12_holds 2 = .ok (.aload_n 0, 1) := by decide +kernel
theorem dX12_holds_3 : decode cX12_holds 3 = .ok (.getfield 7, 3) := by decide +kernel
theorem dX12_holds_6 : decode cX12_holds 6 = .ok (.bipush 38, 2) := by decide +kernel
theorem dX12_holds_8 : decode cX12_holds 8 = .ok (.iconst 4, 1) := by decide +kernel
theorem dX12_holds_9 : decode cX12_holds 9 = .ok (.iload_n 1, 1) := by decide +kernel
theorem dX12_holds_10 : decode cX12_holds 10 = .ok (.imul, 1) := by decide +kernel
theorem dX12_holds_11 : decode cX12_holds 11 = .ok (.iadd, 1) := by decide +kernel
theorem dX12_holds_12 : decode cX12_holds 12 = .ok (.iconst 2, 1) := by decide +kernel
theorem dX12_holds_13 : decode cX12_holds 13 = .ok (.iadd, 1) := by decide +kernel
theorem dX12_holds_14 : decode cX12_holds 14 = .ok (.iaload, 1) := by decide +kernel
theorem dX12_holds_15 : decode cX12_holds 15 = .ok (.istore 5, 2) := by decide +kernel
theorem dX12_holds_17 : decode cX12_holds 17 = .ok (.iload 5, 2) := by decide +kernel
theorem dX12_holds_19 : decode cX12_holds 19 = .ok (.aload_n 0, 1) := by decide +kernel
theorem dX12_holds_20 : decode cX12_holds 20 = .ok (.getfield 7, 3) := by decide +kernel
theorem dX12_holds_23 : decode cX12_holds 23 = .ok (.bipush 38, 2) := by decide +kernel
theorem dX12_holds_25 : decode cX12_holds 25 = .ok (.iconst 4, 1) := by decide +kernel
theorem dX12_holds_26 : decode cX12_holds 26 = .ok (.iload_n 1, 1) := by decide +kernel
theorem dX12_holds_27 : decode cX12_holds 27 = .ok (.imul, 1) := by decide +kernel
theorem dX12_holds_28 : decode cX12_holds 28 = .ok (.iadd, 1) := by decide +kernel
theorem dX12_holds_29 : decode cX12_holds 29 = .ok (.iconst 3, 1) := by decide +kernel
theorem dX12_holds_30 : decode cX12_holds 30 = .ok (.iadd, 1) := by decide +kernel
theorem dX12_holds_31 : decode cX12_holds 31 = .ok (.iaload, 1) := by decide +kernel
theorem dX12_holds_32 : decode cX12_holds 32 = .ok (.if_icmp .ge 200, 3) := by decide +kernel
theorem dX12_holds_35 : decode cX12_holds 35 = .ok (.aload_n 0, 1) := by decide +kernel
theorem dX12_holds_36 : decode cX12_holds 36 = .ok (.getfield 7, 3) := by decide +kernel
theorem dX12_holds_39 : decode cX12_holds 39 = .ok (.bipush 94, 2) := by decide +kernel
theorem dX12_holds_41 : decode cX12_holds 41 = .ok (.iconst 3, 1) := by decide +kernel
theorem dX12_holds_42 : decode cX12_holds 42 = .ok (.iload 5, 2) := by decide +kernel
theorem dX12_holds_44 : decode cX12_holds 44 = .ok (.imul, 1) := by decide +kernel
theorem dX12_holds_45 : decode cX12_holds 45 = .ok (.iadd, 1) := by decide +kernel
theorem dX12_holds_46 : decode cX12_holds 46 = .ok (.iaload, 1) := by decide +kernel
theorem dX12_holds_47 : decode cX12_holds 47 = .ok (.istore 6, 2) := by decide +kernel
theorem dX12_holds_49 : decode cX12_holds 49 = .ok (.iload 6, 2) := by decide +kernel
theorem dX12_holds_51 : decode cX12_holds 51 = .ok (.iconst 3, 1) := by decide +kernel
theorem dX12_holds_52 : decode cX12_holds 52 = .ok (.if_icmp .ge 120, 3) := by decide +kernel
theorem dX12_holds_55 : decode cX12_holds 55 = .ok (.aload_n 0, 1) := by decide +kernel
theorem dX12_holds_56 : decode cX12_holds 56 = .ok (.aload_n 0, 1) := by decide +kernel
theorem dX12_holds_57 : decode cX12_holds 57 = .ok (.getfield 7, 3) := by decide +kernel
theorem dX12_holds_60 : decode cX12_holds 60 = .ok (.bipush 94, 2) := by decide +kernel
theorem dX12_holds_62 : decode cX12_holds 62 = .ok (.iconst 3, 1) := by decide +kernel
theorem dX12_holds_63 : decode cX12_holds 63 = .ok (.iload 5, 2) := by decide +kernel
theorem dX12_holds_65 : decode cX12_holds 65 = .ok (.imul, 1) := by decide +kernel
theorem dX12_holds_66 : decode cX12_holds 66 = .ok (.iadd, 1) := by decide +kernel
theorem dX12_holds_67 : decode cX12_holds 67 = .ok (.iconst 1, 1) := by decide +kernel
theorem dX12_holds_68 : decode cX12_holds 68 = .ok (.iadd, 1) := by decide +kernel
theorem dX12_holds_69 : decode cX12_holds 69 = .ok (.iaload, 1) := by decide +kernel
theorem dX12_holds_70 : decode cX12_holds 70 = .ok (.iload_n 2, 1) := by decide +kernel
theorem dX12_holds_71 : decode cX12_holds 71 = .ok (.invokevirtual 85, 3) := by decide +kernel
theorem dX12_holds_74 : decode cX12_holds 74 = .ok (.istore 7, 2) := by decide +kernel
theorem dX12_holds_76 : decode cX12_holds 76 = .ok (.aload_n 0, 1) := by decide +kernel
theorem dX12_holds_77 : decode cX12_holds 77 = .ok (.aload_n 0, 1) := by decide +kernel
theorem dX12_holds_78 : decode cX12_holds 78 = .ok (.getfield 7, 3) := by decide +kernel
theorem dX12_holds_81 : decode cX12_holds 81 = .ok (.bipush 94, 2) := by decide +kernel
theorem dX12_holds_83 : decode cX12_holds 83 = .ok (.iconst 3, 1) := by decide +kernel
theorem dX12_holds_84 : decode cX12_holds 84 = .ok (.iload 5, 2) := by decide +kernel
theorem dX12_holds_86 : decode cX12_holds 86 = .ok (.imul, 1) := by decide +kernel
theorem dX12_holds_87 : decode cX12_holds 87 = .ok (.iadd, 1) := by decide +kernel
theorem dX12_holds_88 : decode cX12_holds 88 = .ok (.iconst 2, 1) := by decide +kernel
theorem dX12_holds_89 : decode cX12_holds 89 = .ok (.iadd, 1) := by decide +kernel
theorem dX12_holds_90 : decode cX12_holds 90 = .ok (.iaload, 1) := by decide +kernel
theorem dX12_holds_91 : decode cX12_holds 91 = .ok (.iload_n 2, 1) := by decide +kernel
theorem dX12_holds_92 : decode cX12_holds 92 = .ok (.invokevirtual 85, 3) := by decide +kernel
theorem dX12_holds_95 : decode cX12_holds 95 = .ok (.istore 8, 2) := by decide +kernel
theorem dX12_holds_97 : decode cX12_holds 97 = .ok (.iload 6, 2) := by decide +kernel
theorem dX12_holds_99 : decode cX12_holds 99 = .ok (.ifCond .ne 18, 3) := by decide +kernel
theorem dX12_holds_102 : decode cX12_holds 102 = .ok (.iload 7, 2) := by decide +kernel
theorem dX12_holds_104 : decode cX12_holds 104 = .ok (.iload 8, 2) := by decide +kernel
theorem dX12_holds_106 : decode cX12_holds 106 = .ok (.if_icmp .ge 7, 3) := by decide +kernel
theorem dX12_holds_109 : decode cX12_holds 109 = .ok (.iconst 1, 1) := by decide +kernel
theorem dX12_holds_110 : decode cX12_holds 110 = .ok (.goto 40, 3) := by decide +kernel
theorem dX12_holds_113 : decode cX12_holds 113 = .ok (.iconst 0, 1) := by decide +kernel
theorem dX12_holds_114 : decode cX12_holds 114 = .ok (.goto 36, 3) := by decide +kernel
theorem dX12_holds_117 : decode cX12_holds 117 = .ok (.iload 6, 2) := by decide +kernel
theorem dX12_holds_119 : decode cX12_holds 119 = .ok (.iconst 1, 1) := by decide +kernel
theorem dX12_holds_120 : decode cX12_holds 120 = .ok (.if_icmp .ne 18, 3) := by decide +kernel
theorem dX12_holds_123 : decode cX12_holds 123 = .ok (.iload 7, 2) := by decide +kernel
theorem dX12_holds_125 : decode cX12_holds 125 = .ok (.iload 8, 2) := by decide +kernel
theorem dX12_holds_127 : decode cX12_holds 127 = .ok (.if_icmp .ne 7, 3) := by decide +kernel
theorem dX12_holds_130 : decode cX12_holds 130 = .ok (.iconst 1, 1) := by decide +kernel
theorem dX12_holds_131 : decode cX12_holds 131 = .ok (.goto 19, 3) := by decide +kernel
theorem dX12_holds_134 : decode cX12_holds 134 = .ok (.iconst 0, 1) := by decide +kernel
theorem dX12_holds_135 : decode cX12_holds 135 = .ok (.goto 15, 3) := by decide +kernel
theorem dX12_holds_138 : decode cX12_holds 138 = .ok (.iload 7, 2) := by decide +kernel
theorem dX12_holds_140 : decode cX12_holds 140 = .ok (.iload 8, 2) := by decide +kernel
theorem dX12_holds_142 : decode cX12_holds 142 = .ok (.if_icmp .le 7, 3) := by decide +kernel
theorem dX12_holds_145 : decode cX12_holds 145 = .ok (.iconst 1, 1) := by decide +kernel
theorem dX12_holds_146 : decode cX12_holds 146 = .ok (.goto 4, 3) := by decide +kernel
theorem dX12_holds_149 : decode cX12_holds 149 = .ok (.iconst 0, 1) := by decide +kernel
theorem dX12_holds_150 : decode cX12_holds 150 = .ok (.istore 9, 2) := by decide +kernel
theorem dX12_holds_152 : decode cX12_holds 152 = .ok (.ldc2_w 88, 3) := by decide +kernel
theorem dX12_holds_155 : decode cX12_holds 155 = .ok (.lload_n 3, 1) := by decide +kernel
theorem dX12_holds_156 : decode cX12_holds 156 = .ok (.lmul, 1) := by decide +kernel
theorem dX12_holds_157 : decode cX12_holds 157 = .ok (.iload 9, 2) := by decide +kernel
theorem dX12_holds_159 : decode cX12_holds 159 = .ok (.ifCond .eq 7, 3) := by decide +kernel
theorem dX12_holds_162 : decode cX12_holds 162 = .ok (.lconst 1, 1) := by decide +kernel
theorem dX12_holds_163 : decode cX12_holds 163 = .ok (.goto 4, 3) := by decide +kernel
theorem dX12_holds_166 : decode cX12_holds 166 = .ok (.lconst 0, 1) := by decide +kernel
theorem dX12_holds_167 : decode cX12_holds 167 = .ok (.ladd, 1) := by decide +kernel
theorem dX12_holds_168 : decode cX12_holds 168 = .ok (.lstore_n 3, 1) := by decide +kernel
theorem dX12_holds_169 : decode cX12_holds 169 = .ok (.goto 57, 3) := by decide +kernel
theorem dX12_holds_172 : decode cX12_holds 172 = .ok (.iload 6, 2) := by decide +kernel
theorem dX12_holds_174 : decode cX12_holds 174 = .ok (.iconst 3, 1) := by decide +kernel
theorem dX12_holds_175 : decode cX12_holds 175 = .ok (.if_icmp .ne 10, 3) := by decide +kernel
theorem dX12_holds_178 : decode cX12_holds 178 = .ok (.lload_n 3, 1) := by decide +kernel
theorem dX12_holds_179 : decode cX12_holds 179 = .ok (.lconst 1, 1) := by decide +kernel
theorem dX12_holds_180 : decode cX12_holds 180 = .ok (.lxor, 1) := by decide +kernel
theorem dX12_holds_181 : decode cX12_holds 181 = .ok (.lstore_n 3, 1) := by decide +kernel
theorem dX12_holds_182 : decode cX12_holds 182 = .ok (.goto 44, 3) := by decide +kernel
theorem dX12_holds_185 : decode cX12_holds 185 = .ok (.lload_n 3, 1) := by decide +kernel
theorem dX12_holds_186 : decode cX12_holds 186 = .ok (.lconst 1, 1) := by decide +kernel
theorem dX12_holds_187 : decode cX12_holds 187 = .ok (.land, 1) := by decide +kernel
theorem dX12_holds_188 : decode cX12_holds 188 = .ok (.lstore 7, 2) := by decide +kernel
theorem dX12_holds_190 : decode cX12_holds 190 = .ok (.lload_n 3, 1) := by decide +kernel
theorem dX12_holds_191 : decode cX12_holds 191 = .ok (.ldc2_w 88, 3) := by decide +kernel
theorem dX12_holds_194 : decode cX12_holds 194 = .ok (.ldiv, 1) := by decide +kernel
theorem dX12_holds_195 : decode cX12_holds 195 = .ok (.lstore_n 3, 1) := by decide +kernel
theorem dX12_holds_196 : decode cX12_holds 196 = .ok (.iload 6, 2) := by decide +kernel
theorem dX12_holds_198 : decode cX12_holds 198 = .ok (.iconst 4, 1) := by decide +kernel
theorem dX12_holds_199 : decode cX12_holds 199 = .ok (.if_icmp .eq 10, 3) := by decide +kernel
theorem dX12_holds_202 : decode cX12_holds 202 = .ok (.lload_n 3, 1) := by decide +kernel
theorem dX12_holds_203 : decode cX12_holds 203 = .ok (.lload 7, 2) := by decide +kernel
theorem dX12_holds_205 : decode cX12_holds 205 = .ok (.lor, 1) := by decide +kernel
theorem dX12_holds_206 : decode cX12_holds 206 = .ok (.goto 19, 3) := by decide +kernel
theorem dX12_holds_209 : decode cX12_holds 209 = .ok (.lload 7, 2) := by decide +kernel
theorem dX12_holds_211 : decode cX12_holds 211 = .ok (.lconst 1, 1) := by decide +kernel
theorem dX12_holds_212 : decode cX12_holds 212 = .ok (.lcmp, 1) := by decide +kernel
theorem dX12_holds_213 : decode cX12_holds 213 = .ok (.ifCond .ne 7, 3) := by decide +kernel
theorem dX12_holds_216 : decode cX12_holds 216 = .ok (.lload_n 3, 1) := by decide +kernel
theorem dX12_holds_217 : decode cX12_holds 217 = .ok (.goto 8, 3) := by decide +kernel
theorem dX12_holds_220 : decode cX12_holds 220 = .ok (.lload_n 3, 1) := by decide +kernel
theorem dX12_holds_221 : decode cX12_holds 221 = .ok (.ldc2_w 90, 3) := by decide +kernel
theorem dX12_holds_224 : decode cX12_holds 224 = .ok (.land, 1) := by decide +kernel
theorem dX12_holds_225 : decode cX12_holds 225 = .ok (.lstore_n 3, 1) := by decide +kernel
theorem dX12_holds_226 : decode cX12_holds 226 = .ok (.iinc 5 1, 3) := by decide +kernel
theorem dX12_holds_229 : decode cX12_holds 229 = .ok (.goto (-212), 3) := by decide +kernel
theorem dX12_holds_232 : decode cX12_holds 232 = .ok (.lload_n 3, 1) := by decide +kernel
theorem dX12_holds_233 : decode cX12_holds 233 = .ok (.ldc2_w 88, 3) := by decide +kernel
theorem dX12_holds_236 : decode cX12_holds 236 = .ok (.lrem, 1) := by decide +kernel
theorem dX12_holds_237 : decode cX12_holds 237 = .ok (.lconst 1, 1) := by decide +kernel
theorem dX12_holds_238 : decode cX12_holds 238 = .ok (.lcmp, 1) := by decide +kernel
theorem dX12_holds_239 : decode cX12_holds 239 = .ok (.ifCond .ne 7, 3) := by decide +kernel
theorem dX12_holds_242 : decode cX12_holds 242 = .ok (.iconst 1, 1) := by decide +kernel
theorem dX12_holds_243 : decode cX12_holds 243 = .ok (.goto 4, 3) := by decide +kernel
theorem dX12_holds_246 : decode cX12_holds 246 = .ok (.iconst 0, 1) := by decide +kernel
theorem dX12_holds_247 : decode cX12_holds 247 = .ok (.ireturn, 1) := by decide +kernel
theorem dX12_will_0 : decode cX12_will 0 = .ok (.iconst 0, 1) := by decide +kernel
theorem dX12_will_1 : decode cX12_will 1 = .ok (.istore_n 2, 1) := by decide +kernel
theorem dX12_will_2 : decode cX12_will 2 = .ok (.iload_n 2, 1) := by decide +kernel
theorem dX12_will_3 : decode cX12_will 3 = .ok (.aload_n 0, 1) := by decide +kernel
theorem dX12_will_4 : decode cX12_will 4 = .ok (.getfield 7, 3) := by decide +kernel
theorem dX12_will_7 : decode cX12_will 7 = .ok (.iconst 5, 1) := by decide +kernel
theorem dX12_will_8 : decode cX12_will 8 = .ok (.iaload, 1) := by decide +kernel
theorem dX12_will_9 : decode cX12_will 9 = .ok (.if_icmp .ge 55, 3) := by decide +kernel
theorem dX12_will_12 : decode cX12_will 12 = .ok (.aload_n 0, 1) := by decide +kernel
theorem dX12_will_13 : decode cX12_will 13 = .ok (.iload_n 1, 1) := by decide +kernel
theorem dX12_will_14 : decode cX12_will 14 = .ok (.iconst 0, 1) := by decide +kernel
theorem dX12_will_15 : decode cX12_will 15 = .ok (.invokevirtual 78, 3) := by decide +kernel
theorem dX12_will_18 : decode cX12_will 18 = .ok (.aload_n 0, 1) := by decide +kernel
theorem dX12_will_19 : decode cX12_will 19 = .ok (.getfield 7, 3) := by decide +kernel
theorem dX12_will_22 : decode cX12_will 22 = .ok (.bipush 38, 2) := by decide +kernel
theorem dX12_will_24 : decode cX12_will 24 = .ok (.iconst 4, 1) := by decide +kernel
theorem dX12_will_25 : decode cX12_will 25 = .ok (.iload_n 2, 1) := by decide +kernel
theorem dX12_will_26 : decode cX12_will 26 = .ok (.imul, 1) := by decide +kernel
theorem dX12_will_27 : decode cX12_will 27 = .ok (.iadd, 1) := by decide +kernel
theorem dX12_will_28 : decode cX12_will 28 = .ok (.iaload, 1) := by decide +kernel
theorem dX12_will_29 : decode cX12_will 29 = .ok (.invokestatic 92, 3) := by decide +kernel
theorem dX12_will_32 : decode cX12_will 32 = .ok (.ifCond .eq 26, 3) := by decide +kernel
theorem dX12_will_35 : decode cX12_will 35 = .ok (.aload_n 0, 1) := by decide +kernel
theorem dX12_will_36 : decode cX12_will 36 = .ok (.iload_n 2, 1) := by decide +kernel
theorem dX12_will_37 : decode cX12_will 37 = .ok (.iload_n 1, 1) := by decide +kernel
theorem dX12_will_38 : decode cX12_will 38 = .ok (.invokevirtual 96, 3) := by decide +kernel
theorem dX12_will_41 : decode cX12_will 41 = .ok (.ifCond .eq 17, 3) := by decide +kernel
theorem dX12_will_44 : decode cX12_will 44 = .ok (.aload_n 0, 1) := by decide +kernel
theorem dX12_will_45 : decode cX12_will 45 = .ok (.getfield 7, 3) := by decide +kernel
theorem dX12_will_48 : decode cX12_will 48 = .ok (.bipush 38, 2) := by decide +kernel
theorem dX12_will_50 : decode cX12_will 50 = .ok (.iconst 4, 1) := by decide +kernel
theorem dX12_will_51 : decode cX12_will 51 = .ok (.iload_n 2, 1) := by decide +kernel
theorem dX12_will_52 : decode cX12_will 52 = .ok (.imul, 1) := by decide +kernel
theorem dX12_will_53 : decode cX12_will 53 = .ok (.iadd, 1) := by decide +kernel
theorem dX12_will_54 : decode cX12_will 54 = .ok (.iconst 1, 1) := by decide +kernel
theorem dX12_will_55 : decode cX12_will 55 = .ok (.iadd, 1) := by decide +kernel
theorem dX12_will_56 : decode cX12_will 56 = .ok (.iaload, 1) := by decide +kernel
theorem dX12_will_57 : decode cX12_will 57 = .ok (.ireturn, 1) := by decide +kernel
theorem dX12_will_58 : decode cX12_will 58 = .ok (.iinc 2 1, 3) := by decide +kernel
theorem dX12_will_61 : decode cX12_will 61 = .ok (.goto (-59), 3) := by decide +kernel
theorem dX12_will_64 : decode cX12_will 64 = .ok (.iconst 0, 1) := by decide +kernel
theorem dX12_will_65 : decode cX12_will 65 = .ok (.ireturn, 1) := by decide +kernel
theorem dX12_looks_0 : decode cX12_looks 0 = .ok (.aload_n 0, 1) := by decide +kernel
theorem dX12_looks_1 : decode cX12_looks 1 = .ok (.iconst 0, 1) := by decide +kernel
theorem dX12_looks_2 : decode cX12_looks 2 = .ok (.putfield 99, 3) := by decide +kernel
theorem dX12_looks_5 : decode cX12_looks 5 = .ok (.iconst 0, 1) := by decide +kernel
theorem dX12_looks_6 : decode cX12_looks 6 = .ok (.istore_n 2, 1) := by decide +kernel
theorem dX12_looks_7 : decode cX12_looks 7 = .ok (.iload_n 2, 1) := by decide +kernel
theorem dX12_looks_8 : decode cX12_looks 8 = .ok (.aload_n 0, 1) := by decide +kernel
theorem dX12_looks_9 : decode cX12_looks 9 = .ok (.getfield 7, 3) := by decide +kernel
theorem dX12_looks_12 : decode cX12_looks 12 = .ok (.iconst 0, 1) := by decide +kernel
theorem dX12_looks_13 : decode cX12_looks 13 = .ok (.iaload, 1) := by decide +kernel
theorem dX12_looks_14 : decode cX12_looks 14 = .ok (.if_icmp .ge 63, 3) := by decide +kernel
theorem dX12_looks_17 : decode cX12_looks 17 = .ok (.aload_n 0, 1) := by decide +kernel
theorem dX12_looks_18 : decode cX12_looks 18 = .ok (.getfield 22, 3) := by decide +kernel
theorem dX12_looks_21 : decode cX12_looks 21 = .ok (.iload_n 2, 1) := by decide +kernel
theorem dX12_looks_22 : decode cX12_looks 22 = .ok (.aload_n 0, 1) := by decide +kernel
theorem dX12_looks_23 : decode cX12_looks 23 = .ok (.iload_n 2, 1) := by decide +kernel
theorem dX12_looks_24 : decode cX12_looks 24 = .ok (.invokevirtual 103, 3) := by decide +kernel
theorem dX12_looks_27 : decode cX12_looks 27 = .ok (.iastore, 1) := by decide +kernel
theorem dX12_looks_28 : decode cX12_looks 28 = .ok (.aload_n 0, 1) := by decide +kernel
theorem dX12_looks_29 : decode cX12_looks 29 = .ok (.dup, 1) := by decide +kernel
theorem dX12_looks_30 : decode cX12_looks 30 = .ok (.getfield 99, 3) := by decide +kernel
theorem dX12_looks_33 : decode cX12_looks 33 = .ok (.aload_n 0, 1) := by decide +kernel
theorem dX12_looks_34 : decode cX12_looks 34 = .ok (.iload_n 2, 1) := by decide +kernel
theorem dX12_looks_35 : decode cX12_looks 35 = .ok (.iconst 4, 1) := by decide +kernel
theorem dX12_looks_36 : decode cX12_looks 36 = .ok (.invokevirtual 78, 3) := by decide +kernel
theorem dX12_looks_39 : decode cX12_looks 39 = .ok (.ifCond .ne 27, 3) := by decide +kernel
theorem dX12_looks_42 : decode cX12_looks 42 = .ok (.iload_n 1, 1) := by decide +kernel
theorem dX12_looks_43 : decode cX12_looks 43 = .ok (.iload_n 2, 1) := by decide +kernel
theorem dX12_looks_44 : decode cX12_looks 44 = .ok (.ishr, 1) := by decide +kernel
theorem dX12_looks_45 : decode cX12_looks 45 = .ok (.iconst 1, 1) := by decide +kernel
theorem dX12_looks_46 : decode cX12_looks 46 = .ok (.iand, 1) := by decide +kernel
theorem dX12_looks_47 : decode cX12_looks 47 = .ok (.ifCond .ne 19, 3) := by decide +kernel
theorem dX12_looks_50 : decode cX12_looks 50 = .ok (.aload_n 0, 1) := by decide +kernel
theorem dX12_looks_51 : decode cX12_looks 51 = .ok (.getfield 22, 3) := by decide +kernel
theorem dX12_looks_54 : decode cX12_looks 54 = .ok (.iload_n 2, 1) := by decide +kernel
theorem dX12_looks_55 : decode cX12_looks 55 = .ok (.iaload, 1) := by decide +kernel
theorem dX12_looks_56 : decode cX12_looks 56 = .ok (.iconst 1, 1) := by decide +kernel
theorem dX12_looks_57 : decode cX12_looks 57 = .ok (.if_icmp .eq 9, 3) := by decide +kernel
theorem dX12_looks_60 : decode cX12_looks 60 = .ok (.iconst 1, 1) := by decide +kernel
theorem dX12_looks_61 : decode cX12_looks 61 = .ok (.iload_n 2, 1) := by decide +kernel
theorem dX12_looks_62 : decode cX12_looks 62 = .ok (.ishl, 1) := by decide +kernel
theorem dX12_looks_63 : decode cX12_looks 63 = .ok (.goto 4, 3) := by decide +kernel
theorem dX12_looks_66 : decode cX12_looks 66 = .ok (.iconst 0, 1) := by decide +kernel
theorem dX12_looks_67 : decode cX12_looks 67 = .ok (.ior, 1) := by decide +kernel
theorem dX12_looks_68 : decode cX12_looks 68 = .ok (.putfield 99, 3) := by decide +kernel
theorem dX12_looks_71 : decode cX12_looks 71 = .ok (.iinc 2 1, 3) := by decide +kernel
theorem dX12_looks_74 : decode cX12_looks 74 = .ok (.goto (-67), 3) := by decide +kernel
theorem dX12_looks_77 : decode cX12_looks 77 = .ok (.return_, 1) := by decide +kernel
theorem dX12_choice_0 : decode cX12_choice 0 = .ok (.bipush 6, 2) := by decide +kernel
theorem dX12_choice_2 : decode cX12_choice 2 = .ok (.istore_n 2, 1) := by decide +kernel
theorem dX12_choice_3 : decode cX12_choice 3 = .ok (.aload_n 0, 1) := by decide +kernel
theorem dX12_choice_4 : decode cX12_choice 4 = .ok (.getfield 22, 3) := by decide +kernel
theorem dX12_choice_7 : decode cX12_choice 7 = .ok (.iload_n 1, 1) := by decide +kernel
theorem dX12_choice_8 : decode cX12_choice 8 = .ok (.iaload, 1) := by decide +kernel
theorem dX12_choice_9 : decode cX12_choice 9 = .ok (.iconst 2, 1) := by decide +kernel
theorem dX12_choice_10 : decode cX12_choice 10 = .ok (.if_icmp .ne 7, 3) := by decide +kernel
theorem dX12_choice_13 : decode cX12_choice 13 = .ok (.iconst 3, 1) := by decide +kernel
theorem dX12_choice_14 : decode cX12_choice 14 = .ok (.goto 4, 3) := by decide +kernel
theorem dX12_choice_17 : decode cX12_choice 17 = .ok (.iconst 0, 1) := by decide +kernel
theorem dX12_choice_18 : decode cX12_choice 18 = .ok (.istore_n 3, 1) := by decide +kernel
theorem dX12_choice_19 : decode cX12_choice 19 = .ok (.iconst 0, 1) := by decide +kernel
theorem dX12_choice_20 : decode cX12_choice 20 = .ok (.istore 4, 2) := by decide +kernel
theorem dX12_choice_22 : decode cX12_choice 22 = .ok (.iload 4, 2) := by decide +kernel
theorem dX12_choice_24 : decode cX12_choice 24 = .ok (.aload_n 0, 1) := by decide +kernel
theorem dX12_choice_25 : decode cX12_choice 25 = .ok (.getfield 7, 3) := by decide +kernel
theorem dX12_choice_28 : decode cX12_choice 28 = .ok (.iconst 0, 1) := by decide +kernel
theorem dX12_choice_29 : decode cX12_choice 29 = .ok (.iaload, 1) := by decide +kernel
theorem dX12_choice_30 : decode cX12_choice 30 = .ok (.if_icmp .ge 62, 3) := by decide +kernel
theorem dX12_choice_33 : decode cX12_choice 33 = .ok (.aload_n 0, 1) := by decide +kernel
theorem dX12_choice_34 : decode cX12_choice 34 = .ok (.getfield 99, 3) := by decide +kernel
theorem dX12_choice_37 : decode cX12_choice 37 = .ok (.iload_n 1, 1) := by decide +kernel
theorem dX12_choice_38 : decode cX12_choice 38 = .ok (.ishr, 1) := by decide +kernel
theorem dX12_choice_39 : decode cX12_choice 39 = .ok (.iconst 1, 1) := by decide +kernel
theorem dX12_choice_40 : decode cX12_choice 40 = .ok (.iand, 1) := by decide +kernel
theorem dX12_choice_41 : decode cX12_choice 41 = .ok (.iconst 1, 1) := by decide +kernel
theorem dX12_choice_42 : decode cX12_choice 42 = .ok (.if_icmp .ne 50, 3) := by decide +kernel
theorem dX12_choice_45 : decode cX12_choice 45 = .ok (.iload 4, 2) := by decide +kernel
theorem dX12_choice_47 : decode cX12_choice 47 = .ok (.iload_n 1, 1) := by decide +kernel
theorem dX12_choice_48 : decode cX12_choice 48 = .ok (.if_icmp .eq 38, 3) := by decide +kernel
theorem dX12_choice_51 : decode cX12_choice 51 = .ok (.aload_n 0, 1) := by decide +kernel
theorem dX12_choice_52 : decode cX12_choice 52 = .ok (.getfield 99, 3) := by decide +kernel
theorem dX12_choice_55 : decode cX12_choice 55 = .ok (.iload 4, 2) := by decide +kernel
theorem dX12_choice_57 : decode cX12_choice 57 = .ok (.ishr, 1) := by decide +kernel
theorem dX12_choice_58 : decode cX12_choice 58 = .ok (.iconst 1, 1) := by decide +kernel
theorem dX12_choice_59 : decode cX12_choice 59 = .ok (.iand, 1) := by decide +kernel
theorem dX12_choice_60 : decode cX12_choice 60 = .ok (.iconst 1, 1) := by decide +kernel
theorem dX12_choice_61 : decode cX12_choice 61 = .ok (.if_icmp .ne 25, 3) := by decide +kernel
theorem dX12_choice_64 : decode cX12_choice 64 = .ok (.aload_n 0, 1) := by decide +kernel
theorem dX12_choice_65 : decode cX12_choice 65 = .ok (.iload_n 1, 1) := by decide +kernel
theorem dX12_choice_66 : decode cX12_choice 66 = .ok (.iload 4, 2) := by decide +kernel
theorem dX12_choice_68 : decode cX12_choice 68 = .ok (.invokevirtual 107, 3) := by decide +kernel
theorem dX12_choice_71 : decode cX12_choice 71 = .ok (.iload_n 3, 1) := by decide +kernel
theorem dX12_choice_72 : decode cX12_choice 72 = .ok (.if_icmp .le 14, 3) := by decide +kernel
theorem dX12_choice_75 : decode cX12_choice 75 = .ok (.iload 4, 2) := by decide +kernel
theorem dX12_choice_77 : decode cX12_choice 77 = .ok (.istore_n 2, 1) := by decide +kernel
theorem dX12_choice_78 : decode cX12_choice 78 = .ok (.aload_n 0, 1) := by decide +kernel
theorem dX12_choice_79 : decode cX12_choice 79 = .ok (.iload_n 1, 1) := by decide +kernel
theorem dX12_choice_80 : decode cX12_choice 80 = .ok (.iload 4, 2) := by decide +kernel
theorem dX12_choice_82 : decode cX12_choice 82 = .ok (.invokevirtual 107, 3) := by decide +kernel
theorem dX12_choice_85 : decode cX12_choice 85 = .ok (.istore_n 3, 1) := by decide +kernel
theorem dX12_choice_86 : decode cX12_choice 86 = .ok (.iinc 4 1, 3) := by decide +kernel
theorem dX12_choice_89 : decode cX12_choice 89 = .ok (.goto (-67), 3) := by decide +kernel
theorem dX12_choice_92 : decode cX12_choice 92 = .ok (.iload_n 2, 1) := by decide +kernel
theorem dX12_choice_93 : decode cX12_choice 93 = .ok (.ireturn, 1) := by decide +kernel
theorem dX12_ovenOf_0 : decode cX12_ovenOf 0 = .ok (.aload_n 0, 1) := by decide +kernel
theorem dX12_ovenOf_1 : decode cX12_ovenOf 1 = .ok (.iload_n 1, 1) := by decide +kernel
theorem dX12_ovenOf_2 : decode cX12_ovenOf 2 = .ok (.invokevirtual 110, 3) := by decide +kernel
theorem dX12_ovenOf_5 : decode cX12_ovenOf 5 = .ok (.ifCond .eq 15, 3) := by decide +kernel
theorem dX12_ovenOf_8 : decode cX12_ovenOf 8 = .ok (.iload_n 2, 1) := by decide +kernel
theorem dX12_ovenOf_9 : decode cX12_ovenOf 9 = .ok (.i2l, 1) := by decide +kernel
theorem dX12_ovenOf_10 : decode cX12_ovenOf 10 = .ok (.lconst 0, 1) := by decide +kernel
theorem dX12_ovenOf_11 : decode cX12_ovenOf 11 = .ok (.ldc2_w 114, 3) := by decide +kernel
theorem dX12_ovenOf_14 : decode cX12_ovenOf 14 = .ok (.invokestatic 66, 3) := by decide +kernel
theorem dX12_ovenOf_17 : decode cX12_ovenOf 17 = .ok (.ifCond .ne 5, 3) := by decide +kernel
theorem dX12_ovenOf_20 : decode cX12_ovenOf 20 = .ok (.iconst (-1), 1) := by decide +kernel
theorem dX12_ovenOf_21 : decode cX12_ovenOf 21 = .ok (.ireturn, 1) := by decide +kernel
theorem dX12_ovenOf_22 : decode cX12_ovenOf 22 = .ok (.aload_n 0, 1) := by decide +kernel
theorem dX12_ovenOf_23 : decode cX12_ovenOf 23 = .ok (.iconst 0, 1) := by decide +kernel
theorem dX12_ovenOf_24 : decode cX12_ovenOf 24 = .ok (.invokevirtual 116, 3) := by decide +kernel
theorem dX12_ovenOf_27 : decode cX12_ovenOf 27 = .ok (.iload_n 2, 1) := by decide +kernel
theorem dX12_ovenOf_28 : decode cX12_ovenOf 28 = .ok (.iconst 5, 1) := by decide +kernel
theorem dX12_ovenOf_29 : decode cX12_ovenOf 29 = .ok (.if_icmp .ge 12, 3) := by decide +kernel
theorem dX12_ovenOf_32 : decode cX12_ovenOf 32 = .ok (.aload_n 0, 1) := by decide +kernel
theorem dX12_ovenOf_33 : decode cX12_ovenOf 33 = .ok (.iload_n 1, 1) := by decide +kernel
theorem dX12_ovenOf_34 : decode cX12_ovenOf 34 = .ok (.iload_n 2, 1) := by decide +kernel
theorem dX12_ovenOf_35 : decode cX12_ovenOf 35 = .ok (.invokevirtual 78, 3) := by decide +kernel
theorem dX12_ovenOf_38 : decode cX12_ovenOf 38 = .ok (.goto 36, 3) := by decide +kernel
theorem dX12_ovenOf_41 : decode cX12_ovenOf 41 = .ok (.iload_n 2, 1) := by decide +kernel
theorem dX12_ovenOf_42 : decode cX12_ovenOf 42 = .ok (.iconst 5, 1) := by decide +kernel
theorem dX12_ovenOf_43 : decode cX12_ovenOf 43 = .ok (.if_icmp .ne 11, 3) := by decide +kernel
theorem dX12_ovenOf_46 : decode cX12_ovenOf 46 = .ok (.aload_n 0, 1) := by decide +kernel
theorem dX12_ovenOf_47 : decode cX12_ovenOf 47 = .ok (.iload_n 1, 1) := by decide +kernel
theorem dX12_ovenOf_48 : decode cX12_ovenOf 48 = .ok (.invokevirtual 120, 3) := by decide +kernel
theorem dX12_ovenOf_51 : decode cX12_ovenOf 51 = .ok (.goto 23, 3) := by decide +kernel
theorem dX12_ovenOf_54 : decode cX12_ovenOf 54 = .ok (.iload_n 2, 1) := by decide +kernel
theorem dX12_ovenOf_55 : decode cX12_ovenOf 55 = .ok (.bipush 6, 2) := by decide +kernel
theorem dX12_ovenOf_57 : decode cX12_ovenOf 57 = .ok (.if_icmp .ne 12, 3) := by decide +kernel
theorem dX12_ovenOf_60 : decode cX12_ovenOf 60 = .ok (.aload_n 0, 1) := by decide +kernel
theorem dX12_ovenOf_61 : decode cX12_ovenOf 61 = .ok (.getfield 22, 3) := by decide +kernel
theorem dX12_ovenOf_64 : decode cX12_ovenOf 64 = .ok (.iload_n 1, 1) := by decide +kernel
theorem dX12_ovenOf_65 : decode cX12_ovenOf 65 = .ok (.iaload, 1) := by decide +kernel
theorem dX12_ovenOf_66 : decode cX12_ovenOf 66 = .ok (.goto 8, 3) := by decide +kernel
theorem dX12_ovenOf_69 : decode cX12_ovenOf 69 = .ok (.aload_n 0, 1) := by decide +kernel
theorem dX12_ovenOf_70 : decode cX12_ovenOf 70 = .ok (.iload_n 1, 1) := by decide +kernel
theorem dX12_ovenOf_71 : decode cX12_ovenOf 71 = .ok (.invokevirtual 123, 3) := by decide +kernel
theorem dX12_ovenOf_74 : decode cX12_ovenOf 74 = .ok (.ireturn, 1) := by decide +kernel
theorem dX12_change_0 : decode cX12_change 0 = .ok (.aload_n 0, 1) := by decide +kernel
theorem dX12_change_1 : decode cX12_change 1 = .ok (.iload_n 1, 1) := by decide +kernel
theorem dX12_change_2 : decode cX12_change 2 = .ok (.invokevirtual 110, 3) := by decide +kernel
theorem dX12_change_5 : decode cX12_change 5 = .ok (.ifCond .eq 51, 3) := by decide +kernel
theorem dX12_change_8 : decode cX12_change 8 = .ok (.iload_n 2, 1) := by decide +kernel
theorem dX12_change_9 : decode cX12_change 9 = .ok (.i2l, 1) := by decide +kernel
theorem dX12_change_10 : decode cX12_change 10 = .ok (.lconst 1, 1) := by decide +kernel
theorem dX12_change_11 : decode cX12_change 11 = .ok (.ldc2_w 126, 3) := by decide +kernel
theorem dX12_change_14 : decode cX12_change 14 = .ok (.invokestatic 66, 3) := by decide +kernel
theorem dX12_change_17 : decode cX12_change 17 = .ok (.ifCond .eq 39, 3) := by decide +kernel
theorem dX12_change_20 : decode cX12_change 20 = .ok (.iload_n 3, 1) := by decide +kernel
theorem dX12_change_21 : decode cX12_change 21 = .ok (.i2l, 1) := by decide +kernel
theorem dX12_change_22 : decode cX12_change 22 = .ok (.iload_n 2, 1) := by decide +kernel
theorem dX12_change_23 : decode cX12_change 23 = .ok (.iconst 3, 1) := by decide +kernel
theorem dX12_change_24 : decode cX12_change 24 = .ok (.if_icmp .ne 7, 3) := by decide +kernel
theorem dX12_change_27 : decode cX12_change 27 = .ok (.lconst 1, 1) := by decide +kernel
theorem dX12_change_28 : decode cX12_change 28 = .ok (.goto 4, 3) := by decide +kernel
theorem dX12_change_31 : decode cX12_change 31 = .ok (.lconst 0, 1) := by decide +kernel
theorem dX12_change_32 : decode cX12_change 32 = .ok (.iload_n 2, 1) := by decide +kernel
theorem dX12_change_33 : decode cX12_change 33 = .ok (.iconst 2, 1) := by decide +kernel
theorem dX12_change_34 : decode cX12_change 34 = .ok (.if_icmp .ne 9, 3) := by decide +kernel
theorem dX12_change_37 : decode cX12_change 37 = .ok (.ldc2_w 72, 3) := by decide +kernel
theorem dX12_change_40 : decode cX12_change 40 = .ok (.goto 6, 3) := by decide +kernel
theorem dX12_change_43 : decode cX12_change 43 = .ok (.ldc2_w 70, 3) := by decide +kernel
theorem dX12_change_46 : decode cX12_change 46 = .ok (.invokestatic 66, 3) := by decide +kernel
theorem dX12_change_49 : decode cX12_change 49 = .ok (.ifCond .eq 7, 3) := by decide +kernel
theorem dX12_change_52 : decode cX12_change 52 = .ok (.iconst 1, 1) := by decide +kernel
theorem dX12_change_53 : decode cX12_change 53 = .ok (.goto 4, 3) := by decide +kernel
theorem dX12_change_56 : decode cX12_change 56 = .ok (.iconst 0, 1) := by decide +kernel
theorem dX12_change_57 : decode cX12_change 57 = .ok (.istore 4, 2) := by decide +kernel
theorem dX12_change_59 : decode cX12_change 59 = .ok (.iload 4, 2) := by decide +kernel
theorem dX12_change_61 : decode cX12_change 61 = .ok (.ifCond .eq 19, 3) := by decide +kernel
theorem dX12_change_64 : decode cX12_change 64 = .ok (.aload_n 0, 1) := by decide +kernel
theorem dX12_change_65 : decode cX12_change 65 = .ok (.bipush 8, 2) := by decide +kernel
theorem dX12_change_67 : decode cX12_change 67 = .ok (.iconst 5, 1) := by decide +kernel
theorem dX12_change_68 : decode cX12_change 68 = .ok (.iload_n 1, 1) := by decide +kernel
theorem dX12_change_69 : decode cX12_change 69 = .ok (.imul, 1) := by decide +kernel
theorem dX12_change_70 : decode cX12_change 70 = .ok (.iadd, 1) := by decide +kernel
theorem dX12_change_71 : decode cX12_change 71 = .ok (.iload_n 2, 1) := by decide +kernel
theorem dX12_change_72 : decode cX12_change 72 = .ok (.iadd, 1) := by decide +kernel
theorem dX12_change_73 : decode cX12_change 73 = .ok (.iload_n 3, 1) := by decide +kernel
theorem dX12_change_74 : decode cX12_change 74 = .ok (.invokevirtual 128, 3) := by decide +kernel
theorem dX12_change_77 : decode cX12_change 77 = .ok (.goto 4, 3) := by decide +kernel
theorem dX12_change_80 : decode cX12_change 80 = .ok (.iconst (-1), 1) := by decide +kernel
theorem dX12_change_81 : decode cX12_change 81 = .ok (.ireturn, 1) := by decide +kernel
theorem dX12_remake_0 : decode cX12_remake 0 = .ok (.aload_n 0, 1) := by decide +kernel
theorem dX12_remake_1 : decode cX12_remake 1 = .ok (.iload_n 1, 1) := by decide +kernel
theorem dX12_remake_2 : decode cX12_remake 2 = .ok (.invokevirtual 110, 3) := by decide +kernel
theorem dX12_remake_5 : decode cX12_remake 5 = .ok (.ifCond .eq 29, 3) := by decide +kernel
theorem dX12_remake_8 : decode cX12_remake 8 = .ok (.iload_n 2, 1) := by decide +kernel
theorem dX12_remake_9 : decode cX12_remake 9 = .ok (.i2l, 1) := by decide +kernel
theorem dX12_remake_10 : decode cX12_remake 10 = .ok (.lconst 1, 1) := by decide +kernel
theorem dX12_remake_11 : decode cX12_remake 11 = .ok (.ldc2_w 64, 3) := by decide +kernel
theorem dX12_remake_14 : decode cX12_remake 14 = .ok (.invokestatic 66, 3) := by decide +kernel
theorem dX12_remake_17 : decode cX12_remake 17 = .ok (.ifCond .eq 17, 3) := by decide +kernel
theorem dX12_remake_20 : decode cX12_remake 20 = .ok (.aload_n 0, 1) := by decide +kernel
theorem dX12_remake_21 : decode cX12_remake 21 = .ok (.bipush 8, 2) := by decide +kernel
theorem dX12_remake_23 : decode cX12_remake 23 = .ok (.iconst 5, 1) := by decide +kernel
theorem dX12_remake_24 : decode cX12_remake 24 = .ok (.iload_n 1, 1) := by decide +kernel
theorem dX12_remake_25 : decode cX12_remake 25 = .ok (.imul, 1) := by decide +kernel
theorem dX12_remake_26 : decode cX12_remake 26 = .ok (.iadd, 1) := by decide +kernel
theorem dX12_remake_27 : decode cX12_remake 27 = .ok (.iload_n 2, 1) := by decide +kernel
theorem dX12_remake_28 : decode cX12_remake 28 = .ok (.invokevirtual 128, 3) := by decide +kernel
theorem dX12_remake_31 : decode cX12_remake 31 = .ok (.goto 4, 3) := by decide +kernel
theorem dX12_remake_34 : decode cX12_remake 34 = .ok (.iconst (-1), 1) := by decide +kernel
theorem dX12_remake_35 : decode cX12_remake 35 = .ok (.ireturn, 1) := by decide +kernel
theorem dX12_longing_0 : decode cX12_longing 0 = .ok (.aload_n 0, 1) := by decide +kernel
theorem dX12_longing_1 : decode cX12_longing 1 = .ok (.iload_n 1, 1) := by decide +kernel
theorem dX12_longing_2 : decode cX12_longing 2 = .ok (.invokevirtual 110, 3) := by decide +kernel
theorem dX12_longing_5 : decode cX12_longing 5 = .ok (.ifCond .eq 28, 3) := by decide +kernel
theorem dX12_longing_8 : decode cX12_longing 8 = .ok (.aload_n 0, 1) := by decide +kernel
theorem dX12_longing_9 : decode cX12_longing 9 = .ok (.iload_n 2, 1) := by decide +kernel
theorem dX12_longing_10 : decode cX12_longing 10 = .ok (.invokevirtual 110, 3) := by decide +kernel
theorem dX12_longing_13 : decode cX12_longing 13 = .ok (.ifCond .eq 20, 3) := by decide +kernel
theorem dX12_longing_16 : decode cX12_longing 16 = .ok (.iload_n 1, 1) := by decide +kernel
theorem dX12_longing_17 : decode cX12_longing 17 = .ok (.iload_n 2, 1) := by decide +kernel
theorem dX12_longing_18 : decode cX12_longing 18 = .ok (.if_icmp .eq 15, 3) := by decide +kernel
theorem dX12_longing_21 : decode cX12_longing 21 = .ok (.aload_n 0, 1) := by decide +kernel
theorem dX12_longing_22 : decode cX12_longing 22 = .ok (.iload_n 1, 1) := by decide +kernel
theorem dX12_longing_23 : decode cX12_longing 23 = .ok (.iload_n 2, 1) := by decide +kernel
theorem dX12_longing_24 : decode cX12_longing 24 = .ok (.invokevirtual 107, 3) := by decide +kernel
theorem dX12_longing_27 : decode cX12_longing 27 = .ok (.bipush 100, 2) := by decide +kernel
theorem dX12_longing_29 : decode cX12_longing 29 = .ok (.iadd, 1) := by decide +kernel
theorem dX12_longing_30 : decode cX12_longing 30 = .ok (.goto 4, 3) := by decide +kernel
theorem dX12_longing_33 : decode cX12_longing 33 = .ok (.iconst (-1), 1) := by decide +kernel
theorem dX12_longing_34 : decode cX12_longing 34 = .ok (.ireturn, 1) := by decide +kernel
theorem dX12_ends_0 : decode cX12_ends 0 = .ok (.iload_n 1, 1) := by decide +kernel
theorem dX12_ends_1 : decode cX12_ends 1 = .ok (.i2l, 1) := by decide +kernel
theorem dX12_ends_2 : decode cX12_ends 2 = .ok (.lconst 1, 1) := by decide +kernel
theorem dX12_ends_3 : decode cX12_ends 3 = .ok (.ldc2_w 131, 3) := by decide +kernel
theorem dX12_ends_6 : decode cX12_ends 6 = .ok (.invokestatic 66, 3) := by decide +kernel
theorem dX12_ends_9 : decode cX12_ends 9 = .ok (.ifCond .ne 5, 3) := by decide +kernel
theorem dX12_ends_12 : decode cX12_ends 12 = .ok (.iconst (-1), 1) := by decide +kernel
theorem dX12_ends_13 : decode cX12_ends 13 = .ok (.ireturn, 1) := by decide +kernel
theorem dX12_ends_14 : decode cX12_ends 14 = .ok (.iload_n 1, 1) := by decide +kernel
theorem dX12_ends_15 : decode cX12_ends 15 = .ok (.aload_n 0, 1) := by decide +kernel
theorem dX12_ends_16 : decode cX12_ends 16 = .ok (.getfield 7, 3) := by decide +kernel
theorem dX12_ends_19 : decode cX12_ends 19 = .ok (.iconst 1, 1) := by decide +kernel
theorem dX12_ends_20 : decode cX12_ends 20 = .ok (.iaload, 1) := by decide +kernel
theorem dX12_ends_21 : decode cX12_ends 21 = .ok (.if_icmp .ge 8, 3) := by decide +kernel
theorem dX12_ends_24 : decode cX12_ends 24 = .ok (.bipush (-4), 2) := by decide +kernel
theorem dX12_ends_26 : decode cX12_ends 26 = .ok (.goto 9, 3) := by decide +kernel
theorem dX12_ends_29 : decode cX12_ends 29 = .ok (.aload_n 0, 1) := by decide +kernel
theorem dX12_ends_30 : decode cX12_ends 30 = .ok (.iconst 2, 1) := by decide +kernel
theorem dX12_ends_31 : decode cX12_ends 31 = .ok (.iload_n 1, 1) := by decide +kernel
theorem dX12_ends_32 : decode cX12_ends 32 = .ok (.invokevirtual 128, 3) := by decide +kernel
theorem dX12_ends_35 : decode cX12_ends 35 = .ok (.ireturn, 1) := by decide +kernel
theorem dX12_anew_0 : decode cX12_anew 0 = .ok (.iconst 0, 1) := by decide +kernel
theorem dX12_anew_1 : decode cX12_anew 1 = .ok (.istore_n 1, 1) := by decide +kernel
theorem dX12_anew_2 : decode cX12_anew 2 = .ok (.iload_n 1, 1) := by decide +kernel
theorem dX12_anew_3 : decode cX12_anew 3 = .ok (.aload_n 0, 1) := by decide +kernel
theorem dX12_anew_4 : decode cX12_anew 4 = .ok (.getfield 7, 3) := by decide +kernel
theorem dX12_anew_7 : decode cX12_anew 7 = .ok (.iconst 0, 1) := by decide +kernel
theorem dX12_anew_8 : decode cX12_anew 8 = .ok (.iaload, 1) := by decide +kernel
theorem dX12_anew_9 : decode cX12_anew 9 = .ok (.if_icmp .ge 23, 3) := by decide +kernel
theorem dX12_anew_12 : decode cX12_anew 12 = .ok (.aload_n 0, 1) := by decide +kernel
theorem dX12_anew_13 : decode cX12_anew 13 = .ok (.getfield 7, 3) := by decide +kernel
theorem dX12_anew_16 : decode cX12_anew 16 = .ok (.bipush 8, 2) := by decide +kernel
theorem dX12_anew_18 : decode cX12_anew 18 = .ok (.iconst 5, 1) := by decide +kernel
theorem dX12_anew_19 : decode cX12_anew 19 = .ok (.iload_n 1, 1) := by decide +kernel
theorem dX12_anew_20 : decode cX12_anew 20 = .ok (.imul, 1) := by decide +kernel
theorem dX12_anew_21 : decode cX12_anew 21 = .ok (.iadd, 1) := by decide +kernel
theorem dX12_anew_22 : decode cX12_anew 22 = .ok (.iconst 4, 1) := by decide +kernel
theorem dX12_anew_23 : decode cX12_anew 23 = .ok (.iadd, 1) := by decide +kernel
theorem dX12_anew_24 : decode cX12_anew 24 = .ok (.iconst 0, 1) := by decide +kernel
theorem dX12_anew_25 : decode cX12_anew 25 = .ok (.iastore, 1) := by decide +kernel
theorem dX12_anew_26 : decode cX12_anew 26 = .ok (.iinc 1 1, 3) := by decide +kernel
theorem dX12_anew_29 : decode cX12_anew 29 = .ok (.goto (-27), 3) := by decide +kernel
theorem dX12_anew_32 : decode cX12_anew 32 = .ok (.aload_n 0, 1) := by decide +kernel
theorem dX12_anew_33 : decode cX12_anew 33 = .ok (.getfield 7, 3) := by decide +kernel
theorem dX12_anew_36 : decode cX12_anew 36 = .ok (.iconst 3, 1) := by decide +kernel
theorem dX12_anew_37 : decode cX12_anew 37 = .ok (.iconst 0, 1) := by decide +kernel
theorem dX12_anew_38 : decode cX12_anew 38 = .ok (.iastore, 1) := by decide +kernel
theorem dX12_anew_39 : decode cX12_anew 39 = .ok (.aload_n 0, 1) := by decide +kernel
theorem dX12_anew_40 : decode cX12_anew 40 = .ok (.iconst 1, 1) := by decide +kernel
theorem dX12_anew_41 : decode cX12_anew 41 = .ok (.iconst 0, 1) := by decide +kernel
theorem dX12_anew_42 : decode cX12_anew 42 = .ok (.invokevirtual 128, 3) := by decide +kernel
theorem dX12_anew_45 : decode cX12_anew 45 = .ok (.ireturn, 1) := by decide +kernel
theorem dX12_home_0 : decode cX12_home 0 = .ok (.iconst 0, 1) := by decide +kernel
theorem dX12_home_1 : decode cX12_home 1 = .ok (.istore_n 1, 1) := by decide +kernel
theorem dX12_home_2 : decode cX12_home 2 = .ok (.iconst 0, 1) := by decide +kernel
theorem dX12_home_3 : decode cX12_home 3 = .ok (.istore_n 2, 1) := by decide +kernel
theorem dX12_home_4 : decode cX12_home 4 = .ok (.iload_n 2, 1) := by decide +kernel
theorem dX12_home_5 : decode cX12_home 5 = .ok (.aload_n 0, 1) := by decide +kernel
theorem dX12_home_6 : decode cX12_home 6 = .ok (.getfield 7, 3) := by decide +kernel
theorem dX12_home_9 : decode cX12_home 9 = .ok (.iconst 0, 1) := by decide +kernel
theorem dX12_home_10 : decode cX12_home 10 = .ok (.iaload, 1) := by decide +kernel
theorem dX12_home_11 : decode cX12_home 11 = .ok (.if_icmp .ge 28, 3) := by decide +kernel
theorem dX12_home_14 : decode cX12_home 14 = .ok (.iload_n 1, 1) := by decide +kernel
theorem dX12_home_15 : decode cX12_home 15 = .ok (.aload_n 0, 1) := by decide +kernel
theorem dX12_home_16 : decode cX12_home 16 = .ok (.iload_n 2, 1) := by decide +kernel
theorem dX12_home_17 : decode cX12_home 17 = .ok (.iconst 4, 1) := by decide +kernel
theorem dX12_home_18 : decode cX12_home 18 = .ok (.invokevirtual 78, 3) := by decide +kernel
theorem dX12_home_21 : decode cX12_home 21 = .ok (.ifCond .ne 9, 3) := by decide +kernel
theorem dX12_home_24 : decode cX12_home 24 = .ok (.iconst 1, 1) := by decide +kernel
theorem dX12_home_25 : decode cX12_home 25 = .ok (.iload_n 2, 1) := by decide +kernel
theorem dX12_home_26 : decode cX12_home 26 = .ok (.ishl, 1) := by decide +kernel
theorem dX12_home_27 : decode cX12_home 27 = .ok (.goto 4, 3) := by decide +kernel
theorem dX12_home_30 : decode cX12_home 30 = .ok (.iconst 0, 1) := by decide +kernel
theorem dX12_home_31 : decode cX12_home 31 = .ok (.ior, 1) := by decide +kernel
theorem dX12_home_32 : decode cX12_home 32 = .ok (.istore_n 1, 1) := by decide +kernel
theorem dX12_home_33 : decode cX12_home 33 = .ok (.iinc 2 1, 3) := by decide +kernel
theorem dX12_home_36 : decode cX12_home 36 = .ok (.goto (-32), 3) := by decide +kernel
theorem dX12_home_39 : decode cX12_home 39 = .ok (.iload_n 1, 1) := by decide +kernel
theorem dX12_home_40 : decode cX12_home 40 = .ok (.ireturn, 1) := by decide +kernel
theorem dX12_state_0 : decode cX12_state 0 = .ok (.iload_n 1, 1) := by decide +kernel
theorem dX12_state_1 : decode cX12_state 1 = .ok (.tableswitch 62 0 4 #[35, 35, 35, 44, 57], 35) := by decide +kernel
theorem dX12_state_36 : decode cX12_state 36 = .ok (.aload_n 0, 1) := by decide +kernel
theorem dX12_state_37 : decode cX12_state 37 = .ok (.getfield 7, 3) := by decide +kernel
theorem dX12_state_40 : decode cX12_state 40 = .ok (.iconst 1, 1) := by decide +kernel
theorem dX12_state_41 : decode cX12_state 41 = .ok (.iload_n 1, 1) := by decide +kernel
theorem dX12_state_42 : decode cX12_state 42 = .ok (.iadd, 1) := by decide +kernel
theorem dX12_state_43 : decode cX12_state 43 = .ok (.iaload, 1) := by decide +kernel
theorem dX12_state_44 : decode cX12_state 44 = .ok (.ireturn, 1) := by decide +kernel
theorem dX12_state_45 : decode cX12_state 45 = .ok (.aload_n 0, 1) := by decide +kernel
theorem dX12_state_46 : decode cX12_state 46 = .ok (.invokevirtual 133, 3) := by decide +kernel
theorem dX12_state_49 : decode cX12_state 49 = .ok (.ifCond .eq 7, 3) := by decide +kernel
theorem dX12_state_52 : decode cX12_state 52 = .ok (.iconst 1, 1) := by decide +kernel
theorem dX12_state_53 : decode cX12_state 53 = .ok (.goto 4, 3) := by decide +kernel
theorem dX12_state_56 : decode cX12_state 56 = .ok (.iconst 0, 1) := by decide +kernel
theorem dX12_state_57 : decode cX12_state 57 = .ok (.ireturn, 1) := by decide +kernel
theorem dX12_state_58 : decode cX12_state 58 = .ok (.aload_n 0, 1) := by decide +kernel
theorem dX12_state_59 : decode cX12_state 59 = .ok (.invokevirtual 137, 3) := by decide +kernel
theorem dX12_state_62 : decode cX12_state 62 = .ok (.ireturn, 1) := by decide +kernel
theorem dX12_state_63 : decode cX12_state 63 = .ok (.iconst (-1), 1) := by decide +kernel
theorem dX12_state_64 : decode cX12_state 64 = .ok (.ireturn, 1) := by decide +kernel
theorem dX12_feed_0 : decode cX12_feed 0 = .ok (.iload_n 3, 1) := by decide +kernel
theorem dX12_feed_1 : decode cX12_feed 1 = .ok (.i2l, 1) := by decide +kernel
theorem dX12_feed_2 : decode cX12_feed 2 = .ok (.lconst 1, 1) := by decide +kernel
theorem dX12_feed_3 : decode cX12_feed 3 = .ok (.ldc2_w 141, 3) := by decide +kernel
theorem dX12_feed_6 : decode cX12_feed 6 = .ok (.invokestatic 66, 3) := by decide +kernel
theorem dX12_feed_9 : decode cX12_feed 9 = .ok (.ifCond .ne 5, 3) := by decide +kernel
theorem dX12_feed_12 : decode cX12_feed 12 = .ok (.iconst (-1), 1) := by decide +kernel
theorem dX12_feed_13 : decode cX12_feed 13 = .ok (.ireturn, 1) := by decide +kernel
theorem dX12_feed_14 : decode cX12_feed 14 = .ok (.aload_n 0, 1) := by decide +kernel
theorem dX12_feed_15 : decode cX12_feed 15 = .ok (.getfield 143, 3) := by decide +kernel
theorem dX12_feed_18 : decode cX12_feed 18 = .ok (.iload_n 3, 1) := by decide +kernel
theorem dX12_feed_19 : decode cX12_feed 19 = .ok (.iadd, 1) := by decide +kernel
theorem dX12_feed_20 : decode cX12_feed 20 = .ok (.sipush 200, 3) := by decide +kernel
theorem dX12_feed_23 : decode cX12_feed 23 = .ok (.if_icmp .le 6, 3) := by decide +kernel
theorem dX12_feed_26 : decode cX12_feed 26 = .ok (.bipush (-2), 2) := by decide +kernel
theorem dX12_feed_28 : decode cX12_feed 28 = .ok (.ireturn, 1) := by decide +kernel
theorem dX12_feed_29 : decode cX12_feed 29 = .ok (.iconst 0, 1) := by decide +kernel
theorem dX12_feed_30 : decode cX12_feed 30 = .ok (.istore 4, 2) := by decide +kernel
theorem dX12_feed_32 : decode cX12_feed 32 = .ok (.iload 4, 2) := by decide +kernel
theorem dX12_feed_34 : decode cX12_feed 34 = .ok (.iload_n 3, 1) := by decide +kernel
theorem dX12_feed_35 : decode cX12_feed 35 = .ok (.if_icmp .ge 40, 3) := by decide +kernel
theorem dX12_feed_38 : decode cX12_feed 38 = .ok (.aload_n 0, 1) := by decide +kernel
theorem dX12_feed_39 : decode cX12_feed 39 = .ok (.getfield 19, 3) := by decide +kernel
theorem dX12_feed_42 : decode cX12_feed 42 = .ok (.aload_n 0, 1) := by decide +kernel
theorem dX12_feed_43 : decode cX12_feed 43 = .ok (.getfield 143, 3) := by decide +kernel
theorem dX12_feed_46 : decode cX12_feed 46 = .ok (.lload_n 1, 1) := by decide +kernel
theorem dX12_feed_47 : decode cX12_feed 47 = .ok (.bipush 8, 2) := by decide +kernel
theorem dX12_feed_49 : decode cX12_feed 49 = .ok (.iload 4, 2) := by decide +kernel
theorem dX12_feed_51 : decode cX12_feed 51 = .ok (.imul, 1) := by decide +kernel
theorem dX12_feed_52 : decode cX12_feed 52 = .ok (.lshr, 1) := by decide +kernel
theorem dX12_feed_53 : decode cX12_feed 53 = .ok (.ldc2_w 146, 3) := by decide +kernel
theorem dX12_feed_56 : decode cX12_feed 56 = .ok (.land, 1) := by decide +kernel
theorem dX12_feed_57 : decode cX12_feed 57 = .ok (.l2i, 1) := by decide +kernel
theorem dX12_feed_58 : decode cX12_feed 58 = .ok (.iastore, 1) := by decide +kernel
theorem dX12_feed_59 : decode cX12_feed 59 = .ok (.aload_n 0, 1) := by decide +kernel
theorem dX12_feed_60 : decode cX12_feed 60 = .ok (.dup, 1) := by decide +kernel
theorem dX12_feed_61 : decode cX12_feed 61 = .ok (.getfield 143, 3) := by decide +kernel
theorem dX12_feed_64 : decode cX12_feed 64 = .ok (.iconst 1, 1) := by decide +kernel
theorem dX12_feed_65 : decode cX12_feed 65 = .ok (.iadd, 1) := by decide +kernel
theorem dX12_feed_66 : decode cX12_feed 66 = .ok (.putfield 143, 3) := by decide +kernel
theorem dX12_feed_69 : decode cX12_feed 69 = .ok (.iinc 4 1, 3) := by decide +kernel
theorem dX12_feed_72 : decode cX12_feed 72 = .ok (.goto (-40), 3) := by decide +kernel
theorem dX12_feed_75 : decode cX12_feed 75 = .ok (.aload_n 0, 1) := by decide +kernel
theorem dX12_feed_76 : decode cX12_feed 76 = .ok (.getfield 143, 3) := by decide +kernel
theorem dX12_feed_79 : decode cX12_feed 79 = .ok (.ireturn, 1) := by decide +kernel
theorem dX12_isAlpha_0 : decode cX12_isAlpha 0 = .ok (.iload_n 0, 1) := by decide +kernel
theorem dX12_isAlpha_1 : decode cX12_isAlpha 1 = .ok (.bipush 97, 2) := by decide +kernel
theorem dX12_isAlpha_3 : decode cX12_isAlpha 3 = .ok (.if_icmp .lt 13, 3) := by decide +kernel
theorem dX12_isAlpha_6 : decode cX12_isAlpha 6 = .ok (.iload_n 0, 1) := by decide +kernel
theorem dX12_isAlpha_7 : decode cX12_isAlpha 7 = .ok (.bipush 122, 2) := by decide +kernel
theorem dX12_isAlpha_9 : decode cX12_isAlpha 9 = .ok (.if_icmp .gt 7, 3) := by decide +kernel
theorem dX12_isAlpha_12 : decode cX12_isAlpha 12 = .ok (.iconst 1, 1) := by decide +kernel
theorem dX12_isAlpha_13 : decode cX12_isAlpha 13 = .ok (.goto 4, 3) := by decide +kernel
theorem dX12_isAlpha_16 : decode cX12_isAlpha 16 = .ok (.iconst 0, 1) := by decide +kernel
theorem dX12_isAlpha_17 : decode cX12_isAlpha 17 = .ok (.ireturn, 1) := by decide +kernel
theorem dX12_isDigit_0 : decode cX12_isDigit 0 = .ok (.iload_n 0, 1) := by decide +kernel
theorem dX12_isDigit_1 : decode cX12_isDigit 1 = .ok (.bipush 48, 2) := by decide +kernel
theorem dX12_isDigit_3 : decode cX12_isDigit 3 = .ok (.if_icmp .lt 13, 3) := by decide +kernel
theorem dX12_isDigit_6 : decode cX12_isDigit 6 = .ok (.iload_n 0, 1) := by decide +kernel
theorem dX12_isDigit_7 : decode cX12_isDigit 7 = .ok (.bipush 57, 2) := by decide +kernel
theorem dX12_isDigit_9 : decode cX12_isDigit 9 = .ok (.if_icmp .gt 7, 3) := by decide +kernel
theorem dX12_isDigit_12 : decode cX12_isDigit 12 = .ok (.iconst 1, 1) := by decide +kernel
theorem dX12_isDigit_13 : decode cX12_isDigit 13 = .ok (.goto 4, 3) := by decide +kernel
theorem dX12_isDigit_16 : decode cX12_isDigit 16 = .ok (.iconst 0, 1) := by decide +kernel
theorem dX12_isDigit_17 : decode cX12_isDigit 17 = .ok (.ireturn, 1) := by decide +kernel
theorem dX12_byteAt_0 : decode cX12_byteAt 0 = .ok (.iload_n 1, 1) := by decide +kernel
theorem dX12_byteAt_1 : decode cX12_byteAt 1 = .ok (.aload_n 0, 1) := by decide +kernel
theorem dX12_byteAt_2 : decode cX12_byteAt 2 = .ok (.getfield 143, 3) := by decide +kernel
theorem dX12_byteAt_5 : decode cX12_byteAt 5 = .ok (.if_icmp .ge 12, 3) := by decide +kernel
theorem dX12_byteAt_8 : decode cX12_byteAt 8 = .ok (.aload_n 0, 1) := by decide +kernel
theorem dX12_byteAt_9 : decode cX12_byteAt 9 = .ok (.getfield 19, 3) := by decide +kernel
theorem dX12_byteAt_12 : decode cX12_byteAt 12 = .ok (.iload_n 1, 1) := by decide +kernel
theorem dX12_byteAt_13 : decode cX12_byteAt 13 = .ok (.iaload, 1) := by decide +kernel
theorem dX12_byteAt_14 : decode cX12_byteAt 14 = .ok (.goto 4, 3) := by decide +kernel
theorem dX12_byteAt_17 : decode cX12_byteAt 17 = .ok (.iconst (-1), 1) := by decide +kernel
theorem dX12_byteAt_18 : decode cX12_byteAt 18 = .ok (.ireturn, 1) := by decide +kernel
theorem dX12_nextToken_0 : decode cX12_nextToken 0 = .ok (.aload_n 0, 1) := by decide +kernel
theorem dX12_nextToken_1 : decode cX12_nextToken 1 = .ok (.aload_n 0, 1) := by decide +kernel
theorem dX12_nextToken_2 : decode cX12_nextToken 2 = .ok (.getfield 148, 3) := by decide +kernel
theorem dX12_nextToken_5 : decode cX12_nextToken 5 = .ok (.putfield 151, 3) := by decide +kernel
theorem dX12_nextToken_8 : decode cX12_nextToken 8 = .ok (.aload_n 0, 1) := by decide +kernel
theorem dX12_nextToken_9 : decode cX12_nextToken 9 = .ok (.aload_n 0, 1) := by decide +kernel
theorem dX12_nextToken_10 : decode cX12_nextToken 10 = .ok (.getfield 151, 3) := by decide +kernel
theorem dX12_nextToken_13 : decode cX12_nextToken 13 = .ok (.invokevirtual 154, 3) := by decide +kernel
theorem dX12_nextToken_16 : decode cX12_nextToken 16 = .ok (.bipush 32, 2) := by decide +kernel
theorem dX12_nextToken_18 : decode cX12_nextToken 18 = .ok (.if_icmp .ne 16, 3) := by decide +kernel
theorem dX12_nextToken_21 : decode cX12_nextToken 21 = .ok (.aload_n 0, 1) := by decide +kernel
theorem dX12_nextToken_22 : decode cX12_nextToken 22 = .ok (.dup, 1) := by decide +kernel
theorem dX12_nextToken_23 : decode cX12_nextToken 23 = .ok (.getfield 151, 3) := by decide +kernel
theorem dX12_nextToken_26 : decode cX12_nextToken 26 = .ok (.iconst 1, 1) := by decide +kernel
theorem dX12_nextToken_27 : decode cX12_nextToken 27 = .ok (.iadd, 1) := by decide +kernel
theorem dX12_nextToken_28 : decode cX12_nextToken 28 = .ok (.putfield 151, 3) := by decide +kernel
theorem dX12_nextToken_31 : decode cX12_nextToken 31 = .ok (.goto (-23), 3) := by decide +kernel
theorem dX12_nextToken_34 : decode cX12_nextToken 34 = .ok (.aload_n 0, 1) := by decide +kernel
theorem dX12_nextToken_35 : decode cX12_nextToken 35 = .ok (.aload_n 0, 1) := by decide +kernel
theorem dX12_nextToken_36 : decode cX12_nextToken 36 = .ok (.getfield 151, 3) := by decide +kernel
theorem dX12_nextToken_39 : decode cX12_nextToken 39 = .ok (.putfield 148, 3) := by decide +kernel
theorem dX12_nextToken_42 : decode cX12_nextToken 42 = .ok (.aload_n 0, 1) := by decide +kernel
theorem dX12_nextToken_43 : decode cX12_nextToken 43 = .ok (.aload_n 0, 1) := by decide +kernel
theorem dX12_nextToken_44 : decode cX12_nextToken 44 = .ok (.getfield 151, 3) := by decide +kernel
theorem dX12_nextToken_47 : decode cX12_nextToken 47 = .ok (.invokevirtual 154, 3) := by decide +kernel
theorem dX12_nextToken_50 : decode cX12_nextToken 50 = .ok (.istore_n 1, 1) := by decide +kernel
theorem dX12_nextToken_51 : decode cX12_nextToken 51 = .ok (.aload_n 0, 1) := by decide +kernel
theorem dX12_nextToken_52 : decode cX12_nextToken 52 = .ok (.iload_n 1, 1) := by decide +kernel
theorem dX12_nextToken_53 : decode cX12_nextToken 53 = .ok (.ifCond .ge 7, 3) := by decide +kernel
theorem dX12_nextToken_56 : decode cX12_nextToken 56 = .ok (.iconst 0, 1) := by decide +kernel
theorem dX12_nextToken_57 : decode cX12_nextToken 57 = .ok (.goto 26, 3) := by decide +kernel
theorem dX12_nextToken_60 : decode cX12_nextToken 60 = .ok (.iload_n 1, 1) := by decide +kernel
theorem dX12_nextToken_61 : decode cX12_nextToken 61 = .ok (.invokestatic 157, 3) := by decide +kernel
theorem dX12_nextToken_64 : decode cX12_nextToken 64 = .ok (.ifCond .eq 7, 3) := by decide +kernel
theorem dX12_nextToken_67 : decode cX12_nextToken 67 = .ok (.iconst 1, 1) := by decide +kernel
theorem dX12_nextToken_68 : decode cX12_nextToken 68 = .ok (.goto 15, 3) := by decide +kernel
theorem dX12_nextToken_71 : decode cX12_nextToken 71 = .ok (.iload_n 1, 1) := by decide +kernel
theorem dX12_nextToken_72 : decode cX12_nextToken 72 = .ok (.invokestatic 160, 3) := by decide +kernel
theorem dX12_nextToken_75 : decode cX12_nextToken 75 = .ok (.ifCond .eq 7, 3) := by decide +kernel
theorem dX12_nextToken_78 : decode cX12_nextToken 78 = .ok (.iconst 2, 1) := by decide +kernel
theorem dX12_nextToken_79 : decode cX12_nextToken 79 = .ok (.goto 4, 3) := by decide +kernel
theorem dX12_nextToken_82 : decode cX12_nextToken 82 = .ok (.iconst 3, 1) := by decide +kernel
theorem dX12_nextToken_83 : decode cX12_nextToken 83 = .ok (.putfield 163, 3) := by decide +kernel
theorem dX12_nextToken_86 : decode cX12_nextToken 86 = .ok (.aload_n 0, 1) := by decide +kernel
theorem dX12_nextToken_87 : decode cX12_nextToken 87 = .ok (.iconst 0, 1) := by decide +kernel
theorem dX12_nextToken_88 : decode cX12_nextToken 88 = .ok (.putfield 166, 3) := by decide +kernel
theorem dX12_nextToken_91 : decode cX12_nextToken 91 = .ok (.aload_n 0, 1) := by decide +kernel
theorem dX12_nextToken_92 : decode cX12_nextToken 92 = .ok (.getfield 163, 3) := by decide +kernel
theorem dX12_nextToken_95 : decode cX12_nextToken 95 = .ok (.iconst 1, 1) := by decide +kernel
theorem dX12_nextToken_96 : decode cX12_nextToken 96 = .ok (.if_icmp .ne 30, 3) := by decide +kernel
theorem dX12_nextToken_99 : decode cX12_nextToken 99 = .ok (.aload_n 0, 1) := by decide +kernel
theorem dX12_nextToken_100 : decode cX12_nextToken 100 = .ok (.aload_n 0, 1) := by decide +kernel
theorem dX12_nextToken_101 : decode cX12_nextToken 101 = .ok (.getfield 148, 3) := by decide +kernel
theorem dX12_nextToken_104 : decode cX12_nextToken 104 = .ok (.invokevirtual 154, 3) := by decide +kernel
theorem dX12_nextToken_107 : decode cX12_nextToken 107 = .ok (.invokestatic 157, 3) := by decide +kernel
theorem dX12_nextToken_110 : decode cX12_nextToken 110 = .ok (.ifCond .eq 16, 3) := by decide +kernel
theorem dX12_nextToken_113 : decode cX12_nextToken 113 = .ok (.aload_n 0, 1) := by decide +kernel
theorem dX12_nextToken_114 : decode cX12_nextToken 114 = .ok (.dup, 1) := by decide +kernel
theorem dX12_nextToken_115 : decode cX12_nextToken 115 = .ok (.getfield 148, 3) := by decide +kernel
theorem dX12_nextToken_118 : decode cX12_nextToken 118 = .ok (.iconst 1, 1) := by decide +kernel
theorem dX12_nextToken_119 : decode cX12_nextToken 119 = .ok (.iadd, 1) := by decide +kernel
theorem dX12_nextToken_120 : decode cX12_nextToken 120 = .ok (.putfield 148, 3) := by decide +kernel
theorem dX12_nextToken_123 : decode cX12_nextToken 123 = .ok (.goto (-32), 3) := by decide +kernel
theorem dX12_nextToken_126 : decode cX12_nextToken 126 = .ok (.aload_n 0, 1) := by decide +kernel
theorem dX12_nextToken_127 : decode cX12_nextToken 127 = .ok (.getfield 163, 3) := by decide +kernel
theorem dX12_nextToken_130 : decode cX12_nextToken 130 = .ok (.iconst 2, 1) := by decide +kernel
theorem dX12_nextToken_131 : decode cX12_nextToken 131 = .ok (.if_icmp .ne 70, 3) := by decide +kernel
theorem dX12_nextToken_134 : decode cX12_nextToken 134 = .ok (.aload_n 0, 1) := by decide +kernel
theorem dX12_nextToken_135 : decode cX12_nextToken 135 = .ok (.aload_n 0, 1) := by decide +kernel
theorem dX12_nextToken_136 : decode cX12_nextToken 136 = .ok (.getfield 148, 3) := by decide +kernel
theorem dX12_nextToken_139 : decode cX12_nextToken 139 = .ok (.invokevirtual 154, 3) := by decide +kernel
theorem dX12_nextToken_142 : decode cX12_nextToken 142 = .ok (.invokestatic 160, 3) := by decide +kernel
theorem dX12_nextToken_145 : decode cX12_nextToken 145 = .ok (.ifCond .eq 56, 3) := by decide +kernel
theorem dX12_nextToken_148 : decode cX12_nextToken 148 = .ok (.aload_n 0, 1) := by decide +kernel
theorem dX12_nextToken_149 : decode cX12_nextToken 149 = .ok (.aload_n 0, 1) := by decide +kernel
theorem dX12_nextToken_150 : decode cX12_nextToken 150 = .ok (.getfield 166, 3) := by decide +kernel
theorem dX12_nextToken_153 : decode cX12_nextToken 153 = .ok (.sipush 9999, 3) := by decide +kernel
theorem dX12_nextToken_156 : decode cX12_nextToken 156 = .ok (.if_icmp .le 10, 3) := by decide +kernel
theorem dX12_nextToken_159 : decode cX12_nextToken 159 = .ok (.aload_n 0, 1) := by decide +kernel
theorem dX12_nextToken_160 : decode cX12_nextToken 160 = .ok (.getfield 166, 3) := by decide +kernel
theorem dX12_nextToken_163 : decode cX12_nextToken 163 = .ok (.goto 22, 3) := by decide +kernel
theorem dX12_nextToken_166 : decode cX12_nextToken 166 = .ok (.bipush 10, 2) := by decide +kernel
theorem dX12_nextToken_168 : decode cX12_nextToken 168 = .ok (.aload_n 0, 1) := by decide +kernel
theorem dX12_nextToken_169 : decode cX12_nextToken 169 = .ok (.getfield 166, 3) := by decide +kernel
theorem dX12_nextToken_172 : decode cX12_nextToken 172 = .ok (.imul, 1) := by decide +kernel
theorem dX12_nextToken_173 : decode cX12_nextToken 173 = .ok (.aload_n 0, 1) := by decide +kernel
theorem dX12_nextToken_174 : decode cX12_nextToken 174 = .ok (.aload_n 0, 1) := by decide +kernel
theorem dX12_nextToken_175 : decode cX12_nextToken 175 = .ok (.getfield 148, 3) := by decide +kernel
theorem dX12_nextToken_178 : decode cX12_nextToken 178 = .ok (.invokevirtual 154, 3) := by decide +kernel
theorem dX12_nextToken_181 : decode cX12_nextToken 181 = .ok (.iadd, 1) := by decide +kernel
theorem dX12_nextToken_182 : decode cX12_nextToken 182 = .ok (.bipush 48, 2) := by decide +kernel
theorem dX12_nextToken_184 : decode cX12_nextToken 184 = .ok (.isub, 1) := by decide +kernel
theorem dX12_nextToken_185 : decode cX12_nextToken 185 = .ok (.putfield 166, 3) := by decide +kernel
theorem dX12_nextToken_188 : decode cX12_nextToken 188 = .ok (.aload_n 0, 1) := by decide +kernel
theorem dX12_nextToken_189 : decode cX12_nextToken 189 = .ok (.dup, 1) := by decide +kernel
theorem dX12_nextToken_190 : decode cX12_nextToken 190 = .ok (.getfield 148, 3) := by decide +kernel
theorem dX12_nextToken_193 : decode cX12_nextToken 193 = .ok (.iconst 1, 1) := by decide +kernel
theorem dX12_nextToken_194 : decode cX12_nextToken 194 = .ok (.iadd, 1) := by decide +kernel
theorem dX12_nextToken_195 : decode cX12_nextToken 195 = .ok (.putfield 148, 3) := by decide +kernel
theorem dX12_nextToken_198 : decode cX12_nextToken 198 = .ok (.goto (-72), 3) := by decide +kernel
theorem dX12_nextToken_201 : decode cX12_nextToken 201 = .ok (.aload_n 0, 1) := by decide +kernel
theorem dX12_nextToken_202 : decode cX12_nextToken 202 = .ok (.dup, 1) := by decide +kernel
theorem dX12_nextToken_203 : decode cX12_nextToken 203 = .ok (.getfield 148, 3) := by decide +kernel
theorem dX12_nextToken_206 : decode cX12_nextToken 206 = .ok (.aload_n 0, 1) := by decide +kernel
theorem dX12_nextToken_207 : decode cX12_nextToken 207 = .ok (.getfield 163, 3) := by decide +kernel
theorem dX12_nextToken_210 : decode cX12_nextToken 210 = .ok (.iconst 2, 1) := by decide +kernel
theorem dX12_nextToken_211 : decode cX12_nextToken 211 = .ok (.if_icmp .le 7, 3) := by decide +kernel
theorem dX12_nextToken_214 : decode cX12_nextToken 214 = .ok (.iconst 1, 1) := by decide +kernel
theorem dX12_nextToken_215 : decode cX12_nextToken 215 = .ok (.goto 4, 3) := by decide +kernel
theorem dX12_nextToken_218 : decode cX12_nextToken 218 = .ok (.iconst 0, 1) := by decide +kernel
theorem dX12_nextToken_219 : decode cX12_nextToken 219 = .ok (.iadd, 1) := by decide +kernel
theorem dX12_nextToken_220 : decode cX12_nextToken 220 = .ok (.putfield 148, 3) := by decide +kernel
theorem dX12_nextToken_223 : decode cX12_nextToken 223 = .ok (.return_, 1) := by decide +kernel
theorem dX12_needs_0 : decode cX12_needs 0 = .ok (.aload_n 0, 1) := by decide +kernel
theorem dX12_needs_1 : decode cX12_needs 1 = .ok (.aload_n 0, 1) := by decide +kernel
theorem dX12_needs_2 : decode cX12_needs 2 = .ok (.getfield 169, 3) := by decide +kernel
theorem dX12_needs_5 : decode cX12_needs 5 = .ok (.ifCond .ne 7, 3) := by decide +kernel
theorem dX12_needs_8 : decode cX12_needs 8 = .ok (.iload_n 1, 1) := by decide +kernel
theorem dX12_needs_9 : decode cX12_needs 9 = .ok (.ifCond .ne 7, 3) := by decide +kernel
theorem dX12_needs_12 : decode cX12_needs 12 = .ok (.iconst 1, 1) := by decide +kernel
theorem dX12_needs_13 : decode cX12_needs 13 = .ok (.goto 4, 3) := by decide +kernel
theorem dX12_needs_16 : decode cX12_needs 16 = .ok (.iconst 0, 1) := by decide +kernel
theorem dX12_needs_17 : decode cX12_needs 17 = .ok (.putfield 169, 3) := by decide +kernel
theorem dX12_needs_20 : decode cX12_needs 20 = .ok (.aload_n 0, 1) := by decide +kernel
theorem dX12_needs_21 : decode cX12_needs 21 = .ok (.getfield 169, 3) := by decide +kernel
theorem dX12_needs_24 : decode cX12_needs 24 = .ok (.ifCond .ne 7, 3) := by decide +kernel
theorem dX12_needs_27 : decode cX12_needs 27 = .ok (.aload_n 0, 1) := by decide +kernel
theorem dX12_needs_28 : decode cX12_needs 28 = .ok (.invokevirtual 173, 3) := by decide +kernel
theorem dX12_needs_31 : decode cX12_needs 31 = .ok (.return_, 1) := by decide +kernel
theorem dX12_isByte_0 : decode cX12_isByte 0 = .ok (.aload_n 0, 1) := by decide +kernel
theorem dX12_isByte_1 : decode cX12_isByte 1 = .ok (.getfield 163, 3) := by decide +kernel
theorem dX12_isByte_4 : decode cX12_isByte 4 = .ok (.iconst 3, 1) := by decide +kernel
theorem dX12_isByte_5 : decode cX12_isByte 5 = .ok (.if_icmp .ne 19, 3) := by decide +kernel
theorem dX12_isByte_8 : decode cX12_isByte 8 = .ok (.aload_n 0, 1) := by decide +kernel
theorem dX12_isByte_9 : decode cX12_isByte 9 = .ok (.aload_n 0, 1) := by decide +kernel
theorem dX12_isByte_10 : decode cX12_isByte 10 = .ok (.getfield 151, 3) := by decide +kernel
theorem dX12_isByte_13 : decode cX12_isByte 13 = .ok (.invokevirtual 154, 3) := by decide +kernel
theorem dX12_isByte_16 : decode cX12_isByte 16 = .ok (.iload_n 1, 1) := by decide +kernel
theorem dX12_isByte_17 : decode cX12_isByte 17 = .ok (.if_icmp .ne 7, 3) := by decide +kernel
theorem dX12_isByte_20 : decode cX12_isByte 20 = .ok (.iconst 1, 1) := by decide +kernel
theorem dX12_isByte_21 : decode cX12_isByte 21 = .ok (.goto 4, 3) := by decide +kernel
theorem dX12_isByte_24 : decode cX12_isByte 24 = .ok (.iconst 0, 1) := by decide +kernel
theorem dX12_isByte_25 : decode cX12_isByte 25 = .ok (.ireturn, 1) := by decide +kernel
theorem dX12_isName_0 : decode cX12_isName 0 = .ok (.aload_n 0, 1) := by decide +kernel
theorem dX12_isName_1 : decode cX12_isName 1 = .ok (.getfield 163, 3) := by decide +kernel
theorem dX12_isName_4 : decode cX12_isName 4 = .ok (.iconst 1, 1) := by decide +kernel
theorem dX12_isName_5 : decode cX12_isName 5 = .ok (.if_icmp .ne 76, 3) := by decide +kernel
theorem dX12_isName_8 : decode cX12_isName 8 = .ok (.aload_n 0, 1) := by decide +kernel
theorem dX12_isName_9 : decode cX12_isName 9 = .ok (.getfield 148, 3) := by decide +kernel
theorem dX12_isName_12 : decode cX12_isName 12 = .ok (.aload_n 0, 1) := by decide +kernel
theorem dX12_isName_13 : decode cX12_isName 13 = .ok (.getfield 151, 3) := by decide +kernel
theorem dX12_isName_16 : decode cX12_isName 16 = .ok (.isub, 1) := by decide +kernel
theorem dX12_isName_17 : decode cX12_isName 17 = .ok (.iload_n 1, 1) := by decide +kernel
theorem dX12_isName_18 : decode cX12_isName 18 = .ok (.if_icmp .ne 63, 3) := by decide +kernel
theorem dX12_isName_21 : decode cX12_isName 21 = .ok (.aload_n 0, 1) := by decide +kernel
theorem dX12_isName_22 : decode cX12_isName 22 = .ok (.aload_n 0, 1) := by decide +kernel
theorem dX12_isName_23 : decode cX12_isName 23 = .ok (.getfield 151, 3) := by decide +kernel
theorem dX12_isName_26 : decode cX12_isName 26 = .ok (.invokevirtual 154, 3) := by decide +kernel
theorem dX12_isName_29 : decode cX12_isName 29 = .ok (.iload_n 2, 1) := by decide +kernel
theorem dX12_isName_30 : decode cX12_isName 30 = .ok (.if_icmp .ne 51, 3) := by decide +kernel
theorem dX12_isName_33 : decode cX12_isName 33 = .ok (.aload_n 0, 1) := by decide +kernel
theorem dX12_isName_34 : decode cX12_isName 34 = .ok (.aload_n 0, 1) := by decide +kernel
theorem dX12_isName_35 : decode cX12_isName 35 = .ok (.getfield 151, 3) := by decide +kernel
theorem dX12_isName_38 : decode cX12_isName 38 = .ok (.iconst 1, 1) := by decide +kernel
theorem dX12_isName_39 : decode cX12_isName 39 = .ok (.iadd, 1) := by decide +kernel
theorem dX12_isName_40 : decode cX12_isName 40 = .ok (.invokevirtual 154, 3) := by decide +kernel
theorem dX12_isName_43 : decode cX12_isName 43 = .ok (.iload_n 3, 1) := by decide +kernel
theorem dX12_isName_44 : decode cX12_isName 44 = .ok (.if_icmp .ne 37, 3) := by decide +kernel
theorem dX12_isName_47 : decode cX12_isName 47 = .ok (.aload_n 0, 1) := by decide +kernel
theorem dX12_isName_48 : decode cX12_isName 48 = .ok (.aload_n 0, 1) := by decide +kernel
theorem dX12_isName_49 : decode cX12_isName 49 = .ok (.getfield 151, 3) := by decide +kernel
theorem dX12_isName_52 : decode cX12_isName 52 = .ok (.iconst 2, 1) := by decide +kernel
theorem dX12_isName_53 : decode cX12_isName 53 = .ok (.iadd, 1) := by decide +kernel
theorem dX12_isName_54 : decode cX12_isName 54 = .ok (.invokevirtual 154, 3) := by decide +kernel
theorem dX12_isName_57 : decode cX12_isName 57 = .ok (.iload 4, 2) := by decide +kernel
theorem dX12_isName_59 : decode cX12_isName 59 = .ok (.if_icmp .ne 22, 3) := by decide +kernel
theorem dX12_isName_62 : decode cX12_isName 62 = .ok (.aload_n 0, 1) := by decide +kernel
theorem dX12_isName_63 : decode cX12_isName 63 = .ok (.aload_n 0, 1) := by decide +kernel
theorem dX12_isName_64 : decode cX12_isName 64 = .ok (.getfield 148, 3) := by decide +kernel
theorem dX12_isName_67 : decode cX12_isName 67 = .ok (.iconst 1, 1) := by decide +kernel
theorem dX12_isName_68 : decode cX12_isName 68 = .ok (.isub, 1) := by decide +kernel
theorem dX12_isName_69 : decode cX12_isName 69 = .ok (.invokevirtual 154, 3) := by decide +kernel
theorem dX12_isName_72 : decode cX12_isName 72 = .ok (.iload 5, 2) := by decide +kernel
theorem dX12_isName_74 : decode cX12_isName 74 = .ok (.if_icmp .ne 7, 3) := by decide +kernel
theorem dX12_isName_77 : decode cX12_isName 77 = .ok (.iconst 1, 1) := by decide +kernel
theorem dX12_isName_78 : decode cX12_isName 78 = .ok (.goto 4, 3) := by decide +kernel
theorem dX12_isName_81 : decode cX12_isName 81 = .ok (.iconst 0, 1) := by decide +kernel
theorem dX12_isName_82 : decode cX12_isName 82 = .ok (.ireturn, 1) := by decide +kernel
theorem dX12_isSame_0 : decode cX12_isSame 0 = .ok (.aload_n 0, 1) := by decide +kernel
theorem dX12_isSame_1 : decode cX12_isSame 1 = .ok (.aload_n 0, 1) := by decide +kernel
theorem dX12_isSame_2 : decode cX12_isSame 2 = .ok (.getfield 151, 3) := by decide +kernel
theorem dX12_isSame_5 : decode cX12_isSame 5 = .ok (.iload_n 1, 1) := by decide +kernel
theorem dX12_isSame_6 : decode cX12_isSame 6 = .ok (.iadd, 1) := by decide +kernel
theorem dX12_isSame_7 : decode cX12_isSame 7 = .ok (.invokevirtual 154, 3) := by decide +kernel
theorem dX12_isSame_10 : decode cX12_isSame 10 = .ok (.iload_n 2, 1) := by decide +kernel
theorem dX12_isSame_11 : decode cX12_isSame 11 = .ok (.if_icmp .ne 40, 3) := by decide +kernel
theorem dX12_isSame_14 : decode cX12_isSame 14 = .ok (.aload_n 0, 1) := by decide +kernel
theorem dX12_isSame_15 : decode cX12_isSame 15 = .ok (.aload_n 0, 1) := by decide +kernel
theorem dX12_isSame_16 : decode cX12_isSame 16 = .ok (.getfield 151, 3) := by decide +kernel
theorem dX12_isSame_19 : decode cX12_isSame 19 = .ok (.iload_n 1, 1) := by decide +kernel
theorem dX12_isSame_20 : decode cX12_isSame 20 = .ok (.iadd, 1) := by decide +kernel
theorem dX12_isSame_21 : decode cX12_isSame 21 = .ok (.iconst 1, 1) := by decide +kernel
theorem dX12_isSame_22 : decode cX12_isSame 22 = .ok (.iadd, 1) := by decide +kernel
theorem dX12_isSame_23 : decode cX12_isSame 23 = .ok (.invokevirtual 154, 3) := by decide +kernel
theorem dX12_isSame_26 : decode cX12_isSame 26 = .ok (.iload_n 3, 1) := by decide +kernel
theorem dX12_isSame_27 : decode cX12_isSame 27 = .ok (.if_icmp .ne 24, 3) := by decide +kernel
theorem dX12_isSame_30 : decode cX12_isSame 30 = .ok (.aload_n 0, 1) := by decide +kernel
theorem dX12_isSame_31 : decode cX12_isSame 31 = .ok (.aload_n 0, 1) := by decide +kernel
theorem dX12_isSame_32 : decode cX12_isSame 32 = .ok (.getfield 151, 3) := by decide +kernel
theorem dX12_isSame_35 : decode cX12_isSame 35 = .ok (.iload_n 1, 1) := by decide +kernel
theorem dX12_isSame_36 : decode cX12_isSame 36 = .ok (.iadd, 1) := by decide +kernel
theorem dX12_isSame_37 : decode cX12_isSame 37 = .ok (.iconst 2, 1) := by decide +kernel
theorem dX12_isSame_38 : decode cX12_isSame 38 = .ok (.iadd, 1) := by decide +kernel
theorem dX12_isSame_39 : decode cX12_isSame 39 = .ok (.invokevirtual 154, 3) := by decide +kernel
theorem dX12_isSame_42 : decode cX12_isSame 42 = .ok (.iload 4, 2) := by decide +kernel
theorem dX12_isSame_44 : decode cX12_isSame 44 = .ok (.if_icmp .ne 7, 3) := by decide +kernel
theorem dX12_isSame_47 : decode cX12_isSame 47 = .ok (.iconst 1, 1) := by decide +kernel
theorem dX12_isSame_48 : decode cX12_isSame 48 = .ok (.goto 4, 3) := by decide +kernel
theorem dX12_isSame_51 : decode cX12_isSame 51 = .ok (.iconst 0, 1) := by decide +kernel
theorem dX12_isSame_52 : decode cX12_isSame 52 = .ok (.ireturn, 1) := by decide +kernel
theorem dX12_kindHere_0 : decode cX12_kindHere 0 = .ok (.aload_n 0, 1) := by decide +kernel
theorem dX12_kindHere_1 : decode cX12_kindHere 1 = .ok (.iconst 4, 1) := by decide +kernel
theorem dX12_kindHere_2 : decode cX12_kindHere 2 = .ok (.bipush 111, 2) := by decide +kernel
theorem dX12_kindHere_4 : decode cX12_kindHere 4 = .ok (.bipush 118, 2) := by decide +kernel
theorem dX12_kindHere_6 : decode cX12_kindHere 6 = .ok (.bipush 101, 2) := by decide +kernel
theorem dX12_kindHere_8 : decode cX12_kindHere 8 = .ok (.bipush 110, 2) := by decide +kernel
theorem dX12_kindHere_10 : decode cX12_kindHere 10 = .ok (.invokevirtual 176, 3) := by decide +kernel
theorem dX12_kindHere_13 : decode cX12_kindHere 13 = .ok (.ifCond .eq 5, 3) := by decide +kernel
theorem dX12_kindHere_16 : decode cX12_kindHere 16 = .ok (.iconst 0, 1) := by decide +kernel
theorem dX12_kindHere_17 : decode cX12_kindHere 17 = .ok (.ireturn, 1) := by decide +kernel
theorem dX12_kindHere_18 : decode cX12_kindHere 18 = .ok (.aload_n 0, 1) := by decide +kernel
theorem dX12_kindHere_19 : decode cX12_kindHere 19 = .ok (.bipush 7, 2) := by decide +kernel
theorem dX12_kindHere_21 : decode cX12_kindHere 21 = .ok (.bipush 119, 2) := by decide +kernel
theorem dX12_kindHere_23 : decode cX12_kindHere 23 = .ok (.bipush 105, 2) := by decide +kernel
theorem dX12_kindHere_25 : decode cX12_kindHere 25 = .ok (.bipush 100, 2) := by decide +kernel
theorem dX12_kindHere_27 : decode cX12_kindHere 27 = .ok (.bipush 100, 2) := by decide +kernel
theorem dX12_kindHere_29 : decode cX12_kindHere 29 = .ok (.invokevirtual 176, 3) := by decide +kernel
theorem dX12_kindHere_32 : decode cX12_kindHere 32 = .ok (.ifCond .eq 19, 3) := by decide +kernel
theorem dX12_kindHere_35 : decode cX12_kindHere 35 = .ok (.aload_n 0, 1) := by decide +kernel
theorem dX12_kindHere_36 : decode cX12_kindHere 36 = .ok (.iconst 3, 1) := by decide +kernel
theorem dX12_kindHere_37 : decode cX12_kindHere 37 = .ok (.bipush 111, 2) := by decide +kernel
theorem dX12_kindHere_39 : decode cX12_kindHere 39 = .ok (.bipush 119, 2) := by decide +kernel
theorem dX12_kindHere_41 : decode cX12_kindHere 41 = .ok (.bipush 101, 2) := by decide +kernel
theorem dX12_kindHere_43 : decode cX12_kindHere 43 = .ok (.invokevirtual 180, 3) := by decide +kernel
theorem dX12_kindHere_46 : decode cX12_kindHere 46 = .ok (.ifCond .eq 5, 3) := by decide +kernel
theorem dX12_kindHere_49 : decode cX12_kindHere 49 = .ok (.iconst 1, 1) := by decide +kernel
theorem dX12_kindHere_50 : decode cX12_kindHere 50 = .ok (.ireturn, 1) := by decide +kernel
theorem dX12_kindHere_51 : decode cX12_kindHere 51 = .ok (.aload_n 0, 1) := by decide +kernel
theorem dX12_kindHere_52 : decode cX12_kindHere 52 = .ok (.iconst 5, 1) := by decide +kernel
theorem dX12_kindHere_53 : decode cX12_kindHere 53 = .ok (.bipush 114, 2) := by decide +kernel
theorem dX12_kindHere_55 : decode cX12_kindHere 55 = .ok (.bipush 97, 2) := by decide +kernel
theorem dX12_kindHere_57 : decode cX12_kindHere 57 = .ok (.bipush 110, 2) := by decide +kernel
theorem dX12_kindHere_59 : decode cX12_kindHere 59 = .ok (.bipush 101, 2) := by decide +kernel
theorem dX12_kindHere_61 : decode cX12_kindHere 61 = .ok (.invokevirtual 176, 3) := by decide +kernel
theorem dX12_kindHere_64 : decode cX12_kindHere 64 = .ok (.ifCond .eq 20, 3) := by decide +kernel
theorem dX12_kindHere_67 : decode cX12_kindHere 67 = .ok (.aload_n 0, 1) := by decide +kernel
theorem dX12_kindHere_68 : decode cX12_kindHere 68 = .ok (.aload_n 0, 1) := by decide +kernel
theorem dX12_kindHere_69 : decode cX12_kindHere 69 = .ok (.getfield 151, 3) := by decide +kernel
theorem dX12_kindHere_72 : decode cX12_kindHere 72 = .ok (.iconst 3, 1) := by decide +kernel
theorem dX12_kindHere_73 : decode cX12_kindHere 73 = .ok (.iadd, 1) := by decide +kernel
theorem dX12_kindHere_74 : decode cX12_kindHere 74 = .ok (.invokevirtual 154, 3) := by decide +kernel
theorem dX12_kindHere_77 : decode cX12_kindHere 77 = .ok (.bipush 103, 2) := by decide +kernel
theorem dX12_kindHere_79 : decode cX12_kindHere 79 = .ok (.if_icmp .ne 5, 3) := by decide +kernel
theorem dX12_kindHere_82 : decode cX12_kindHere 82 = .ok (.iconst 2, 1) := by decide +kernel
theorem dX12_kindHere_83 : decode cX12_kindHere 83 = .ok (.ireturn, 1) := by decide +kernel
theorem dX12_kindHere_84 : decode cX12_kindHere 84 = .ok (.aload_n 0, 1) := by decide +kernel
theorem dX12_kindHere_85 : decode cX12_kindHere 85 = .ok (.bipush 6, 2) := by decide +kernel
theorem dX12_kindHere_87 : decode cX12_kindHere 87 = .ok (.bipush 100, 2) := by decide +kernel
theorem dX12_kindHere_89 : decode cX12_kindHere 89 = .ok (.bipush 111, 2) := by decide +kernel
theorem dX12_kindHere_91 : decode cX12_kindHere 91 = .ok (.bipush 111, 2) := by decide +kernel
theorem dX12_kindHere_93 : decode cX12_kindHere 93 = .ok (.bipush 100, 2) := by decide +kernel
theorem dX12_kindHere_95 : decode cX12_kindHere 95 = .ok (.invokevirtual 176, 3) := by decide +kernel
theorem dX12_kindHere_98 : decode cX12_kindHere 98 = .ok (.ifCond .eq 19, 3) := by decide +kernel
theorem dX12_kindHere_101 : decode cX12_kindHere 101 = .ok (.aload_n 0, 1) := by decide +kernel
theorem dX12_kindHere_102 : decode cX12_kindHere 102 = .ok (.iconst 2, 1) := by decide +kernel
theorem dX12_kindHere_103 : decode cX12_kindHere 103 = .ok (.bipush 111, 2) := by decide +kernel
theorem dX12_kindHere_105 : decode cX12_kindHere 105 = .ok (.bipush 114, 2) := by decide +kernel
theorem dX12_kindHere_107 : decode cX12_kindHere 107 = .ok (.bipush 101, 2) := by decide +kernel
theorem dX12_kindHere_109 : decode cX12_kindHere 109 = .ok (.invokevirtual 180, 3) := by decide +kernel
theorem dX12_kindHere_112 : decode cX12_kindHere 112 = .ok (.ifCond .eq 5, 3) := by decide +kernel
theorem dX12_kindHere_115 : decode cX12_kindHere 115 = .ok (.iconst 3, 1) := by decide +kernel
theorem dX12_kindHere_116 : decode cX12_kindHere 116 = .ok (.ireturn, 1) := by decide +kernel
theorem dX12_kindHere_117 : decode cX12_kindHere 117 = .ok (.aload_n 0, 1) := by decide +kernel
theorem dX12_kindHere_118 : decode cX12_kindHere 118 = .ok (.bipush 8, 2) := by decide +kernel
theorem dX12_kindHere_120 : decode cX12_kindHere 120 = .ok (.bipush 112, 2) := by decide +kernel
theorem dX12_kindHere_122 : decode cX12_kindHere 122 = .ok (.bipush 111, 2) := by decide +kernel
theorem dX12_kindHere_124 : decode cX12_kindHere 124 = .ok (.bipush 114, 2) := by decide +kernel
theorem dX12_kindHere_126 : decode cX12_kindHere 126 = .ok (.bipush 101, 2) := by decide +kernel
theorem dX12_kindHere_128 : decode cX12_kindHere 128 = .ok (.invokevirtual 176, 3) := by decide +kernel
theorem dX12_kindHere_131 : decode cX12_kindHere 131 = .ok (.ifCond .eq 35, 3) := by decide +kernel
theorem dX12_kindHere_134 : decode cX12_kindHere 134 = .ok (.aload_n 0, 1) := by decide +kernel
theorem dX12_kindHere_135 : decode cX12_kindHere 135 = .ok (.iconst 3, 1) := by decide +kernel
theorem dX12_kindHere_136 : decode cX12_kindHere 136 = .ok (.bipush 116, 2) := by decide +kernel
theorem dX12_kindHere_138 : decode cX12_kindHere 138 = .ok (.bipush 97, 2) := by decide +kernel
theorem dX12_kindHere_140 : decode cX12_kindHere 140 = .ok (.bipush 98, 2) := by decide +kernel
theorem dX12_kindHere_142 : decode cX12_kindHere 142 = .ok (.invokevirtual 180, 3) := by decide +kernel
theorem dX12_kindHere_145 : decode cX12_kindHere 145 = .ok (.ifCond .eq 21, 3) := by decide +kernel
theorem dX12_kindHere_148 : decode cX12_kindHere 148 = .ok (.aload_n 0, 1) := by decide +kernel
theorem dX12_kindHere_149 : decode cX12_kindHere 149 = .ok (.aload_n 0, 1) := by decide +kernel
theorem dX12_kindHere_150 : decode cX12_kindHere 150 = .ok (.getfield 151, 3) := by decide +kernel
theorem dX12_kindHere_153 : decode cX12_kindHere 153 = .ok (.bipush 6, 2) := by decide +kernel
theorem dX12_kindHere_155 : decode cX12_kindHere 155 = .ok (.iadd, 1) := by decide +kernel
theorem dX12_kindHere_156 : decode cX12_kindHere 156 = .ok (.invokevirtual 154, 3) := by decide +kernel
theorem dX12_kindHere_159 : decode cX12_kindHere 159 = .ok (.bipush 108, 2) := by decide +kernel
theorem dX12_kindHere_161 : decode cX12_kindHere 161 = .ok (.if_icmp .ne 5, 3) := by decide +kernel
theorem dX12_kindHere_164 : decode cX12_kindHere 164 = .ok (.iconst 4, 1) := by decide +kernel
theorem dX12_kindHere_165 : decode cX12_kindHere 165 = .ok (.ireturn, 1) := by decide +kernel
theorem dX12_kindHere_166 : decode cX12_kindHere 166 = .ok (.aload_n 0, 1) := by decide +kernel
theorem dX12_kindHere_167 : decode cX12_kindHere 167 = .ok (.iconst 4, 1) := by decide +kernel
theorem dX12_kindHere_168 : decode cX12_kindHere 168 = .ok (.bipush 114, 2) := by decide +kernel
theorem dX12_kindHere_170 : decode cX12_kindHere 170 = .ok (.bipush 97, 2) := by decide +kernel
theorem dX12_kindHere_172 : decode cX12_kindHere 172 = .ok (.bipush 107, 2) := by decide +kernel
theorem dX12_kindHere_174 : decode cX12_kindHere 174 = .ok (.bipush 101, 2) := by decide +kernel
theorem dX12_kindHere_176 : decode cX12_kindHere 176 = .ok (.invokevirtual 176, 3) := by decide +kernel
theorem dX12_kindHere_179 : decode cX12_kindHere 179 = .ok (.ifCond .eq 7, 3) := by decide +kernel
theorem dX12_kindHere_182 : decode cX12_kindHere 182 = .ok (.iconst 5, 1) := by decide +kernel
theorem dX12_kindHere_183 : decode cX12_kindHere 183 = .ok (.goto 4, 3) := by decide +kernel
theorem dX12_kindHere_186 : decode cX12_kindHere 186 = .ok (.iconst (-1), 1) := by decide +kernel
theorem dX12_kindHere_187 : decode cX12_kindHere 187 = .ok (.ireturn, 1) := by decide +kernel
theorem dX12_doHere_0 : decode cX12_doHere 0 = .ok (.aload_n 0, 1) := by decide +kernel
theorem dX12_doHere_1 : decode cX12_doHere 1 = .ok (.getfield 163, 3) := by decide +kernel
theorem dX12_doHere_4 : decode cX12_doHere 4 = .ok (.iconst 1, 1) := by decide +kernel
theorem dX12_doHere_5 : decode cX12_doHere 5 = .ok (.if_icmp .ne 46, 3) := by decide +kernel
theorem dX12_doHere_8 : decode cX12_doHere 8 = .ok (.aload_n 0, 1) := by decide +kernel
theorem dX12_doHere_9 : decode cX12_doHere 9 = .ok (.getfield 148, 3) := by decide +kernel
theorem dX12_doHere_12 : decode cX12_doHere 12 = .ok (.aload_n 0, 1) := by decide +kernel
theorem dX12_doHere_13 : decode cX12_doHere 13 = .ok (.getfield 151, 3) := by decide +kernel
theorem dX12_doHere_16 : decode cX12_doHere 16 = .ok (.isub, 1) := by decide +kernel
theorem dX12_doHere_17 : decode cX12_doHere 17 = .ok (.iconst 2, 1) := by decide +kernel
theorem dX12_doHere_18 : decode cX12_doHere 18 = .ok (.if_icmp .ne 33, 3) := by decide +kernel
theorem dX12_doHere_21 : decode cX12_doHere 21 = .ok (.aload_n 0, 1) := by decide +kernel
theorem dX12_doHere_22 : decode cX12_doHere 22 = .ok (.aload_n 0, 1) := by decide +kernel
theorem dX12_doHere_23 : decode cX12_doHere 23 = .ok (.getfield 151, 3) := by decide +kernel
theorem dX12_doHere_26 : decode cX12_doHere 26 = .ok (.invokevirtual 154, 3) := by decide +kernel
theorem dX12_doHere_29 : decode cX12_doHere 29 = .ok (.bipush 103, 2) := by decide +kernel
theorem dX12_doHere_31 : decode cX12_doHere 31 = .ok (.if_icmp .ne 20, 3) := by decide +kernel
theorem dX12_doHere_34 : decode cX12_doHere 34 = .ok (.aload_n 0, 1) := by decide +kernel
theorem dX12_doHere_35 : decode cX12_doHere 35 = .ok (.aload_n 0, 1) := by decide +kernel
theorem dX12_doHere_36 : decode cX12_doHere 36 = .ok (.getfield 151, 3) := by decide +kernel
theorem dX12_doHere_39 : decode cX12_doHere 39 = .ok (.iconst 1, 1) := by decide +kernel
theorem dX12_doHere_40 : decode cX12_doHere 40 = .ok (.iadd, 1) := by decide +kernel
theorem dX12_doHere_41 : decode cX12_doHere 41 = .ok (.invokevirtual 154, 3) := by decide +kernel
theorem dX12_doHere_44 : decode cX12_doHere 44 = .ok (.bipush 111, 2) := by decide +kernel
theorem dX12_doHere_46 : decode cX12_doHere 46 = .ok (.if_icmp .ne 5, 3) := by decide +kernel
theorem dX12_doHere_49 : decode cX12_doHere 49 = .ok (.iconst 0, 1) := by decide +kernel
theorem dX12_doHere_50 : decode cX12_doHere 50 = .ok (.ireturn, 1) := by decide +kernel
theorem dX12_doHere_51 : decode cX12_doHere 51 = .ok (.aload_n 0, 1) := by decide +kernel
theorem dX12_doHere_52 : decode cX12_doHere 52 = .ok (.iconst 4, 1) := by decide +kernel
theorem dX12_doHere_53 : decode cX12_doHere 53 = .ok (.bipush 115, 2) := by decide +kernel
theorem dX12_doHere_55 : decode cX12_doHere 55 = .ok (.bipush 116, 2) := by decide +kernel
theorem dX12_doHere_57 : decode cX12_doHere 57 = .ok (.bipush 97, 2) := by decide +kernel
theorem dX12_doHere_59 : decode cX12_doHere 59 = .ok (.bipush 121, 2) := by decide +kernel
theorem dX12_doHere_61 : decode cX12_doHere 61 = .ok (.invokevirtual 176, 3) := by decide +kernel
theorem dX12_doHere_64 : decode cX12_doHere 64 = .ok (.ifCond .eq 5, 3) := by decide +kernel
theorem dX12_doHere_67 : decode cX12_doHere 67 = .ok (.iconst 1, 1) := by decide +kernel
theorem dX12_doHere_68 : decode cX12_doHere 68 = .ok (.ireturn, 1) := by decide +kernel
theorem dX12_doHere_69 : decode cX12_doHere 69 = .ok (.aload_n 0, 1) := by decide +kernel
theorem dX12_doHere_70 : decode cX12_doHere 70 = .ok (.iconst 3, 1) := by decide +kernel
theorem dX12_doHere_71 : decode cX12_doHere 71 = .ok (.bipush 115, 2) := by decide +kernel
theorem dX12_doHere_73 : decode cX12_doHere 73 = .ok (.bipush 104, 2) := by decide +kernel
theorem dX12_doHere_75 : decode cX12_doHere 75 = .ok (.bipush 121, 2) := by decide +kernel
theorem dX12_doHere_77 : decode cX12_doHere 77 = .ok (.bipush 121, 2) := by decide +kernel
theorem dX12_doHere_79 : decode cX12_doHere 79 = .ok (.invokevirtual 176, 3) := by decide +kernel
theorem dX12_doHere_82 : decode cX12_doHere 82 = .ok (.ifCond .eq 7, 3) := by decide +kernel
theorem dX12_doHere_85 : decode cX12_doHere 85 = .ok (.iconst 2, 1) := by decide +kernel
theorem dX12_doHere_86 : decode cX12_doHere 86 = .ok (.goto 4, 3) := by decide +kernel
theorem dX12_doHere_89 : decode cX12_doHere 89 = .ok (.iconst (-1), 1) := by decide +kernel
theorem dX12_doHere_90 : decode cX12_doHere 90 = .ok (.ireturn, 1) := by decide +kernel
theorem dX12_factHere_0 : decode cX12_factHere 0 = .ok (.aload_n 0, 1) := by decide +kernel
theorem dX12_factHere_1 : decode cX12_factHere 1 = .ok (.iconst 5, 1) := by decide +kernel
theorem dX12_factHere_2 : decode cX12_factHere 2 = .ok (.bipush 110, 2) := by decide +kernel
theorem dX12_factHere_4 : decode cX12_factHere 4 = .ok (.bipush 105, 2) := by decide +kernel
theorem dX12_factHere_6 : decode cX12_factHere 6 = .ok (.bipush 103, 2) := by decide +kernel
theorem dX12_factHere_8 : decode cX12_factHere 8 = .ok (.bipush 116, 2) := by decide +kernel
theorem dX12_factHere_10 : decode cX12_factHere 10 = .ok (.invokevirtual 176, 3) := by decide +kernel
theorem dX12_factHere_13 : decode cX12_factHere 13 = .ok (.ifCond .eq 20, 3) := by decide +kernel
theorem dX12_factHere_16 : decode cX12_factHere 16 = .ok (.aload_n 0, 1) := by decide +kernel
theorem dX12_factHere_17 : decode cX12_factHere 17 = .ok (.aload_n 0, 1) := by decide +kernel
theorem dX12_factHere_18 : decode cX12_factHere 18 = .ok (.getfield 151, 3) := by decide +kernel
theorem dX12_factHere_21 : decode cX12_factHere 21 = .ok (.iconst 3, 1) := by decide +kernel
theorem dX12_factHere_22 : decode cX12_factHere 22 = .ok (.iadd, 1) := by decide +kernel
theorem dX12_factHere_23 : decode cX12_factHere 23 = .ok (.invokevirtual 154, 3) := by decide +kernel
theorem dX12_factHere_26 : decode cX12_factHere 26 = .ok (.bipush 104, 2) := by decide +kernel
theorem dX12_factHere_28 : decode cX12_factHere 28 = .ok (.if_icmp .ne 5, 3) := by decide +kernel
theorem dX12_factHere_31 : decode cX12_factHere 31 = .ok (.iconst 0, 1) := by decide +kernel
theorem dX12_factHere_32 : decode cX12_factHere 32 = .ok (.ireturn, 1) := by decide +kernel
theorem dX12_factHere_33 : decode cX12_factHere 33 = .ok (.aload_n 0, 1) := by decide +kernel
theorem dX12_factHere_34 : decode cX12_factHere 34 = .ok (.iconst 4, 1) := by decide +kernel
theorem dX12_factHere_35 : decode cX12_factHere 35 = .ok (.bipush 119, 2) := by decide +kernel
theorem dX12_factHere_37 : decode cX12_factHere 37 = .ok (.bipush 97, 2) := by decide +kernel
theorem dX12_factHere_39 : decode cX12_factHere 39 = .ok (.bipush 114, 2) := by decide +kernel
theorem dX12_factHere_41 : decode cX12_factHere 41 = .ok (.bipush 109, 2) := by decide +kernel
theorem dX12_factHere_43 : decode cX12_factHere 43 = .ok (.invokevirtual 176, 3) := by decide +kernel
theorem dX12_factHere_46 : decode cX12_factHere 46 = .ok (.ifCond .eq 5, 3) := by decide +kernel
theorem dX12_factHere_49 : decode cX12_factHere 49 = .ok (.iconst 1, 1) := by decide +kernel
theorem dX12_factHere_50 : decode cX12_factHere 50 = .ok (.ireturn, 1) := by decide +kernel
theorem dX12_factHere_51 : decode cX12_factHere 51 = .ok (.aload_n 0, 1) := by decide +kernel
theorem dX12_factHere_52 : decode cX12_factHere 52 = .ok (.iconst 5, 1) := by decide +kernel
theorem dX12_factHere_53 : decode cX12_factHere 53 = .ok (.bipush 112, 2) := by decide +kernel
theorem dX12_factHere_55 : decode cX12_factHere 55 = .ok (.bipush 108, 2) := by decide +kernel
theorem dX12_factHere_57 : decode cX12_factHere 57 = .ok (.bipush 97, 2) := by decide +kernel
theorem dX12_factHere_59 : decode cX12_factHere 59 = .ok (.bipush 101, 2) := by decide +kernel
theorem dX12_factHere_61 : decode cX12_factHere 61 = .ok (.invokevirtual 176, 3) := by decide +kernel
theorem dX12_factHere_64 : decode cX12_factHere 64 = .ok (.ifCond .eq 20, 3) := by decide +kernel
theorem dX12_factHere_67 : decode cX12_factHere 67 = .ok (.aload_n 0, 1) := by decide +kernel
theorem dX12_factHere_68 : decode cX12_factHere 68 = .ok (.aload_n 0, 1) := by decide +kernel
theorem dX12_factHere_69 : decode cX12_factHere 69 = .ok (.getfield 151, 3) := by decide +kernel
theorem dX12_factHere_72 : decode cX12_factHere 72 = .ok (.iconst 3, 1) := by decide +kernel
theorem dX12_factHere_73 : decode cX12_factHere 73 = .ok (.iadd, 1) := by decide +kernel
theorem dX12_factHere_74 : decode cX12_factHere 74 = .ok (.invokevirtual 154, 3) := by decide +kernel
theorem dX12_factHere_77 : decode cX12_factHere 77 = .ok (.bipush 99, 2) := by decide +kernel
theorem dX12_factHere_79 : decode cX12_factHere 79 = .ok (.if_icmp .ne 5, 3) := by decide +kernel
theorem dX12_factHere_82 : decode cX12_factHere 82 = .ok (.iconst 2, 1) := by decide +kernel
theorem dX12_factHere_83 : decode cX12_factHere 83 = .ok (.ireturn, 1) := by decide +kernel
theorem dX12_factHere_84 : decode cX12_factHere 84 = .ok (.aload_n 0, 1) := by decide +kernel
theorem dX12_factHere_85 : decode cX12_factHere 85 = .ok (.iconst 4, 1) := by decide +kernel
theorem dX12_factHere_86 : decode cX12_factHere 86 = .ok (.bipush 102, 2) := by decide +kernel
theorem dX12_factHere_88 : decode cX12_factHere 88 = .ok (.bipush 105, 2) := by decide +kernel
theorem dX12_factHere_90 : decode cX12_factHere 90 = .ok (.bipush 114, 2) := by decide +kernel
theorem dX12_factHere_92 : decode cX12_factHere 92 = .ok (.bipush 101, 2) := by decide +kernel
theorem dX12_factHere_94 : decode cX12_factHere 94 = .ok (.invokevirtual 176, 3) := by decide +kernel
theorem dX12_factHere_97 : decode cX12_factHere 97 = .ok (.ifCond .eq 5, 3) := by decide +kernel
theorem dX12_factHere_100 : decode cX12_factHere 100 = .ok (.iconst 3, 1) := by decide +kernel
theorem dX12_factHere_101 : decode cX12_factHere 101 = .ok (.ireturn, 1) := by decide +kernel
theorem dX12_factHere_102 : decode cX12_factHere 102 = .ok (.aload_n 0, 1) := by decide +kernel
theorem dX12_factHere_103 : decode cX12_factHere 103 = .ok (.bipush 6, 2) := by decide +kernel
theorem dX12_factHere_105 : decode cX12_factHere 105 = .ok (.bipush 110, 2) := by decide +kernel
theorem dX12_factHere_107 : decode cX12_factHere 107 = .ok (.bipush 117, 2) := by decide +kernel
theorem dX12_factHere_109 : decode cX12_factHere 109 = .ok (.bipush 109, 2) := by decide +kernel
theorem dX12_factHere_111 : decode cX12_factHere 111 = .ok (.bipush 114, 2) := by decide +kernel
theorem dX12_factHere_113 : decode cX12_factHere 113 = .ok (.invokevirtual 176, 3) := by decide +kernel
theorem dX12_factHere_116 : decode cX12_factHere 116 = .ok (.ifCond .eq 21, 3) := by decide +kernel
theorem dX12_factHere_119 : decode cX12_factHere 119 = .ok (.aload_n 0, 1) := by decide +kernel
theorem dX12_factHere_120 : decode cX12_factHere 120 = .ok (.iconst 2, 1) := by decide +kernel
theorem dX12_factHere_121 : decode cX12_factHere 121 = .ok (.bipush 109, 2) := by decide +kernel
theorem dX12_factHere_123 : decode cX12_factHere 123 = .ok (.bipush 98, 2) := by decide +kernel
theorem dX12_factHere_125 : decode cX12_factHere 125 = .ok (.bipush 101, 2) := by decide +kernel
theorem dX12_factHere_127 : decode cX12_factHere 127 = .ok (.invokevirtual 180, 3) := by decide +kernel
theorem dX12_factHere_130 : decode cX12_factHere 130 = .ok (.ifCond .eq 7, 3) := by decide +kernel
theorem dX12_factHere_133 : decode cX12_factHere 133 = .ok (.iconst 4, 1) := by decide +kernel
theorem dX12_factHere_134 : decode cX12_factHere 134 = .ok (.goto 4, 3) := by decide +kernel
theorem dX12_factHere_137 : decode cX12_factHere 137 = .ok (.iconst (-1), 1) := by decide +kernel
theorem dX12_factHere_138 : decode cX12_factHere 138 = .ok (.ireturn, 1) := by decide +kernel
theorem dX12_isTwo_0 : decode cX12_isTwo 0 = .ok (.aload_n 0, 1) := by decide +kernel
theorem dX12_isTwo_1 : decode cX12_isTwo 1 = .ok (.getfield 163, 3) := by decide +kernel
theorem dX12_isTwo_4 : decode cX12_isTwo 4 = .ok (.iconst 1, 1) := by decide +kernel
theorem dX12_isTwo_5 : decode cX12_isTwo 5 = .ok (.if_icmp .ne 46, 3) := by decide +kernel
theorem dX12_isTwo_8 : decode cX12_isTwo 8 = .ok (.aload_n 0, 1) := by decide +kernel
theorem dX12_isTwo_9 : decode cX12_isTwo 9 = .ok (.getfield 148, 3) := by decide +kernel
theorem dX12_isTwo_12 : decode cX12_isTwo 12 = .ok (.aload_n 0, 1) := by decide +kernel
theorem dX12_isTwo_13 : decode cX12_isTwo 13 = .ok (.getfield 151, 3) := by decide +kernel
theorem dX12_isTwo_16 : decode cX12_isTwo 16 = .ok (.isub, 1) := by decide +kernel
theorem dX12_isTwo_17 : decode cX12_isTwo 17 = .ok (.iconst 2, 1) := by decide +kernel
theorem dX12_isTwo_18 : decode cX12_isTwo 18 = .ok (.if_icmp .ne 33, 3) := by decide +kernel
theorem dX12_isTwo_21 : decode cX12_isTwo 21 = .ok (.aload_n 0, 1) := by decide +kernel
theorem dX12_isTwo_22 : decode cX12_isTwo 22 = .ok (.aload_n 0, 1) := by decide +kernel
theorem dX12_isTwo_23 : decode cX12_isTwo 23 = .ok (.getfield 151, 3) := by decide +kernel
theorem dX12_isTwo_26 : decode cX12_isTwo 26 = .ok (.invokevirtual 154, 3) := by decide +kernel
theorem dX12_isTwo_29 : decode cX12_isTwo 29 = .ok (.iload_n 1, 1) := by decide +kernel
theorem dX12_isTwo_30 : decode cX12_isTwo 30 = .ok (.if_icmp .ne 21, 3) := by decide +kernel
theorem dX12_isTwo_33 : decode cX12_isTwo 33 = .ok (.aload_n 0, 1) := by decide +kernel
theorem dX12_isTwo_34 : decode cX12_isTwo 34 = .ok (.aload_n 0, 1) := by decide +kernel
theorem dX12_isTwo_35 : decode cX12_isTwo 35 = .ok (.getfield 151, 3) := by decide +kernel
theorem dX12_isTwo_38 : decode cX12_isTwo 38 = .ok (.iconst 1, 1) := by decide +kernel
theorem dX12_isTwo_39 : decode cX12_isTwo 39 = .ok (.iadd, 1) := by decide +kernel
theorem dX12_isTwo_40 : decode cX12_isTwo 40 = .ok (.invokevirtual 154, 3) := by decide +kernel
theorem dX12_isTwo_43 : decode cX12_isTwo 43 = .ok (.iload_n 2, 1) := by decide +kernel
theorem dX12_isTwo_44 : decode cX12_isTwo 44 = .ok (.if_icmp .ne 7, 3) := by decide +kernel
theorem dX12_isTwo_47 : decode cX12_isTwo 47 = .ok (.iconst 1, 1) := by decide +kernel
theorem dX12_isTwo_48 : decode cX12_isTwo 48 = .ok (.goto 4, 3) := by decide +kernel
theorem dX12_isTwo_51 : decode cX12_isTwo 51 = .ok (.iconst 0, 1) := by decide +kernel
theorem dX12_isTwo_52 : decode cX12_isTwo 52 = .ok (.ireturn, 1) := by decide +kernel
theorem dX12_steps_0 : decode cX12_steps 0 = .ok (.aload_n 0, 1) := by decide +kernel
theorem dX12_steps_1 : decode cX12_steps 1 = .ok (.getfield 169, 3) := by decide +kernel
theorem dX12_steps_4 : decode cX12_steps 4 = .ok (.ifCond .ne 72, 3) := by decide +kernel
theorem dX12_steps_7 : decode cX12_steps 7 = .ok (.aload_n 0, 1) := by decide +kernel
theorem dX12_steps_8 : decode cX12_steps 8 = .ok (.getfield 7, 3) := by decide +kernel
theorem dX12_steps_11 : decode cX12_steps 11 = .ok (.bipush 94, 2) := by decide +kernel
theorem dX12_steps_13 : decode cX12_steps 13 = .ok (.iconst 3, 1) := by decide +kernel
theorem dX12_steps_14 : decode cX12_steps 14 = .ok (.aload_n 0, 1) := by decide +kernel
theorem dX12_steps_15 : decode cX12_steps 15 = .ok (.getfield 7, 3) := by decide +kernel
theorem dX12_steps_18 : decode cX12_steps 18 = .ok (.bipush 7, 2) := by decide +kernel
theorem dX12_steps_20 : decode cX12_steps 20 = .ok (.iaload, 1) := by decide +kernel
theorem dX12_steps_21 : decode cX12_steps 21 = .ok (.imul, 1) := by decide +kernel
theorem dX12_steps_22 : decode cX12_steps 22 = .ok (.iadd, 1) := by decide +kernel
theorem dX12_steps_23 : decode cX12_steps 23 = .ok (.iload_n 1, 1) := by decide +kernel
theorem dX12_steps_24 : decode cX12_steps 24 = .ok (.iastore, 1) := by decide +kernel
theorem dX12_steps_25 : decode cX12_steps 25 = .ok (.aload_n 0, 1) := by decide +kernel
theorem dX12_steps_26 : decode cX12_steps 26 = .ok (.getfield 7, 3) := by decide +kernel
theorem dX12_steps_29 : decode cX12_steps 29 = .ok (.bipush 94, 2) := by decide +kernel
theorem dX12_steps_31 : decode cX12_steps 31 = .ok (.iconst 3, 1) := by decide +kernel
theorem dX12_steps_32 : decode cX12_steps 32 = .ok (.aload_n 0, 1) := by decide +kernel
theorem dX12_steps_33 : decode cX12_steps 33 = .ok (.getfield 7, 3) := by decide +kernel
theorem dX12_steps_36 : decode cX12_steps 36 = .ok (.bipush 7, 2) := by decide +kernel
theorem dX12_steps_38 : decode cX12_steps 38 = .ok (.iaload, 1) := by decide +kernel
theorem dX12_steps_39 : decode cX12_steps 39 = .ok (.imul, 1) := by decide +kernel
theorem dX12_steps_40 : decode cX12_steps 40 = .ok (.iadd, 1) := by decide +kernel
theorem dX12_steps_41 : decode cX12_steps 41 = .ok (.iconst 1, 1) := by decide +kernel
theorem dX12_steps_42 : decode cX12_steps 42 = .ok (.iadd, 1) := by decide +kernel
theorem dX12_steps_43 : decode cX12_steps 43 = .ok (.iload_n 2, 1) := by decide +kernel
theorem dX12_steps_44 : decode cX12_steps 44 = .ok (.iastore, 1) := by decide +kernel
theorem dX12_steps_45 : decode cX12_steps 45 = .ok (.aload_n 0, 1) := by decide +kernel
theorem dX12_steps_46 : decode cX12_steps 46 = .ok (.getfield 7, 3) := by decide +kernel
theorem dX12_steps_49 : decode cX12_steps 49 = .ok (.bipush 94, 2) := by decide +kernel
theorem dX12_steps_51 : decode cX12_steps 51 = .ok (.iconst 3, 1) := by decide +kernel
theorem dX12_steps_52 : decode cX12_steps 52 = .ok (.aload_n 0, 1) := by decide +kernel
theorem dX12_steps_53 : decode cX12_steps 53 = .ok (.getfield 7, 3) := by decide +kernel
theorem dX12_steps_56 : decode cX12_steps 56 = .ok (.bipush 7, 2) := by decide +kernel
theorem dX12_steps_58 : decode cX12_steps 58 = .ok (.iaload, 1) := by decide +kernel
theorem dX12_steps_59 : decode cX12_steps 59 = .ok (.imul, 1) := by decide +kernel
theorem dX12_steps_60 : decode cX12_steps 60 = .ok (.iadd, 1) := by decide +kernel
theorem dX12_steps_61 : decode cX12_steps 61 = .ok (.iconst 2, 1) := by decide +kernel
theorem dX12_steps_62 : decode cX12_steps 62 = .ok (.iadd, 1) := by decide +kernel
theorem dX12_steps_63 : decode cX12_steps 63 = .ok (.iload_n 3, 1) := by decide +kernel
theorem dX12_steps_64 : decode cX12_steps 64 = .ok (.iastore, 1) := by decide +kernel
theorem dX12_steps_65 : decode cX12_steps 65 = .ok (.aload_n 0, 1) := by decide +kernel
theorem dX12_steps_66 : decode cX12_steps 66 = .ok (.getfield 7, 3) := by decide +kernel
theorem dX12_steps_69 : decode cX12_steps 69 = .ok (.bipush 7, 2) := by decide +kernel
theorem dX12_steps_71 : decode cX12_steps 71 = .ok (.dup2, 1) := by decide +kernel
theorem dX12_steps_72 : decode cX12_steps 72 = .ok (.iaload, 1) := by decide +kernel
theorem dX12_steps_73 : decode cX12_steps 73 = .ok (.iconst 1, 1) := by decide +kernel
theorem dX12_steps_74 : decode cX12_steps 74 = .ok (.iadd, 1) := by decide +kernel
theorem dX12_steps_75 : decode cX12_steps 75 = .ok (.iastore, 1) := by decide +kernel
theorem dX12_steps_76 : decode cX12_steps 76 = .ok (.return_, 1) := by decide +kernel
theorem dX12_valueHere_0 : decode cX12_valueHere 0 = .ok (.aload_n 0, 1) := by decide +kernel
theorem dX12_valueHere_1 : decode cX12_valueHere 1 = .ok (.invokevirtual 184, 3) := by decide +kernel
theorem dX12_valueHere_4 : decode cX12_valueHere 4 = .ok (.istore_n 1, 1) := by decide +kernel
theorem dX12_valueHere_5 : decode cX12_valueHere 5 = .ok (.iload_n 1, 1) := by decide +kernel
theorem dX12_valueHere_6 : decode cX12_valueHere 6 = .ok (.ifCond .lt 11, 3) := by decide +kernel
theorem dX12_valueHere_9 : decode cX12_valueHere 9 = .ok (.sipush 10000, 3) := by decide +kernel
theorem dX12_valueHere_12 : decode cX12_valueHere 12 = .ok (.iload_n 1, 1) := by decide +kernel
theorem dX12_valueHere_13 : decode cX12_valueHere 13 = .ok (.iadd, 1) := by decide +kernel
theorem dX12_valueHere_14 : decode cX12_valueHere 14 = .ok (.goto 7, 3) := by decide +kernel
theorem dX12_valueHere_17 : decode cX12_valueHere 17 = .ok (.aload_n 0, 1) := by decide +kernel
theorem dX12_valueHere_18 : decode cX12_valueHere 18 = .ok (.getfield 166, 3) := by decide +kernel
theorem dX12_valueHere_21 : decode cX12_valueHere 21 = .ok (.istore_n 2, 1) := by decide +kernel
theorem dX12_valueHere_22 : decode cX12_valueHere 22 = .ok (.aload_n 0, 1) := by decide +kernel
theorem dX12_valueHere_23 : decode cX12_valueHere 23 = .ok (.iload_n 1, 1) := by decide +kernel
theorem dX12_valueHere_24 : decode cX12_valueHere 24 = .ok (.ifCond .ge 24, 3) := by decide +kernel
theorem dX12_valueHere_27 : decode cX12_valueHere 27 = .ok (.aload_n 0, 1) := by decide +kernel
theorem dX12_valueHere_28 : decode cX12_valueHere 28 = .ok (.getfield 163, 3) := by decide +kernel
theorem dX12_valueHere_31 : decode cX12_valueHere 31 = .ok (.iconst 2, 1) := by decide +kernel
theorem dX12_valueHere_32 : decode cX12_valueHere 32 = .ok (.if_icmp .ne 20, 3) := by decide +kernel
theorem dX12_valueHere_35 : decode cX12_valueHere 35 = .ok (.aload_n 0, 1) := by decide +kernel
theorem dX12_valueHere_36 : decode cX12_valueHere 36 = .ok (.getfield 148, 3) := by decide +kernel
theorem dX12_valueHere_39 : decode cX12_valueHere 39 = .ok (.aload_n 0, 1) := by decide +kernel
theorem dX12_valueHere_40 : decode cX12_valueHere 40 = .ok (.getfield 151, 3) := by decide +kernel
theorem dX12_valueHere_43 : decode cX12_valueHere 43 = .ok (.isub, 1) := by decide +kernel
theorem dX12_valueHere_44 : decode cX12_valueHere 44 = .ok (.iconst 4, 1) := by decide +kernel
theorem dX12_valueHere_45 : decode cX12_valueHere 45 = .ok (.if_icmp .gt 7, 3) := by decide +kernel
theorem dX12_valueHere_48 : decode cX12_valueHere 48 = .ok (.iconst 1, 1) := by decide +kernel
theorem dX12_valueHere_49 : decode cX12_valueHere 49 = .ok (.goto 4, 3) := by decide +kernel
theorem dX12_valueHere_52 : decode cX12_valueHere 52 = .ok (.iconst 0, 1) := by decide +kernel
theorem dX12_valueHere_53 : decode cX12_valueHere 53 = .ok (.invokevirtual 187, 3) := by decide +kernel
theorem dX12_valueHere_56 : decode cX12_valueHere 56 = .ok (.iload_n 2, 1) := by decide +kernel
theorem dX12_valueHere_57 : decode cX12_valueHere 57 = .ok (.ireturn, 1) := by decide +kernel
theorem dX12_comparesHere_0 : decode cX12_comparesHere 0 = .ok (.aload_n 0, 1) := by decide +kernel
theorem dX12_comparesHere_1 : decode cX12_comparesHere 1 = .ok (.invokevirtual 191, 3) := by decide +kernel
theorem dX12_comparesHere_4 : decode cX12_comparesHere 4 = .ok (.istore_n 1, 1) := by decide +kernel
theorem dX12_comparesHere_5 : decode cX12_comparesHere 5 = .ok (.aload_n 0, 1) := by decide +kernel
theorem dX12_comparesHere_6 : decode cX12_comparesHere 6 = .ok (.bipush 60, 2) := by decide +kernel
theorem dX12_comparesHere_8 : decode cX12_comparesHere 8 = .ok (.invokevirtual 194, 3) := by decide +kernel
theorem dX12_comparesHere_11 : decode cX12_comparesHere 11 = .ok (.ifCond .eq 7, 3) := by decide +kernel
theorem dX12_comparesHere_14 : decode cX12_comparesHere 14 = .ok (.iconst 0, 1) := by decide +kernel
theorem dX12_comparesHere_15 : decode cX12_comparesHere 15 = .ok (.goto 17, 3) := by decide +kernel
theorem dX12_comparesHere_18 : decode cX12_comparesHere 18 = .ok (.aload_n 0, 1) := by decide +kernel
theorem dX12_comparesHere_19 : decode cX12_comparesHere 19 = .ok (.bipush 61, 2) := by decide +kernel
theorem dX12_comparesHere_21 : decode cX12_comparesHere 21 = .ok (.invokevirtual 194, 3) := by decide +kernel
theorem dX12_comparesHere_24 : decode cX12_comparesHere 24 = .ok (.ifCond .eq 7, 3) := by decide +kernel
theorem dX12_comparesHere_27 : decode cX12_comparesHere 27 = .ok (.iconst 1, 1) := by decide +kernel
theorem dX12_comparesHere_28 : decode cX12_comparesHere 28 = .ok (.goto 4, 3) := by decide +kernel
theorem dX12_comparesHere_31 : decode cX12_comparesHere 31 = .ok (.iconst 2, 1) := by decide +kernel
theorem dX12_comparesHere_32 : decode cX12_comparesHere 32 = .ok (.istore_n 2, 1) := by decide +kernel
theorem dX12_comparesHere_33 : decode cX12_comparesHere 33 = .ok (.aload_n 0, 1) := by decide +kernel
theorem dX12_comparesHere_34 : decode cX12_comparesHere 34 = .ok (.aload_n 0, 1) := by decide +kernel
theorem dX12_comparesHere_35 : decode cX12_comparesHere 35 = .ok (.bipush 60, 2) := by decide +kernel
theorem dX12_comparesHere_37 : decode cX12_comparesHere 37 = .ok (.invokevirtual 194, 3) := by decide +kernel
theorem dX12_comparesHere_40 : decode cX12_comparesHere 40 = .ok (.ifCond .ne 21, 3) := by decide +kernel
theorem dX12_comparesHere_43 : decode cX12_comparesHere 43 = .ok (.aload_n 0, 1) := by decide +kernel
theorem dX12_comparesHere_44 : decode cX12_comparesHere 44 = .ok (.bipush 61, 2) := by decide +kernel
theorem dX12_comparesHere_46 : decode cX12_comparesHere 46 = .ok (.invokevirtual 194, 3) := by decide +kernel
theorem dX12_comparesHere_49 : decode cX12_comparesHere 49 = .ok (.ifCond .ne 12, 3) := by decide +kernel
theorem dX12_comparesHere_52 : decode cX12_comparesHere 52 = .ok (.aload_n 0, 1) := by decide +kernel
theorem dX12_comparesHere_53 : decode cX12_comparesHere 53 = .ok (.bipush 62, 2) := by decide +kernel
theorem dX12_comparesHere_55 : decode cX12_comparesHere 55 = .ok (.invokevirtual 194, 3) := by decide +kernel
theorem dX12_comparesHere_58 : decode cX12_comparesHere 58 = .ok (.ifCond .eq 7, 3) := by decide +kernel
theorem dX12_comparesHere_61 : decode cX12_comparesHere 61 = .ok (.iconst 1, 1) := by decide +kernel
theorem dX12_comparesHere_62 : decode cX12_comparesHere 62 = .ok (.goto 4, 3) := by decide +kernel
theorem dX12_comparesHere_65 : decode cX12_comparesHere 65 = .ok (.iconst 0, 1) := by decide +kernel
theorem dX12_comparesHere_66 : decode cX12_comparesHere 66 = .ok (.invokevirtual 187, 3) := by decide +kernel
theorem dX12_comparesHere_69 : decode cX12_comparesHere 69 = .ok (.aload_n 0, 1) := by decide +kernel
theorem dX12_comparesHere_70 : decode cX12_comparesHere 70 = .ok (.invokevirtual 191, 3) := by decide +kernel
theorem dX12_comparesHere_73 : decode cX12_comparesHere 73 = .ok (.istore_n 3, 1) := by decide +kernel
theorem dX12_comparesHere_74 : decode cX12_comparesHere 74 = .ok (.aload_n 0, 1) := by decide +kernel
theorem dX12_comparesHere_75 : decode cX12_comparesHere 75 = .ok (.iload_n 2, 1) := by decide +kernel
theorem dX12_comparesHere_76 : decode cX12_comparesHere 76 = .ok (.iload_n 1, 1) := by decide +kernel
theorem dX12_comparesHere_77 : decode cX12_comparesHere 77 = .ok (.iload_n 3, 1) := by decide +kernel
theorem dX12_comparesHere_78 : decode cX12_comparesHere 78 = .ok (.invokevirtual 197, 3) := by decide +kernel
theorem dX12_comparesHere_81 : decode cX12_comparesHere 81 = .ok (.return_, 1) := by decide +kernel
theorem dX12_oneHere_0 : decode cX12_oneHere 0 = .ok (.iconst 0, 1) := by decide +kernel
theorem dX12_oneHere_1 : decode cX12_oneHere 1 = .ok (.istore_n 1, 1) := by decide +kernel
theorem dX12_oneHere_2 : decode cX12_oneHere 2 = .ok (.aload_n 0, 1) := by decide +kernel
theorem dX12_oneHere_3 : decode cX12_oneHere 3 = .ok (.getfield 169, 3) := by decide +kernel
theorem dX12_oneHere_6 : decode cX12_oneHere 6 = .ok (.ifCond .ne 29, 3) := by decide +kernel
theorem dX12_oneHere_9 : decode cX12_oneHere 9 = .ok (.aload_n 0, 1) := by decide +kernel
theorem dX12_oneHere_10 : decode cX12_oneHere 10 = .ok (.iconst 3, 1) := by decide +kernel
theorem dX12_oneHere_11 : decode cX12_oneHere 11 = .ok (.bipush 110, 2) := by decide +kernel
theorem dX12_oneHere_13 : decode cX12_oneHere 13 = .ok (.bipush 111, 2) := by decide +kernel
theorem dX12_oneHere_15 : decode cX12_oneHere 15 = .ok (.bipush 116, 2) := by decide +kernel
theorem dX12_oneHere_17 : decode cX12_oneHere 17 = .ok (.bipush 116, 2) := by decide +kernel
theorem dX12_oneHere_19 : decode cX12_oneHere 19 = .ok (.invokevirtual 176, 3) := by decide +kernel
theorem dX12_oneHere_22 : decode cX12_oneHere 22 = .ok (.ifCond .eq 13, 3) := by decide +kernel
theorem dX12_oneHere_25 : decode cX12_oneHere 25 = .ok (.iinc 1 1, 3) := by decide +kernel
theorem dX12_oneHere_28 : decode cX12_oneHere 28 = .ok (.aload_n 0, 1) := by decide +kernel
theorem dX12_oneHere_29 : decode cX12_oneHere 29 = .ok (.invokevirtual 173, 3) := by decide +kernel
theorem dX12_oneHere_32 : decode cX12_oneHere 32 = .ok (.goto (-30), 3) := by decide +kernel
theorem dX12_oneHere_35 : decode cX12_oneHere 35 = .ok (.aload_n 0, 1) := by decide +kernel
theorem dX12_oneHere_36 : decode cX12_oneHere 36 = .ok (.getfield 169, 3) := by decide +kernel
theorem dX12_oneHere_39 : decode cX12_oneHere 39 = .ok (.ifCond .ne 66, 3) := by decide +kernel
theorem dX12_oneHere_42 : decode cX12_oneHere 42 = .ok (.aload_n 0, 1) := by decide +kernel
theorem dX12_oneHere_43 : decode cX12_oneHere 43 = .ok (.bipush 40, 2) := by decide +kernel
theorem dX12_oneHere_45 : decode cX12_oneHere 45 = .ok (.invokevirtual 194, 3) := by decide +kernel
theorem dX12_oneHere_48 : decode cX12_oneHere 48 = .ok (.ifCond .eq 57, 3) := by decide +kernel
theorem dX12_oneHere_51 : decode cX12_oneHere 51 = .ok (.aload_n 0, 1) := by decide +kernel
theorem dX12_oneHere_52 : decode cX12_oneHere 52 = .ok (.aload_n 0, 1) := by decide +kernel
theorem dX12_oneHere_53 : decode cX12_oneHere 53 = .ok (.getfield 201, 3) := by decide +kernel
theorem dX12_oneHere_56 : decode cX12_oneHere 56 = .ok (.iconst 3, 1) := by decide +kernel
theorem dX12_oneHere_57 : decode cX12_oneHere 57 = .ok (.if_icmp .ge 7, 3) := by decide +kernel
theorem dX12_oneHere_60 : decode cX12_oneHere 60 = .ok (.iconst 1, 1) := by decide +kernel
theorem dX12_oneHere_61 : decode cX12_oneHere 61 = .ok (.goto 4, 3) := by decide +kernel
theorem dX12_oneHere_64 : decode cX12_oneHere 64 = .ok (.iconst 0, 1) := by decide +kernel
theorem dX12_oneHere_65 : decode cX12_oneHere 65 = .ok (.invokevirtual 187, 3) := by decide +kernel
theorem dX12_oneHere_68 : decode cX12_oneHere 68 = .ok (.aload_n 0, 1) := by decide +kernel
theorem dX12_oneHere_69 : decode cX12_oneHere 69 = .ok (.dup, 1) := by decide +kernel
theorem dX12_oneHere_70 : decode cX12_oneHere 70 = .ok (.getfield 201, 3) := by decide +kernel
theorem dX12_oneHere_73 : decode cX12_oneHere 73 = .ok (.iconst 1, 1) := by decide +kernel
theorem dX12_oneHere_74 : decode cX12_oneHere 74 = .ok (.iadd, 1) := by decide +kernel
theorem dX12_oneHere_75 : decode cX12_oneHere 75 = .ok (.putfield 201, 3) := by decide +kernel
theorem dX12_oneHere_78 : decode cX12_oneHere 78 = .ok (.aload_n 0, 1) := by decide +kernel
theorem dX12_oneHere_79 : decode cX12_oneHere 79 = .ok (.invokevirtual 204, 3) := by decide +kernel
theorem dX12_oneHere_82 : decode cX12_oneHere 82 = .ok (.aload_n 0, 1) := by decide +kernel
theorem dX12_oneHere_83 : decode cX12_oneHere 83 = .ok (.aload_n 0, 1) := by decide +kernel
theorem dX12_oneHere_84 : decode cX12_oneHere 84 = .ok (.bipush 41, 2) := by decide +kernel
theorem dX12_oneHere_86 : decode cX12_oneHere 86 = .ok (.invokevirtual 194, 3) := by decide +kernel
theorem dX12_oneHere_89 : decode cX12_oneHere 89 = .ok (.invokevirtual 187, 3) := by decide +kernel
theorem dX12_oneHere_92 : decode cX12_oneHere 92 = .ok (.aload_n 0, 1) := by decide +kernel
theorem dX12_oneHere_93 : decode cX12_oneHere 93 = .ok (.dup, 1) := by decide +kernel
theorem dX12_oneHere_94 : decode cX12_oneHere 94 = .ok (.getfield 201, 3) := by decide +kernel
theorem dX12_oneHere_97 : decode cX12_oneHere 97 = .ok (.iconst 1, 1) := by decide +kernel
theorem dX12_oneHere_98 : decode cX12_oneHere 98 = .ok (.isub, 1) := by decide +kernel
theorem dX12_oneHere_99 : decode cX12_oneHere 99 = .ok (.putfield 201, 3) := by decide +kernel
theorem dX12_oneHere_102 : decode cX12_oneHere 102 = .ok (.goto 14, 3) := by decide +kernel
theorem dX12_oneHere_105 : decode cX12_oneHere 105 = .ok (.aload_n 0, 1) := by decide +kernel
theorem dX12_oneHere_106 : decode cX12_oneHere 106 = .ok (.getfield 169, 3) := by decide +kernel
theorem dX12_oneHere_109 : decode cX12_oneHere 109 = .ok (.ifCond .ne 7, 3) := by decide +kernel
theorem dX12_oneHere_112 : decode cX12_oneHere 112 = .ok (.aload_n 0, 1) := by decide +kernel
theorem dX12_oneHere_113 : decode cX12_oneHere 113 = .ok (.invokevirtual 207, 3) := by decide +kernel
theorem dX12_oneHere_116 : decode cX12_oneHere 116 = .ok (.iload_n 1, 1) := by decide +kernel
theorem dX12_oneHere_117 : decode cX12_oneHere 117 = .ok (.iconst 2, 1) := by decide +kernel
theorem dX12_oneHere_118 : decode cX12_oneHere 118 = .ok (.irem, 1) := by decide +kernel
theorem dX12_oneHere_119 : decode cX12_oneHere 119 = .ok (.iconst 1, 1) := by decide +kernel
theorem dX12_oneHere_120 : decode cX12_oneHere 120 = .ok (.if_icmp .ne 10, 3) := by decide +kernel
theorem dX12_oneHere_123 : decode cX12_oneHere 123 = .ok (.aload_n 0, 1) := by decide +kernel
theorem dX12_oneHere_124 : decode cX12_oneHere 124 = .ok (.iconst 3, 1) := by decide +kernel
theorem dX12_oneHere_125 : decode cX12_oneHere 125 = .ok (.iconst 0, 1) := by decide +kernel
theorem dX12_oneHere_126 : decode cX12_oneHere 126 = .ok (.iconst 0, 1) := by decide +kernel
theorem dX12_oneHere_127 : decode cX12_oneHere 127 = .ok (.invokevirtual 197, 3) := by decide +kernel
theorem dX12_oneHere_130 : decode cX12_oneHere 130 = .ok (.return_, 1) := by decide +kernel
theorem dX12_allHere_0 : decode cX12_allHere 0 = .ok (.aload_n 0, 1) := by decide +kernel
theorem dX12_allHere_1 : decode cX12_allHere 1 = .ok (.invokevirtual 210, 3) := by decide +kernel
theorem dX12_allHere_4 : decode cX12_allHere 4 = .ok (.aload_n 0, 1) := by decide +kernel
theorem dX12_allHere_5 : decode cX12_allHere 5 = .ok (.getfield 169, 3) := by decide +kernel
theorem dX12_allHere_8 : decode cX12_allHere 8 = .ok (.ifCond .ne 37, 3) := by decide +kernel
theorem dX12_allHere_11 : decode cX12_allHere 11 = .ok (.aload_n 0, 1) := by decide +kernel
theorem dX12_allHere_12 : decode cX12_allHere 12 = .ok (.iconst 3, 1) := by decide +kernel
theorem dX12_allHere_13 : decode cX12_allHere 13 = .ok (.bipush 97, 2) := by decide +kernel
theorem dX12_allHere_15 : decode cX12_allHere 15 = .ok (.bipush 110, 2) := by decide +kernel
theorem dX12_allHere_17 : decode cX12_allHere 17 = .ok (.bipush 100, 2) := by decide +kernel
theorem dX12_allHere_19 : decode cX12_allHere 19 = .ok (.bipush 100, 2) := by decide +kernel
theorem dX12_allHere_21 : decode cX12_allHere 21 = .ok (.invokevirtual 176, 3) := by decide +kernel
theorem dX12_allHere_24 : decode cX12_allHere 24 = .ok (.ifCond .eq 21, 3) := by decide +kernel
theorem dX12_allHere_27 : decode cX12_allHere 27 = .ok (.aload_n 0, 1) := by decide +kernel
theorem dX12_allHere_28 : decode cX12_allHere 28 = .ok (.invokevirtual 173, 3) := by decide +kernel
theorem dX12_allHere_31 : decode cX12_allHere 31 = .ok (.aload_n 0, 1) := by decide +kernel
theorem dX12_allHere_32 : decode cX12_allHere 32 = .ok (.invokevirtual 210, 3) := by decide +kernel
theorem dX12_allHere_35 : decode cX12_allHere 35 = .ok (.aload_n 0, 1) := by decide +kernel
theorem dX12_allHere_36 : decode cX12_allHere 36 = .ok (.iconst 4, 1) := by decide +kernel
theorem dX12_allHere_37 : decode cX12_allHere 37 = .ok (.iconst 0, 1) := by decide +kernel
theorem dX12_allHere_38 : decode cX12_allHere 38 = .ok (.iconst 0, 1) := by decide +kernel
theorem dX12_allHere_39 : decode cX12_allHere 39 = .ok (.invokevirtual 197, 3) := by decide +kernel
theorem dX12_allHere_42 : decode cX12_allHere 42 = .ok (.goto (-38), 3) := by decide +kernel
theorem dX12_allHere_45 : decode cX12_allHere 45 = .ok (.return_, 1) := by decide +kernel
theorem dX12_condHere_0 : decode cX12_condHere 0 = .ok (.aload_n 0, 1) := by decide +kernel
theorem dX12_condHere_1 : decode cX12_condHere 1 = .ok (.invokevirtual 213, 3) := by decide +kernel
theorem dX12_condHere_4 : decode cX12_condHere 4 = .ok (.aload_n 0, 1) := by decide +kernel
theorem dX12_condHere_5 : decode cX12_condHere 5 = .ok (.getfield 169, 3) := by decide +kernel
theorem dX12_condHere_8 : decode cX12_condHere 8 = .ok (.ifCond .ne 32, 3) := by decide +kernel
theorem dX12_condHere_11 : decode cX12_condHere 11 = .ok (.aload_n 0, 1) := by decide +kernel
theorem dX12_condHere_12 : decode cX12_condHere 12 = .ok (.bipush 111, 2) := by decide +kernel
theorem dX12_condHere_14 : decode cX12_condHere 14 = .ok (.bipush 114, 2) := by decide +kernel
theorem dX12_condHere_16 : decode cX12_condHere 16 = .ok (.invokevirtual 216, 3) := by decide +kernel
theorem dX12_condHere_19 : decode cX12_condHere 19 = .ok (.ifCond .eq 21, 3) := by decide +kernel
theorem dX12_condHere_22 : decode cX12_condHere 22 = .ok (.aload_n 0, 1) := by decide +kernel
theorem dX12_condHere_23 : decode cX12_condHere 23 = .ok (.invokevirtual 173, 3) := by decide +kernel
theorem dX12_condHere_26 : decode cX12_condHere 26 = .ok (.aload_n 0, 1) := by decide +kernel
theorem dX12_condHere_27 : decode cX12_condHere 27 = .ok (.invokevirtual 213, 3) := by decide +kernel
theorem dX12_condHere_30 : decode cX12_condHere 30 = .ok (.aload_n 0, 1) := by decide +kernel
theorem dX12_condHere_31 : decode cX12_condHere 31 = .ok (.iconst 5, 1) := by decide +kernel
theorem dX12_condHere_32 : decode cX12_condHere 32 = .ok (.iconst 0, 1) := by decide +kernel
theorem dX12_condHere_33 : decode cX12_condHere 33 = .ok (.iconst 0, 1) := by decide +kernel
theorem dX12_condHere_34 : decode cX12_condHere 34 = .ok (.invokevirtual 197, 3) := by decide +kernel
theorem dX12_condHere_37 : decode cX12_condHere 37 = .ok (.goto (-33), 3) := by decide +kernel
theorem dX12_condHere_40 : decode cX12_condHere 40 = .ok (.return_, 1) := by decide +kernel
theorem dX12_ruleHere_0 : decode cX12_ruleHere 0 = .ok (.bipush 38, 2) := by decide +kernel
theorem dX12_ruleHere_2 : decode cX12_ruleHere 2 = .ok (.iconst 4, 1) := by decide +kernel
theorem dX12_ruleHere_3 : decode cX12_ruleHere 3 = .ok (.aload_n 0, 1) := by decide +kernel
theorem dX12_ruleHere_4 : decode cX12_ruleHere 4 = .ok (.getfield 7, 3) := by decide +kernel
theorem dX12_ruleHere_7 : decode cX12_ruleHere 7 = .ok (.iconst 5, 1) := by decide +kernel
theorem dX12_ruleHere_8 : decode cX12_ruleHere 8 = .ok (.iaload, 1) := by decide +kernel
theorem dX12_ruleHere_9 : decode cX12_ruleHere 9 = .ok (.imul, 1) := by decide +kernel
theorem dX12_ruleHere_10 : decode cX12_ruleHere 10 = .ok (.iadd, 1) := by decide +kernel
theorem dX12_ruleHere_11 : decode cX12_ruleHere 11 = .ok (.istore_n 1, 1) := by decide +kernel
theorem dX12_ruleHere_12 : decode cX12_ruleHere 12 = .ok (.aload_n 0, 1) := by decide +kernel
theorem dX12_ruleHere_13 : decode cX12_ruleHere 13 = .ok (.invokevirtual 219, 3) := by decide +kernel
theorem dX12_ruleHere_16 : decode cX12_ruleHere 16 = .ok (.istore_n 2, 1) := by decide +kernel
theorem dX12_ruleHere_17 : decode cX12_ruleHere 17 = .ok (.aload_n 0, 1) := by decide +kernel
theorem dX12_ruleHere_18 : decode cX12_ruleHere 18 = .ok (.iload_n 2, 1) := by decide +kernel
theorem dX12_ruleHere_19 : decode cX12_ruleHere 19 = .ok (.ifCond .lt 18, 3) := by decide +kernel
theorem dX12_ruleHere_22 : decode cX12_ruleHere 22 = .ok (.aload_n 0, 1) := by decide +kernel
theorem dX12_ruleHere_23 : decode cX12_ruleHere 23 = .ok (.getfield 7, 3) := by decide +kernel
theorem dX12_ruleHere_26 : decode cX12_ruleHere 26 = .ok (.iconst 5, 1) := by decide +kernel
theorem dX12_ruleHere_27 : decode cX12_ruleHere 27 = .ok (.iaload, 1) := by decide +kernel
theorem dX12_ruleHere_28 : decode cX12_ruleHere 28 = .ok (.bipush 8, 2) := by decide +kernel
theorem dX12_ruleHere_30 : decode cX12_ruleHere 30 = .ok (.if_icmp .ge 7, 3) := by decide +kernel
theorem dX12_ruleHere_33 : decode cX12_ruleHere 33 = .ok (.iconst 1, 1) := by decide +kernel
theorem dX12_ruleHere_34 : decode cX12_ruleHere 34 = .ok (.goto 4, 3) := by decide +kernel
theorem dX12_ruleHere_37 : decode cX12_ruleHere 37 = .ok (.iconst 0, 1) := by decide +kernel
theorem dX12_ruleHere_38 : decode cX12_ruleHere 38 = .ok (.invokevirtual 187, 3) := by decide +kernel
theorem dX12_ruleHere_41 : decode cX12_ruleHere 41 = .ok (.aload_n 0, 1) := by decide +kernel
theorem dX12_ruleHere_42 : decode cX12_ruleHere 42 = .ok (.getfield 7, 3) := by decide +kernel
theorem dX12_ruleHere_45 : decode cX12_ruleHere 45 = .ok (.bipush 7, 2) := by decide +kernel
theorem dX12_ruleHere_47 : decode cX12_ruleHere 47 = .ok (.iaload, 1) := by decide +kernel
theorem dX12_ruleHere_48 : decode cX12_ruleHere 48 = .ok (.istore_n 3, 1) := by decide +kernel
theorem dX12_ruleHere_49 : decode cX12_ruleHere 49 = .ok (.aload_n 0, 1) := by decide +kernel
theorem dX12_ruleHere_50 : decode cX12_ruleHere 50 = .ok (.getfield 169, 3) := by decide +kernel
theorem dX12_ruleHere_53 : decode cX12_ruleHere 53 = .ok (.ifCond .ne 27, 3) := by decide +kernel
theorem dX12_ruleHere_56 : decode cX12_ruleHere 56 = .ok (.aload_n 0, 1) := by decide +kernel
theorem dX12_ruleHere_57 : decode cX12_ruleHere 57 = .ok (.bipush 105, 2) := by decide +kernel
theorem dX12_ruleHere_59 : decode cX12_ruleHere 59 = .ok (.bipush 102, 2) := by decide +kernel
theorem dX12_ruleHere_61 : decode cX12_ruleHere 61 = .ok (.invokevirtual 216, 3) := by decide +kernel
theorem dX12_ruleHere_64 : decode cX12_ruleHere 64 = .ok (.ifCond .eq 16, 3) := by decide +kernel
theorem dX12_ruleHere_67 : decode cX12_ruleHere 67 = .ok (.aload_n 0, 1) := by decide +kernel
theorem dX12_ruleHere_68 : decode cX12_ruleHere 68 = .ok (.invokevirtual 173, 3) := by decide +kernel
theorem dX12_ruleHere_71 : decode cX12_ruleHere 71 = .ok (.aload_n 0, 1) := by decide +kernel
theorem dX12_ruleHere_72 : decode cX12_ruleHere 72 = .ok (.iconst 0, 1) := by decide +kernel
theorem dX12_ruleHere_73 : decode cX12_ruleHere 73 = .ok (.putfield 201, 3) := by decide +kernel
theorem dX12_ruleHere_76 : decode cX12_ruleHere 76 = .ok (.aload_n 0, 1) := by decide +kernel
theorem dX12_ruleHere_77 : decode cX12_ruleHere 77 = .ok (.invokevirtual 204, 3) := by decide +kernel
theorem dX12_ruleHere_80 : decode cX12_ruleHere 80 = .ok (.aload_n 0, 1) := by decide +kernel
theorem dX12_ruleHere_81 : decode cX12_ruleHere 81 = .ok (.invokevirtual 222, 3) := by decide +kernel
theorem dX12_ruleHere_84 : decode cX12_ruleHere 84 = .ok (.istore 4, 2) := by decide +kernel
theorem dX12_ruleHere_86 : decode cX12_ruleHere 86 = .ok (.aload_n 0, 1) := by decide +kernel
theorem dX12_ruleHere_87 : decode cX12_ruleHere 87 = .ok (.iload 4, 2) := by decide +kernel
theorem dX12_ruleHere_89 : decode cX12_ruleHere 89 = .ok (.ifCond .lt 7, 3) := by decide +kernel
theorem dX12_ruleHere_92 : decode cX12_ruleHere 92 = .ok (.iconst 1, 1) := by decide +kernel
theorem dX12_ruleHere_93 : decode cX12_ruleHere 93 = .ok (.goto 4, 3) := by decide +kernel
theorem dX12_ruleHere_96 : decode cX12_ruleHere 96 = .ok (.iconst 0, 1) := by decide +kernel
theorem dX12_ruleHere_97 : decode cX12_ruleHere 97 = .ok (.invokevirtual 187, 3) := by decide +kernel
theorem dX12_ruleHere_100 : decode cX12_ruleHere 100 = .ok (.aload_n 0, 1) := by decide +kernel
theorem dX12_ruleHere_101 : decode cX12_ruleHere 101 = .ok (.aload_n 0, 1) := by decide +kernel
theorem dX12_ruleHere_102 : decode cX12_ruleHere 102 = .ok (.bipush 59, 2) := by decide +kernel
theorem dX12_ruleHere_104 : decode cX12_ruleHere 104 = .ok (.invokevirtual 194, 3) := by decide +kernel
theorem dX12_ruleHere_107 : decode cX12_ruleHere 107 = .ok (.invokevirtual 187, 3) := by decide +kernel
theorem dX12_ruleHere_110 : decode cX12_ruleHere 110 = .ok (.aload_n 0, 1) := by decide +kernel
theorem dX12_ruleHere_111 : decode cX12_ruleHere 111 = .ok (.getfield 169, 3) := by decide +kernel
theorem dX12_ruleHere_114 : decode cX12_ruleHere 114 = .ok (.ifCond .ne 54, 3) := by decide +kernel
theorem dX12_ruleHere_117 : decode cX12_ruleHere 117 = .ok (.aload_n 0, 1) := by decide +kernel
theorem dX12_ruleHere_118 : decode cX12_ruleHere 118 = .ok (.getfield 7, 3) := by decide +kernel
theorem dX12_ruleHere_121 : decode cX12_ruleHere 121 = .ok (.iload_n 1, 1) := by decide +kernel
theorem dX12_ruleHere_122 : decode cX12_ruleHere 122 = .ok (.iload_n 2, 1) := by decide +kernel
theorem dX12_ruleHere_123 : decode cX12_ruleHere 123 = .ok (.iastore, 1) := by decide +kernel
theorem dX12_ruleHere_124 : decode cX12_ruleHere 124 = .ok (.aload_n 0, 1) := by decide +kernel
theorem dX12_ruleHere_125 : decode cX12_ruleHere 125 = .ok (.getfield 7, 3) := by decide +kernel
theorem dX12_ruleHere_128 : decode cX12_ruleHere 128 = .ok (.iload_n 1, 1) := by decide +kernel
theorem dX12_ruleHere_129 : decode cX12_ruleHere 129 = .ok (.iconst 1, 1) := by decide +kernel
theorem dX12_ruleHere_130 : decode cX12_ruleHere 130 = .ok (.iadd, 1) := by decide +kernel
theorem dX12_ruleHere_131 : decode cX12_ruleHere 131 = .ok (.iload 4, 2) := by decide +kernel
theorem dX12_ruleHere_133 : decode cX12_ruleHere 133 = .ok (.iastore, 1) := by decide +kernel
theorem dX12_ruleHere_134 : decode cX12_ruleHere 134 = .ok (.aload_n 0, 1) := by decide +kernel
theorem dX12_ruleHere_135 : decode cX12_ruleHere 135 = .ok (.getfield 7, 3) := by decide +kernel
theorem dX12_ruleHere_138 : decode cX12_ruleHere 138 = .ok (.iload_n 1, 1) := by decide +kernel
theorem dX12_ruleHere_139 : decode cX12_ruleHere 139 = .ok (.iconst 2, 1) := by decide +kernel
theorem dX12_ruleHere_140 : decode cX12_ruleHere 140 = .ok (.iadd, 1) := by decide +kernel
theorem dX12_ruleHere_141 : decode cX12_ruleHere 141 = .ok (.iload_n 3, 1) := by decide +kernel
theorem dX12_ruleHere_142 : decode cX12_ruleHere 142 = .ok (.iastore, 1) := by decide +kernel
theorem dX12_ruleHere_143 : decode cX12_ruleHere 143 = .ok (.aload_n 0, 1) := by decide +kernel
theorem dX12_ruleHere_144 : decode cX12_ruleHere 144 = .ok (.getfield 7, 3) := by decide +kernel
theorem dX12_ruleHere_147 : decode cX12_ruleHere 147 = .ok (.iload_n 1, 1) := by decide +kernel
theorem dX12_ruleHere_148 : decode cX12_ruleHere 148 = .ok (.iconst 3, 1) := by decide +kernel
theorem dX12_ruleHere_149 : decode cX12_ruleHere 149 = .ok (.iadd, 1) := by decide +kernel
theorem dX12_ruleHere_150 : decode cX12_ruleHere 150 = .ok (.aload_n 0, 1) := by decide +kernel
theorem dX12_ruleHere_151 : decode cX12_ruleHere 151 = .ok (.getfield 7, 3) := by decide +kernel
theorem dX12_ruleHere_154 : decode cX12_ruleHere 154 = .ok (.bipush 7, 2) := by decide +kernel
theorem dX12_ruleHere_156 : decode cX12_ruleHere 156 = .ok (.iaload, 1) := by decide +kernel
theorem dX12_ruleHere_157 : decode cX12_ruleHere 157 = .ok (.iastore, 1) := by decide +kernel
theorem dX12_ruleHere_158 : decode cX12_ruleHere 158 = .ok (.aload_n 0, 1) := by decide +kernel
theorem dX12_ruleHere_159 : decode cX12_ruleHere 159 = .ok (.getfield 7, 3) := by decide +kernel
theorem dX12_ruleHere_162 : decode cX12_ruleHere 162 = .ok (.iconst 5, 1) := by decide +kernel
theorem dX12_ruleHere_163 : decode cX12_ruleHere 163 = .ok (.dup2, 1) := by decide +kernel
theorem dX12_ruleHere_164 : decode cX12_ruleHere 164 = .ok (.iaload, 1) := by decide +kernel
theorem dX12_ruleHere_165 : decode cX12_ruleHere 165 = .ok (.iconst 1, 1) := by decide +kernel
theorem dX12_ruleHere_166 : decode cX12_ruleHere 166 = .ok (.iadd, 1) := by decide +kernel
theorem dX12_ruleHere_167 : decode cX12_ruleHere 167 = .ok (.iastore, 1) := by decide +kernel
theorem dX12_ruleHere_168 : decode cX12_ruleHere 168 = .ok (.return_, 1) := by decide +kernel
theorem dX12_rules_0 : decode cX12_rules 0 = .ok (.iconst 0, 1) := by decide +kernel
theorem dX12_rules_1 : decode cX12_rules 1 = .ok (.istore_n 1, 1) := by decide +kernel
theorem dX12_rules_2 : decode cX12_rules 2 = .ok (.iload_n 1, 1) := by decide +kernel
theorem dX12_rules_3 : decode cX12_rules 3 = .ok (.sipush 544, 3) := by decide +kernel
theorem dX12_rules_6 : decode cX12_rules 6 = .ok (.if_icmp .ge 21, 3) := by decide +kernel
theorem dX12_rules_9 : decode cX12_rules 9 = .ok (.aload_n 0, 1) := by decide +kernel
theorem dX12_rules_10 : decode cX12_rules 10 = .ok (.getfield 25, 3) := by decide +kernel
theorem dX12_rules_13 : decode cX12_rules 13 = .ok (.iload_n 1, 1) := by decide +kernel
theorem dX12_rules_14 : decode cX12_rules 14 = .ok (.aload_n 0, 1) := by decide +kernel
theorem dX12_rules_15 : decode cX12_rules 15 = .ok (.getfield 7, 3) := by decide +kernel
theorem dX12_rules_18 : decode cX12_rules 18 = .ok (.iload_n 1, 1) := by decide +kernel
theorem dX12_rules_19 : decode cX12_rules 19 = .ok (.iaload, 1) := by decide +kernel
theorem dX12_rules_20 : decode cX12_rules 20 = .ok (.iastore, 1) := by decide +kernel
theorem dX12_rules_21 : decode cX12_rules 21 = .ok (.iinc 1 1, 3) := by decide +kernel
theorem dX12_rules_24 : decode cX12_rules 24 = .ok (.goto (-22), 3) := by decide +kernel
theorem dX12_rules_27 : decode cX12_rules 27 = .ok (.aload_n 0, 1) := by decide +kernel
theorem dX12_rules_28 : decode cX12_rules 28 = .ok (.getfield 7, 3) := by decide +kernel
theorem dX12_rules_31 : decode cX12_rules 31 = .ok (.iconst 5, 1) := by decide +kernel
theorem dX12_rules_32 : decode cX12_rules 32 = .ok (.iconst 0, 1) := by decide +kernel
theorem dX12_rules_33 : decode cX12_rules 33 = .ok (.iastore, 1) := by decide +kernel
theorem dX12_rules_34 : decode cX12_rules 34 = .ok (.aload_n 0, 1) := by decide +kernel
theorem dX12_rules_35 : decode cX12_rules 35 = .ok (.getfield 7, 3) := by decide +kernel
theorem dX12_rules_38 : decode cX12_rules 38 = .ok (.bipush 7, 2) := by decide +kernel
theorem dX12_rules_40 : decode cX12_rules 40 = .ok (.iconst 0, 1) := by decide +kernel
theorem dX12_rules_41 : decode cX12_rules 41 = .ok (.iastore, 1) := by decide +kernel
theorem dX12_rules_42 : decode cX12_rules 42 = .ok (.aload_n 0, 1) := by decide +kernel
theorem dX12_rules_43 : decode cX12_rules 43 = .ok (.iconst 0, 1) := by decide +kernel
theorem dX12_rules_44 : decode cX12_rules 44 = .ok (.putfield 148, 3) := by decide +kernel
theorem dX12_rules_47 : decode cX12_rules 47 = .ok (.aload_n 0, 1) := by decide +kernel
theorem dX12_rules_48 : decode cX12_rules 48 = .ok (.iconst 0, 1) := by decide +kernel
theorem dX12_rules_49 : decode cX12_rules 49 = .ok (.putfield 169, 3) := by decide +kernel
theorem dX12_rules_52 : decode cX12_rules 52 = .ok (.aload_n 0, 1) := by decide +kernel
theorem dX12_rules_53 : decode cX12_rules 53 = .ok (.invokevirtual 173, 3) := by decide +kernel
theorem dX12_rules_56 : decode cX12_rules 56 = .ok (.aload_n 0, 1) := by decide +kernel
theorem dX12_rules_57 : decode cX12_rules 57 = .ok (.getfield 169, 3) := by decide +kernel
theorem dX12_rules_60 : decode cX12_rules 60 = .ok (.ifCond .ne 17, 3) := by decide +kernel
theorem dX12_rules_63 : decode cX12_rules 63 = .ok (.aload_n 0, 1) := by decide +kernel
theorem dX12_rules_64 : decode cX12_rules 64 = .ok (.getfield 163, 3) := by decide +kernel
theorem dX12_rules_67 : decode cX12_rules 67 = .ok (.ifCond .eq 10, 3) := by decide +kernel
theorem dX12_rules_70 : decode cX12_rules 70 = .ok (.aload_n 0, 1) := by decide +kernel
theorem dX12_rules_71 : decode cX12_rules 71 = .ok (.invokevirtual 225, 3) := by decide +kernel
theorem dX12_rules_74 : decode cX12_rules 74 = .ok (.goto (-18), 3) := by decide +kernel
theorem dX12_rules_77 : decode cX12_rules 77 = .ok (.aload_n 0, 1) := by decide +kernel
theorem dX12_rules_78 : decode cX12_rules 78 = .ok (.iconst 0, 1) := by decide +kernel
theorem dX12_rules_79 : decode cX12_rules 79 = .ok (.putfield 143, 3) := by decide +kernel
theorem dX12_rules_82 : decode cX12_rules 82 = .ok (.iconst 0, 1) := by decide +kernel
theorem dX12_rules_83 : decode cX12_rules 83 = .ok (.istore_n 1, 1) := by decide +kernel
theorem dX12_rules_84 : decode cX12_rules 84 = .ok (.iload_n 1, 1) := by decide +kernel
theorem dX12_rules_85 : decode cX12_rules 85 = .ok (.sipush 544, 3) := by decide +kernel
theorem dX12_rules_88 : decode cX12_rules 88 = .ok (.if_icmp .ge 28, 3) := by decide +kernel
theorem dX12_rules_91 : decode cX12_rules 91 = .ok (.aload_n 0, 1) := by decide +kernel
theorem dX12_rules_92 : decode cX12_rules 92 = .ok (.getfield 169, 3) := by decide +kernel
theorem dX12_rules_95 : decode cX12_rules 95 = .ok (.ifCond .eq 21, 3) := by decide +kernel
theorem dX12_rules_98 : decode cX12_rules 98 = .ok (.aload_n 0, 1) := by decide +kernel
theorem dX12_rules_99 : decode cX12_rules 99 = .ok (.getfield 7, 3) := by decide +kernel
theorem dX12_rules_102 : decode cX12_rules 102 = .ok (.iload_n 1, 1) := by decide +kernel
theorem dX12_rules_103 : decode cX12_rules 103 = .ok (.aload_n 0, 1) := by decide +kernel
theorem dX12_rules_104 : decode cX12_rules 104 = .ok (.getfield 25, 3) := by decide +kernel
theorem dX12_rules_107 : decode cX12_rules 107 = .ok (.iload_n 1, 1) := by decide +kernel
theorem dX12_rules_108 : decode cX12_rules 108 = .ok (.iaload, 1) := by decide +kernel
theorem dX12_rules_109 : decode cX12_rules 109 = .ok (.iastore, 1) := by decide +kernel
theorem dX12_rules_110 : decode cX12_rules 110 = .ok (.iinc 1 1, 3) := by decide +kernel
theorem dX12_rules_113 : decode cX12_rules 113 = .ok (.goto (-29), 3) := by decide +kernel
theorem dX12_rules_116 : decode cX12_rules 116 = .ok (.aload_n 0, 1) := by decide +kernel
theorem dX12_rules_117 : decode cX12_rules 117 = .ok (.getfield 169, 3) := by decide +kernel
theorem dX12_rules_120 : decode cX12_rules 120 = .ok (.ifCond .eq 13, 3) := by decide +kernel
theorem dX12_rules_123 : decode cX12_rules 123 = .ok (.bipush (-100), 2) := by decide +kernel
theorem dX12_rules_125 : decode cX12_rules 125 = .ok (.aload_n 0, 1) := by decide +kernel
theorem dX12_rules_126 : decode cX12_rules 126 = .ok (.getfield 151, 3) := by decide +kernel
theorem dX12_rules_129 : decode cX12_rules 129 = .ok (.isub, 1) := by decide +kernel
theorem dX12_rules_130 : decode cX12_rules 130 = .ok (.goto 9, 3) := by decide +kernel
theorem dX12_rules_133 : decode cX12_rules 133 = .ok (.aload_n 0, 1) := by decide +kernel
theorem dX12_rules_134 : decode cX12_rules 134 = .ok (.getfield 7, 3) := by decide +kernel
theorem dX12_rules_137 : decode cX12_rules 137 = .ok (.iconst 5, 1) := by decide +kernel
theorem dX12_rules_138 : decode cX12_rules 138 = .ok (.iaload, 1) := by decide +kernel
theorem dX12_rules_139 : decode cX12_rules 139 = .ok (.ireturn, 1) := by decide +kernel
theorem dX12_goesBy_0 : decode cX12_goesBy 0 = .ok (.iconst 0, 1) := by decide +kernel
theorem dX12_goesBy_1 : decode cX12_goesBy 1 = .ok (.istore_n 2, 1) := by decide +kernel
theorem dX12_goesBy_2 : decode cX12_goesBy 2 = .ok (.iload_n 2, 1) := by decide +kernel
theorem dX12_goesBy_3 : decode cX12_goesBy 3 = .ok (.aload_n 0, 1) := by decide +kernel
theorem dX12_goesBy_4 : decode cX12_goesBy 4 = .ok (.getfield 7, 3) := by decide +kernel
theorem dX12_goesBy_7 : decode cX12_goesBy 7 = .ok (.iconst 0, 1) := by decide +kernel
theorem dX12_goesBy_8 : decode cX12_goesBy 8 = .ok (.iaload, 1) := by decide +kernel
theorem dX12_goesBy_9 : decode cX12_goesBy 9 = .ok (.if_icmp .ge 39, 3) := by decide +kernel
theorem dX12_goesBy_12 : decode cX12_goesBy 12 = .ok (.aload_n 0, 1) := by decide +kernel
theorem dX12_goesBy_13 : decode cX12_goesBy 13 = .ok (.getfield 7, 3) := by decide +kernel
theorem dX12_goesBy_16 : decode cX12_goesBy 16 = .ok (.bipush 8, 2) := by decide +kernel
theorem dX12_goesBy_18 : decode cX12_goesBy 18 = .ok (.iconst 5, 1) := by decide +kernel
theorem dX12_goesBy_19 : decode cX12_goesBy 19 = .ok (.iload_n 2, 1) := by decide +kernel
theorem dX12_goesBy_20 : decode cX12_goesBy 20 = .ok (.imul, 1) := by decide +kernel
theorem dX12_goesBy_21 : decode cX12_goesBy 21 = .ok (.iadd, 1) := by decide +kernel
theorem dX12_goesBy_22 : decode cX12_goesBy 22 = .ok (.iconst 4, 1) := by decide +kernel
theorem dX12_goesBy_23 : decode cX12_goesBy 23 = .ok (.iadd, 1) := by decide +kernel
theorem dX12_goesBy_24 : decode cX12_goesBy 24 = .ok (.dup2, 1) := by decide +kernel
theorem dX12_goesBy_25 : decode cX12_goesBy 25 = .ok (.iaload, 1) := by decide +kernel
theorem dX12_goesBy_26 : decode cX12_goesBy 26 = .ok (.aload_n 0, 1) := by decide +kernel
theorem dX12_goesBy_27 : decode cX12_goesBy 27 = .ok (.iload_n 2, 1) := by decide +kernel
theorem dX12_goesBy_28 : decode cX12_goesBy 28 = .ok (.iconst 4, 1) := by decide +kernel
theorem dX12_goesBy_29 : decode cX12_goesBy 29 = .ok (.invokevirtual 78, 3) := by decide +kernel
theorem dX12_goesBy_32 : decode cX12_goesBy 32 = .ok (.ifCond .le 7, 3) := by decide +kernel
theorem dX12_goesBy_35 : decode cX12_goesBy 35 = .ok (.iconst 1, 1) := by decide +kernel
theorem dX12_goesBy_36 : decode cX12_goesBy 36 = .ok (.goto 4, 3) := by decide +kernel
theorem dX12_goesBy_39 : decode cX12_goesBy 39 = .ok (.iconst 0, 1) := by decide +kernel
theorem dX12_goesBy_40 : decode cX12_goesBy 40 = .ok (.isub, 1) := by decide +kernel
theorem dX12_goesBy_41 : decode cX12_goesBy 41 = .ok (.iastore, 1) := by decide +kernel
theorem dX12_goesBy_42 : decode cX12_goesBy 42 = .ok (.iinc 2 1, 3) := by decide +kernel
theorem dX12_goesBy_45 : decode cX12_goesBy 45 = .ok (.goto (-43), 3) := by decide +kernel
theorem dX12_goesBy_48 : decode cX12_goesBy 48 = .ok (.aload_n 0, 1) := by decide +kernel
theorem dX12_goesBy_49 : decode cX12_goesBy 49 = .ok (.iload_n 1, 1) := by decide +kernel
theorem dX12_goesBy_50 : decode cX12_goesBy 50 = .ok (.invokevirtual 116, 3) := by decide +kernel
theorem dX12_goesBy_53 : decode cX12_goesBy 53 = .ok (.aload_n 0, 1) := by decide +kernel
theorem dX12_goesBy_54 : decode cX12_goesBy 54 = .ok (.iconst 0, 1) := by decide +kernel
theorem dX12_goesBy_55 : decode cX12_goesBy 55 = .ok (.putfield 228, 3) := by decide +kernel
theorem dX12_goesBy_58 : decode cX12_goesBy 58 = .ok (.iconst 0, 1) := by decide +kernel
theorem dX12_goesBy_59 : decode cX12_goesBy 59 = .ok (.istore_n 2, 1) := by decide +kernel
theorem dX12_goesBy_60 : decode cX12_goesBy 60 = .ok (.iload_n 2, 1) := by decide +kernel
theorem dX12_goesBy_61 : decode cX12_goesBy 61 = .ok (.aload_n 0, 1) := by decide +kernel
theorem dX12_goesBy_62 : decode cX12_goesBy 62 = .ok (.getfield 7, 3) := by decide +kernel
theorem dX12_goesBy_65 : decode cX12_goesBy 65 = .ok (.iconst 0, 1) := by decide +kernel
theorem dX12_goesBy_66 : decode cX12_goesBy 66 = .ok (.iaload, 1) := by decide +kernel
theorem dX12_goesBy_67 : decode cX12_goesBy 67 = .ok (.if_icmp .ge 49, 3) := by decide +kernel
theorem dX12_goesBy_70 : decode cX12_goesBy 70 = .ok (.aload_n 0, 1) := by decide +kernel
theorem dX12_goesBy_71 : decode cX12_goesBy 71 = .ok (.iload_n 2, 1) := by decide +kernel
theorem dX12_goesBy_72 : decode cX12_goesBy 72 = .ok (.invokevirtual 123, 3) := by decide +kernel
theorem dX12_goesBy_75 : decode cX12_goesBy 75 = .ok (.istore_n 3, 1) := by decide +kernel
theorem dX12_goesBy_76 : decode cX12_goesBy 76 = .ok (.aload_n 0, 1) := by decide +kernel
theorem dX12_goesBy_77 : decode cX12_goesBy 77 = .ok (.dup, 1) := by decide +kernel
theorem dX12_goesBy_78 : decode cX12_goesBy 78 = .ok (.getfield 228, 3) := by decide +kernel
theorem dX12_goesBy_81 : decode cX12_goesBy 81 = .ok (.iload_n 3, 1) := by decide +kernel
theorem dX12_goesBy_82 : decode cX12_goesBy 82 = .ok (.iload_n 2, 1) := by decide +kernel
theorem dX12_goesBy_83 : decode cX12_goesBy 83 = .ok (.if_icmp .ge 22, 3) := by decide +kernel
theorem dX12_goesBy_86 : decode cX12_goesBy 86 = .ok (.aload_n 0, 1) := by decide +kernel
theorem dX12_goesBy_87 : decode cX12_goesBy 87 = .ok (.iload_n 3, 1) := by decide +kernel
theorem dX12_goesBy_88 : decode cX12_goesBy 88 = .ok (.invokevirtual 123, 3) := by decide +kernel
theorem dX12_goesBy_91 : decode cX12_goesBy 91 = .ok (.iload_n 2, 1) := by decide +kernel
theorem dX12_goesBy_92 : decode cX12_goesBy 92 = .ok (.if_icmp .ne 13, 3) := by decide +kernel
theorem dX12_goesBy_95 : decode cX12_goesBy 95 = .ok (.iconst 1, 1) := by decide +kernel
theorem dX12_goesBy_96 : decode cX12_goesBy 96 = .ok (.iload_n 2, 1) := by decide +kernel
theorem dX12_goesBy_97 : decode cX12_goesBy 97 = .ok (.ishl, 1) := by decide +kernel
theorem dX12_goesBy_98 : decode cX12_goesBy 98 = .ok (.iconst 1, 1) := by decide +kernel
theorem dX12_goesBy_99 : decode cX12_goesBy 99 = .ok (.iload_n 3, 1) := by decide +kernel
theorem dX12_goesBy_100 : decode cX12_goesBy 100 = .ok (.ishl, 1) := by decide +kernel
theorem dX12_goesBy_101 : decode cX12_goesBy 101 = .ok (.ior, 1) := by decide +kernel
theorem dX12_goesBy_102 : decode cX12_goesBy 102 = .ok (.goto 4, 3) := by decide +kernel
theorem dX12_goesBy_105 : decode cX12_goesBy 105 = .ok (.iconst 0, 1) := by decide +kernel
theorem dX12_goesBy_106 : decode cX12_goesBy 106 = .ok (.ior, 1) := by decide +kernel
theorem dX12_goesBy_107 : decode cX12_goesBy 107 = .ok (.putfield 228, 3) := by decide +kernel
theorem dX12_goesBy_110 : decode cX12_goesBy 110 = .ok (.iinc 2 1, 3) := by decide +kernel
theorem dX12_goesBy_113 : decode cX12_goesBy 113 = .ok (.goto (-53), 3) := by decide +kernel
theorem dX12_goesBy_116 : decode cX12_goesBy 116 = .ok (.iconst 0, 1) := by decide +kernel
theorem dX12_goesBy_117 : decode cX12_goesBy 117 = .ok (.istore_n 2, 1) := by decide +kernel
theorem dX12_goesBy_118 : decode cX12_goesBy 118 = .ok (.iload_n 2, 1) := by decide +kernel
theorem dX12_goesBy_119 : decode cX12_goesBy 119 = .ok (.aload_n 0, 1) := by decide +kernel
theorem dX12_goesBy_120 : decode cX12_goesBy 120 = .ok (.getfield 7, 3) := by decide +kernel
theorem dX12_goesBy_123 : decode cX12_goesBy 123 = .ok (.iconst 0, 1) := by decide +kernel
theorem dX12_goesBy_124 : decode cX12_goesBy 124 = .ok (.iaload, 1) := by decide +kernel
theorem dX12_goesBy_125 : decode cX12_goesBy 125 = .ok (.if_icmp .ge 57, 3) := by decide +kernel
theorem dX12_goesBy_128 : decode cX12_goesBy 128 = .ok (.aload_n 0, 1) := by decide +kernel
theorem dX12_goesBy_129 : decode cX12_goesBy 129 = .ok (.getfield 228, 3) := by decide +kernel
theorem dX12_goesBy_132 : decode cX12_goesBy 132 = .ok (.iload_n 2, 1) := by decide +kernel
theorem dX12_goesBy_133 : decode cX12_goesBy 133 = .ok (.ishr, 1) := by decide +kernel
theorem dX12_goesBy_134 : decode cX12_goesBy 134 = .ok (.iconst 1, 1) := by decide +kernel
theorem dX12_goesBy_135 : decode cX12_goesBy 135 = .ok (.iand, 1) := by decide +kernel
theorem dX12_goesBy_136 : decode cX12_goesBy 136 = .ok (.iconst 1, 1) := by decide +kernel
theorem dX12_goesBy_137 : decode cX12_goesBy 137 = .ok (.if_icmp .ne 39, 3) := by decide +kernel
theorem dX12_goesBy_140 : decode cX12_goesBy 140 = .ok (.aload_n 0, 1) := by decide +kernel
theorem dX12_goesBy_141 : decode cX12_goesBy 141 = .ok (.getfield 7, 3) := by decide +kernel
theorem dX12_goesBy_144 : decode cX12_goesBy 144 = .ok (.bipush 8, 2) := by decide +kernel
theorem dX12_goesBy_146 : decode cX12_goesBy 146 = .ok (.iconst 5, 1) := by decide +kernel
theorem dX12_goesBy_147 : decode cX12_goesBy 147 = .ok (.iload_n 2, 1) := by decide +kernel
theorem dX12_goesBy_148 : decode cX12_goesBy 148 = .ok (.imul, 1) := by decide +kernel
theorem dX12_goesBy_149 : decode cX12_goesBy 149 = .ok (.iadd, 1) := by decide +kernel
theorem dX12_goesBy_150 : decode cX12_goesBy 150 = .ok (.iconst 4, 1) := by decide +kernel
theorem dX12_goesBy_151 : decode cX12_goesBy 151 = .ok (.iadd, 1) := by decide +kernel
theorem dX12_goesBy_152 : decode cX12_goesBy 152 = .ok (.iconst 2, 1) := by decide +kernel
theorem dX12_goesBy_153 : decode cX12_goesBy 153 = .ok (.aload_n 0, 1) := by decide +kernel
theorem dX12_goesBy_154 : decode cX12_goesBy 154 = .ok (.iload_n 2, 1) := by decide +kernel
theorem dX12_goesBy_155 : decode cX12_goesBy 155 = .ok (.iconst 2, 1) := by decide +kernel
theorem dX12_goesBy_156 : decode cX12_goesBy 156 = .ok (.invokevirtual 78, 3) := by decide +kernel
theorem dX12_goesBy_159 : decode cX12_goesBy 159 = .ok (.aload_n 0, 1) := by decide +kernel
theorem dX12_goesBy_160 : decode cX12_goesBy 160 = .ok (.aload_n 0, 1) := by decide +kernel
theorem dX12_goesBy_161 : decode cX12_goesBy 161 = .ok (.iload_n 2, 1) := by decide +kernel
theorem dX12_goesBy_162 : decode cX12_goesBy 162 = .ok (.invokevirtual 123, 3) := by decide +kernel
theorem dX12_goesBy_165 : decode cX12_goesBy 165 = .ok (.iconst 2, 1) := by decide +kernel
theorem dX12_goesBy_166 : decode cX12_goesBy 166 = .ok (.invokevirtual 78, 3) := by decide +kernel
theorem dX12_goesBy_169 : decode cX12_goesBy 169 = .ok (.invokestatic 74, 3) := by decide +kernel
theorem dX12_goesBy_172 : decode cX12_goesBy 172 = .ok (.iconst 4, 1) := by decide +kernel
theorem dX12_goesBy_173 : decode cX12_goesBy 173 = .ok (.idiv, 1) := by decide +kernel
theorem dX12_goesBy_174 : decode cX12_goesBy 174 = .ok (.iadd, 1) := by decide +kernel
theorem dX12_goesBy_175 : decode cX12_goesBy 175 = .ok (.iastore, 1) := by decide +kernel
theorem dX12_goesBy_176 : decode cX12_goesBy 176 = .ok (.iinc 2 1, 3) := by decide +kernel
theorem dX12_goesBy_179 : decode cX12_goesBy 179 = .ok (.goto (-61), 3) := by decide +kernel
theorem dX12_goesBy_182 : decode cX12_goesBy 182 = .ok (.iconst 0, 1) := by decide +kernel
theorem dX12_goesBy_183 : decode cX12_goesBy 183 = .ok (.istore_n 2, 1) := by decide +kernel
theorem dX12_goesBy_184 : decode cX12_goesBy 184 = .ok (.iconst 0, 1) := by decide +kernel
theorem dX12_goesBy_185 : decode cX12_goesBy 185 = .ok (.istore_n 3, 1) := by decide +kernel
theorem dX12_goesBy_186 : decode cX12_goesBy 186 = .ok (.iload_n 3, 1) := by decide +kernel
theorem dX12_goesBy_187 : decode cX12_goesBy 187 = .ok (.aload_n 0, 1) := by decide +kernel
theorem dX12_goesBy_188 : decode cX12_goesBy 188 = .ok (.getfield 7, 3) := by decide +kernel
theorem dX12_goesBy_191 : decode cX12_goesBy 191 = .ok (.iconst 0, 1) := by decide +kernel
theorem dX12_goesBy_192 : decode cX12_goesBy 192 = .ok (.iaload, 1) := by decide +kernel
theorem dX12_goesBy_193 : decode cX12_goesBy 193 = .ok (.if_icmp .ge 30, 3) := by decide +kernel
theorem dX12_goesBy_196 : decode cX12_goesBy 196 = .ok (.iload_n 2, 1) := by decide +kernel
theorem dX12_goesBy_197 : decode cX12_goesBy 197 = .ok (.aload_n 0, 1) := by decide +kernel
theorem dX12_goesBy_198 : decode cX12_goesBy 198 = .ok (.iload_n 3, 1) := by decide +kernel
theorem dX12_goesBy_199 : decode cX12_goesBy 199 = .ok (.iconst 4, 1) := by decide +kernel
theorem dX12_goesBy_200 : decode cX12_goesBy 200 = .ok (.invokevirtual 78, 3) := by decide +kernel
theorem dX12_goesBy_203 : decode cX12_goesBy 203 = .ok (.ifCond .ne 11, 3) := by decide +kernel
theorem dX12_goesBy_206 : decode cX12_goesBy 206 = .ok (.aload_n 0, 1) := by decide +kernel
theorem dX12_goesBy_207 : decode cX12_goesBy 207 = .ok (.iload_n 3, 1) := by decide +kernel
theorem dX12_goesBy_208 : decode cX12_goesBy 208 = .ok (.invokevirtual 120, 3) := by decide +kernel
theorem dX12_goesBy_211 : decode cX12_goesBy 211 = .ok (.goto 4, 3) := by decide +kernel
theorem dX12_goesBy_214 : decode cX12_goesBy 214 = .ok (.iconst 0, 1) := by decide +kernel
theorem dX12_goesBy_215 : decode cX12_goesBy 215 = .ok (.iadd, 1) := by decide +kernel
theorem dX12_goesBy_216 : decode cX12_goesBy 216 = .ok (.istore_n 2, 1) := by decide +kernel
theorem dX12_goesBy_217 : decode cX12_goesBy 217 = .ok (.iinc 3 1, 3) := by decide +kernel
theorem dX12_goesBy_220 : decode cX12_goesBy 220 = .ok (.goto (-34), 3) := by decide +kernel
theorem dX12_goesBy_223 : decode cX12_goesBy 223 = .ok (.aload_n 0, 1) := by decide +kernel
theorem dX12_goesBy_224 : decode cX12_goesBy 224 = .ok (.getfield 7, 3) := by decide +kernel
theorem dX12_goesBy_227 : decode cX12_goesBy 227 = .ok (.iconst 1, 1) := by decide +kernel
theorem dX12_goesBy_228 : decode cX12_goesBy 228 = .ok (.dup2, 1) := by decide +kernel
theorem dX12_goesBy_229 : decode cX12_goesBy 229 = .ok (.iaload, 1) := by decide +kernel
theorem dX12_goesBy_230 : decode cX12_goesBy 230 = .ok (.iconst 1, 1) := by decide +kernel
theorem dX12_goesBy_231 : decode cX12_goesBy 231 = .ok (.iadd, 1) := by decide +kernel
theorem dX12_goesBy_232 : decode cX12_goesBy 232 = .ok (.iastore, 1) := by decide +kernel
theorem dX12_goesBy_233 : decode cX12_goesBy 233 = .ok (.aload_n 0, 1) := by decide +kernel
theorem dX12_goesBy_234 : decode cX12_goesBy 234 = .ok (.getfield 7, 3) := by decide +kernel
theorem dX12_goesBy_237 : decode cX12_goesBy 237 = .ok (.iconst 3, 1) := by decide +kernel
theorem dX12_goesBy_238 : decode cX12_goesBy 238 = .ok (.dup2, 1) := by decide +kernel
theorem dX12_goesBy_239 : decode cX12_goesBy 239 = .ok (.iaload, 1) := by decide +kernel
theorem dX12_goesBy_240 : decode cX12_goesBy 240 = .ok (.iload_n 2, 1) := by decide +kernel
theorem dX12_goesBy_241 : decode cX12_goesBy 241 = .ok (.iadd, 1) := by decide +kernel
theorem dX12_goesBy_242 : decode cX12_goesBy 242 = .ok (.iastore, 1) := by decide +kernel
theorem dX12_goesBy_243 : decode cX12_goesBy 243 = .ok (.iload_n 2, 1) := by decide +kernel
theorem dX12_goesBy_244 : decode cX12_goesBy 244 = .ok (.ireturn, 1) := by decide +kernel
theorem dX12_goesWith_0 : decode cX12_goesWith 0 = .ok (.aload_n 0, 1) := by decide +kernel
theorem dX12_goesWith_1 : decode cX12_goesWith 1 = .ok (.iload_n 1, 1) := by decide +kernel
theorem dX12_goesWith_2 : decode cX12_goesWith 2 = .ok (.ifCond .ne 7, 3) := by decide +kernel
theorem dX12_goesWith_5 : decode cX12_goesWith 5 = .ok (.iconst 0, 1) := by decide +kernel
theorem dX12_goesWith_6 : decode cX12_goesWith 6 = .ok (.goto 8, 3) := by decide +kernel
theorem dX12_goesWith_9 : decode cX12_goesWith 9 = .ok (.iconst 1, 1) := by decide +kernel
theorem dX12_goesWith_10 : decode cX12_goesWith 10 = .ok (.iload_n 1, 1) := by decide +kernel
theorem dX12_goesWith_11 : decode cX12_goesWith 11 = .ok (.iconst 1, 1) := by decide +kernel
theorem dX12_goesWith_12 : decode cX12_goesWith 12 = .ok (.isub, 1) := by decide +kernel
theorem dX12_goesWith_13 : decode cX12_goesWith 13 = .ok (.ishl, 1) := by decide +kernel
theorem dX12_goesWith_14 : decode cX12_goesWith 14 = .ok (.invokevirtual 231, 3) := by decide +kernel
theorem dX12_goesWith_17 : decode cX12_goesWith 17 = .ok (.ireturn, 1) := by decide +kernel
theorem dX12_night_0 : decode cX12_night 0 = .ok (.aload_n 0, 1) := by decide +kernel
theorem dX12_night_1 : decode cX12_night 1 = .ok (.invokevirtual 133, 3) := by decide +kernel
theorem dX12_night_4 : decode cX12_night 4 = .ok (.ifCond .eq 8, 3) := by decide +kernel
theorem dX12_night_7 : decode cX12_night 7 = .ok (.bipush (-4), 2) := by decide +kernel
theorem dX12_night_9 : decode cX12_night 9 = .ok (.goto 8, 3) := by decide +kernel
theorem dX12_night_12 : decode cX12_night 12 = .ok (.aload_n 0, 1) := by decide +kernel
theorem dX12_night_13 : decode cX12_night 13 = .ok (.iconst 0, 1) := by decide +kernel
theorem dX12_night_14 : decode cX12_night 14 = .ok (.invokevirtual 231, 3) := by decide +kernel
theorem dX12_night_17 : decode cX12_night 17 = .ok (.ireturn, 1) := by decide +kernel
theorem dX12_onBy_0 : decode cX12_onBy 0 = .ok (.aload_n 0, 1) := by decide +kernel
theorem dX12_onBy_1 : decode cX12_onBy 1 = .ok (.iconst 0, 1) := by decide +kernel
theorem dX12_onBy_2 : decode cX12_onBy 2 = .ok (.invokevirtual 234, 3) := by decide +kernel
theorem dX12_onBy_5 : decode cX12_onBy 5 = .ok (.iconst 0, 1) := by decide +kernel
theorem dX12_onBy_6 : decode cX12_onBy 6 = .ok (.istore_n 3, 1) := by decide +kernel
theorem dX12_onBy_7 : decode cX12_onBy 7 = .ok (.iconst 0, 1) := by decide +kernel
theorem dX12_onBy_8 : decode cX12_onBy 8 = .ok (.istore 4, 2) := by decide +kernel
theorem dX12_onBy_10 : decode cX12_onBy 10 = .ok (.iload 4, 2) := by decide +kernel
theorem dX12_onBy_12 : decode cX12_onBy 12 = .ok (.iload_n 1, 1) := by decide +kernel
theorem dX12_onBy_13 : decode cX12_onBy 13 = .ok (.if_icmp .ge 24, 3) := by decide +kernel
theorem dX12_onBy_16 : decode cX12_onBy 16 = .ok (.aload_n 0, 1) := by decide +kernel
theorem dX12_onBy_17 : decode cX12_onBy 17 = .ok (.invokevirtual 133, 3) := by decide +kernel
theorem dX12_onBy_20 : decode cX12_onBy 20 = .ok (.ifCond .ne 17, 3) := by decide +kernel
theorem dX12_onBy_23 : decode cX12_onBy 23 = .ok (.iload_n 3, 1) := by decide +kernel
theorem dX12_onBy_24 : decode cX12_onBy 24 = .ok (.aload_n 0, 1) := by decide +kernel
theorem dX12_onBy_25 : decode cX12_onBy 25 = .ok (.iload_n 2, 1) := by decide +kernel
theorem dX12_onBy_26 : decode cX12_onBy 26 = .ok (.invokevirtual 231, 3) := by decide +kernel
theorem dX12_onBy_29 : decode cX12_onBy 29 = .ok (.iadd, 1) := by decide +kernel
theorem dX12_onBy_30 : decode cX12_onBy 30 = .ok (.istore_n 3, 1) := by decide +kernel
theorem dX12_onBy_31 : decode cX12_onBy 31 = .ok (.iinc 4 1, 3) := by decide +kernel
theorem dX12_onBy_34 : decode cX12_onBy 34 = .ok (.goto (-24), 3) := by decide +kernel
theorem dX12_onBy_37 : decode cX12_onBy 37 = .ok (.aload_n 0, 1) := by decide +kernel
theorem dX12_onBy_38 : decode cX12_onBy 38 = .ok (.iconst 0, 1) := by decide +kernel
theorem dX12_onBy_39 : decode cX12_onBy 39 = .ok (.invokevirtual 237, 3) := by decide +kernel
theorem dX12_onBy_42 : decode cX12_onBy 42 = .ok (.iload_n 3, 1) := by decide +kernel
theorem dX12_onBy_43 : decode cX12_onBy 43 = .ok (.ireturn, 1) := by decide +kernel
theorem dX12_on_0 : decode cX12_on 0 = .ok (.iload_n 1, 1) := by decide +kernel
theorem dX12_on_1 : decode cX12_on 1 = .ok (.i2l, 1) := by decide +kernel
theorem dX12_on_2 : decode cX12_on 2 = .ok (.lconst 0, 1) := by decide +kernel
theorem dX12_on_3 : decode cX12_on 3 = .ok (.ldc2_w 131, 3) := by decide +kernel
theorem dX12_on_6 : decode cX12_on 6 = .ok (.invokestatic 66, 3) := by decide +kernel
theorem dX12_on_9 : decode cX12_on 9 = .ok (.ifCond .eq 12, 3) := by decide +kernel
theorem dX12_on_12 : decode cX12_on 12 = .ok (.aload_n 0, 1) := by decide +kernel
theorem dX12_on_13 : decode cX12_on 13 = .ok (.iload_n 1, 1) := by decide +kernel
theorem dX12_on_14 : decode cX12_on 14 = .ok (.iconst 0, 1) := by decide +kernel
theorem dX12_on_15 : decode cX12_on 15 = .ok (.invokevirtual 240, 3) := by decide +kernel
theorem dX12_on_18 : decode cX12_on 18 = .ok (.goto 4, 3) := by decide +kernel
theorem dX12_on_21 : decode cX12_on 21 = .ok (.iconst (-1), 1) := by decide +kernel
theorem dX12_on_22 : decode cX12_on 22 = .ok (.ireturn, 1) := by decide +kernel
theorem dX12_goes_0 : decode cX12_goes 0 = .ok (.aload_n 0, 1) := by decide +kernel
theorem dX12_goes_1 : decode cX12_goes 1 = .ok (.iload_n 1, 1) := by decide +kernel
theorem dX12_goes_2 : decode cX12_goes 2 = .ok (.invokevirtual 110, 3) := by decide +kernel
theorem dX12_goes_5 : decode cX12_goes 5 = .ok (.ifCond .ne 5, 3) := by decide +kernel
theorem dX12_goes_8 : decode cX12_goes 8 = .ok (.iconst (-1), 1) := by decide +kernel
theorem dX12_goes_9 : decode cX12_goes 9 = .ok (.ireturn, 1) := by decide +kernel
theorem dX12_goes_10 : decode cX12_goes 10 = .ok (.aload_n 0, 1) := by decide +kernel
theorem dX12_goes_11 : decode cX12_goes 11 = .ok (.iconst 0, 1) := by decide +kernel
theorem dX12_goes_12 : decode cX12_goes 12 = .ok (.invokevirtual 234, 3) := by decide +kernel
theorem dX12_goes_15 : decode cX12_goes 15 = .ok (.bipush (-3), 2) := by decide +kernel
theorem dX12_goes_17 : decode cX12_goes 17 = .ok (.istore_n 2, 1) := by decide +kernel
theorem dX12_goes_18 : decode cX12_goes 18 = .ok (.aload_n 0, 1) := by decide +kernel
theorem dX12_goes_19 : decode cX12_goes 19 = .ok (.invokevirtual 133, 3) := by decide +kernel
theorem dX12_goes_22 : decode cX12_goes 22 = .ok (.ifCond .ne 43, 3) := by decide +kernel
theorem dX12_goes_25 : decode cX12_goes 25 = .ok (.iload_n 2, 1) := by decide +kernel
theorem dX12_goes_26 : decode cX12_goes 26 = .ok (.ifCond .ge 39, 3) := by decide +kernel
theorem dX12_goes_29 : decode cX12_goes 29 = .ok (.aload_n 0, 1) := by decide +kernel
theorem dX12_goes_30 : decode cX12_goes 30 = .ok (.getfield 7, 3) := by decide +kernel
theorem dX12_goes_33 : decode cX12_goes 33 = .ok (.iconst 1, 1) := by decide +kernel
theorem dX12_goes_34 : decode cX12_goes 34 = .ok (.iaload, 1) := by decide +kernel
theorem dX12_goes_35 : decode cX12_goes 35 = .ok (.istore_n 3, 1) := by decide +kernel
theorem dX12_goes_36 : decode cX12_goes 36 = .ok (.aload_n 0, 1) := by decide +kernel
theorem dX12_goes_37 : decode cX12_goes 37 = .ok (.iconst 0, 1) := by decide +kernel
theorem dX12_goes_38 : decode cX12_goes 38 = .ok (.invokevirtual 231, 3) := by decide +kernel
theorem dX12_goes_41 : decode cX12_goes 41 = .ok (.istore 4, 2) := by decide +kernel
theorem dX12_goes_43 : decode cX12_goes 43 = .ok (.aload_n 0, 1) := by decide +kernel
theorem dX12_goes_44 : decode cX12_goes 44 = .ok (.getfield 228, 3) := by decide +kernel
theorem dX12_goes_47 : decode cX12_goes 47 = .ok (.iload_n 1, 1) := by decide +kernel
theorem dX12_goes_48 : decode cX12_goes 48 = .ok (.ishr, 1) := by decide +kernel
theorem dX12_goes_49 : decode cX12_goes 49 = .ok (.iconst 1, 1) := by decide +kernel
theorem dX12_goes_50 : decode cX12_goes 50 = .ok (.iand, 1) := by decide +kernel
theorem dX12_goes_51 : decode cX12_goes 51 = .ok (.iconst 1, 1) := by decide +kernel
theorem dX12_goes_52 : decode cX12_goes 52 = .ok (.if_icmp .ne 7, 3) := by decide +kernel
theorem dX12_goes_55 : decode cX12_goes 55 = .ok (.iload_n 3, 1) := by decide +kernel
theorem dX12_goes_56 : decode cX12_goes 56 = .ok (.goto 5, 3) := by decide +kernel
theorem dX12_goes_59 : decode cX12_goes 59 = .ok (.bipush (-3), 2) := by decide +kernel
theorem dX12_goes_61 : decode cX12_goes 61 = .ok (.istore_n 2, 1) := by decide +kernel
theorem dX12_goes_62 : decode cX12_goes 62 = .ok (.goto (-44), 3) := by decide +kernel
theorem dX12_goes_65 : decode cX12_goes 65 = .ok (.aload_n 0, 1) := by decide +kernel
theorem dX12_goes_66 : decode cX12_goes 66 = .ok (.iconst 0, 1) := by decide +kernel
theorem dX12_goes_67 : decode cX12_goes 67 = .ok (.invokevirtual 237, 3) := by decide +kernel
theorem dX12_goes_70 : decode cX12_goes 70 = .ok (.iload_n 2, 1) := by decide +kernel
theorem dX12_goes_71 : decode cX12_goes 71 = .ok (.ireturn, 1) := by decide +kernel
theorem dX12_often_0 : decode cX12_often 0 = .ok (.aload_n 0, 1) := by decide +kernel
theorem dX12_often_1 : decode cX12_often 1 = .ok (.iload_n 1, 1) := by decide +kernel
theorem dX12_often_2 : decode cX12_often 2 = .ok (.invokevirtual 110, 3) := by decide +kernel
theorem dX12_often_5 : decode cX12_often 5 = .ok (.ifCond .ne 5, 3) := by decide +kernel
theorem dX12_often_8 : decode cX12_often 8 = .ok (.iconst (-1), 1) := by decide +kernel
theorem dX12_often_9 : decode cX12_often 9 = .ok (.ireturn, 1) := by decide +kernel
theorem dX12_often_10 : decode cX12_often 10 = .ok (.aload_n 0, 1) := by decide +kernel
theorem dX12_often_11 : decode cX12_often 11 = .ok (.iconst 0, 1) := by decide +kernel
theorem dX12_often_12 : decode cX12_often 12 = .ok (.invokevirtual 234, 3) := by decide +kernel
theorem dX12_often_15 : decode cX12_often 15 = .ok (.iconst 0, 1) := by decide +kernel
theorem dX12_often_16 : decode cX12_often 16 = .ok (.istore_n 2, 1) := by decide +kernel
theorem dX12_often_17 : decode cX12_often 17 = .ok (.aload_n 0, 1) := by decide +kernel
theorem dX12_often_18 : decode cX12_often 18 = .ok (.invokevirtual 133, 3) := by decide +kernel
theorem dX12_often_21 : decode cX12_often 21 = .ok (.ifCond .ne 23, 3) := by decide +kernel
theorem dX12_often_24 : decode cX12_often 24 = .ok (.aload_n 0, 1) := by decide +kernel
theorem dX12_often_25 : decode cX12_often 25 = .ok (.iconst 0, 1) := by decide +kernel
theorem dX12_often_26 : decode cX12_often 26 = .ok (.invokevirtual 231, 3) := by decide +kernel
theorem dX12_often_29 : decode cX12_often 29 = .ok (.istore_n 3, 1) := by decide +kernel
theorem dX12_often_30 : decode cX12_often 30 = .ok (.iload_n 2, 1) := by decide +kernel
theorem dX12_often_31 : decode cX12_often 31 = .ok (.aload_n 0, 1) := by decide +kernel
theorem dX12_often_32 : decode cX12_often 32 = .ok (.getfield 228, 3) := by decide +kernel
theorem dX12_often_35 : decode cX12_often 35 = .ok (.iload_n 1, 1) := by decide +kernel
theorem dX12_often_36 : decode cX12_often 36 = .ok (.ishr, 1) := by decide +kernel
theorem dX12_often_37 : decode cX12_often 37 = .ok (.iconst 1, 1) := by decide +kernel
theorem dX12_often_38 : decode cX12_often 38 = .ok (.iand, 1) := by decide +kernel
theorem dX12_often_39 : decode cX12_often 39 = .ok (.iadd, 1) := by decide +kernel
theorem dX12_often_40 : decode cX12_often 40 = .ok (.istore_n 2, 1) := by decide +kernel
theorem dX12_often_41 : decode cX12_often 41 = .ok (.goto (-24), 3) := by decide +kernel
theorem dX12_often_44 : decode cX12_often 44 = .ok (.aload_n 0, 1) := by decide +kernel
theorem dX12_often_45 : decode cX12_often 45 = .ok (.iconst 0, 1) := by decide +kernel
theorem dX12_often_46 : decode cX12_often 46 = .ok (.invokevirtual 237, 3) := by decide +kernel
theorem dX12_often_49 : decode cX12_often 49 = .ok (.iload_n 2, 1) := by decide +kernel
theorem dX12_often_50 : decode cX12_often 50 = .ok (.ireturn, 1) := by decide +kernel
theorem dX12_valueFor_0 : decode cX12_valueFor 0 = .ok (.bipush 8, 2) := by decide +kernel
theorem dX12_valueFor_2 : decode cX12_valueFor 2 = .ok (.iconst 5, 1) := by decide +kernel
theorem dX12_valueFor_3 : decode cX12_valueFor 3 = .ok (.iload_n 1, 1) := by decide +kernel
theorem dX12_valueFor_4 : decode cX12_valueFor 4 = .ok (.imul, 1) := by decide +kernel
theorem dX12_valueFor_5 : decode cX12_valueFor 5 = .ok (.iadd, 1) := by decide +kernel
theorem dX12_valueFor_6 : decode cX12_valueFor 6 = .ok (.iload_n 2, 1) := by decide +kernel
theorem dX12_valueFor_7 : decode cX12_valueFor 7 = .ok (.iadd, 1) := by decide +kernel
theorem dX12_valueFor_8 : decode cX12_valueFor 8 = .ok (.istore 4, 2) := by decide +kernel
theorem dX12_valueFor_10 : decode cX12_valueFor 10 = .ok (.aload_n 0, 1) := by decide +kernel
theorem dX12_valueFor_11 : decode cX12_valueFor 11 = .ok (.getfield 7, 3) := by decide +kernel
theorem dX12_valueFor_14 : decode cX12_valueFor 14 = .ok (.iload 4, 2) := by decide +kernel
theorem dX12_valueFor_16 : decode cX12_valueFor 16 = .ok (.iaload, 1) := by decide +kernel
theorem dX12_valueFor_17 : decode cX12_valueFor 17 = .ok (.istore 5, 2) := by decide +kernel
theorem dX12_valueFor_19 : decode cX12_valueFor 19 = .ok (.iconst 0, 1) := by decide +kernel
theorem dX12_valueFor_20 : decode cX12_valueFor 20 = .ok (.istore 6, 2) := by decide +kernel
theorem dX12_valueFor_22 : decode cX12_valueFor 22 = .ok (.iconst (-1), 1) := by decide +kernel
theorem dX12_valueFor_23 : decode cX12_valueFor 23 = .ok (.istore 7, 2) := by decide +kernel
theorem dX12_valueFor_25 : decode cX12_valueFor 25 = .ok (.iconst 0, 1) := by decide +kernel
theorem dX12_valueFor_26 : decode cX12_valueFor 26 = .ok (.istore 8, 2) := by decide +kernel
theorem dX12_valueFor_28 : decode cX12_valueFor 28 = .ok (.iload 8, 2) := by decide +kernel
theorem dX12_valueFor_30 : decode cX12_valueFor 30 = .ok (.iload_n 3, 1) := by decide +kernel
theorem dX12_valueFor_31 : decode cX12_valueFor 31 = .ok (.if_icmp .gt 59, 3) := by decide +kernel
theorem dX12_valueFor_34 : decode cX12_valueFor 34 = .ok (.aload_n 0, 1) := by decide +kernel
theorem dX12_valueFor_35 : decode cX12_valueFor 35 = .ok (.getfield 7, 3) := by decide +kernel
theorem dX12_valueFor_38 : decode cX12_valueFor 38 = .ok (.iload 4, 2) := by decide +kernel
theorem dX12_valueFor_40 : decode cX12_valueFor 40 = .ok (.iload 8, 2) := by decide +kernel
theorem dX12_valueFor_42 : decode cX12_valueFor 42 = .ok (.iastore, 1) := by decide +kernel
theorem dX12_valueFor_43 : decode cX12_valueFor 43 = .ok (.aload_n 0, 1) := by decide +kernel
theorem dX12_valueFor_44 : decode cX12_valueFor 44 = .ok (.bipush 16, 2) := by decide +kernel
theorem dX12_valueFor_46 : decode cX12_valueFor 46 = .ok (.iconst 0, 1) := by decide +kernel
theorem dX12_valueFor_47 : decode cX12_valueFor 47 = .ok (.invokevirtual 240, 3) := by decide +kernel
theorem dX12_valueFor_50 : decode cX12_valueFor 50 = .ok (.istore 9, 2) := by decide +kernel
theorem dX12_valueFor_52 : decode cX12_valueFor 52 = .ok (.iload 9, 2) := by decide +kernel
theorem dX12_valueFor_54 : decode cX12_valueFor 54 = .ok (.iload 7, 2) := by decide +kernel
theorem dX12_valueFor_56 : decode cX12_valueFor 56 = .ok (.if_icmp .le 8, 3) := by decide +kernel
theorem dX12_valueFor_59 : decode cX12_valueFor 59 = .ok (.iload 8, 2) := by decide +kernel
theorem dX12_valueFor_61 : decode cX12_valueFor 61 = .ok (.goto 5, 3) := by decide +kernel
theorem dX12_valueFor_64 : decode cX12_valueFor 64 = .ok (.iload 6, 2) := by decide +kernel
theorem dX12_valueFor_66 : decode cX12_valueFor 66 = .ok (.istore 6, 2) := by decide +kernel
theorem dX12_valueFor_68 : decode cX12_valueFor 68 = .ok (.iload 9, 2) := by decide +kernel
theorem dX12_valueFor_70 : decode cX12_valueFor 70 = .ok (.iload 7, 2) := by decide +kernel
theorem dX12_valueFor_72 : decode cX12_valueFor 72 = .ok (.if_icmp .le 8, 3) := by decide +kernel
theorem dX12_valueFor_75 : decode cX12_valueFor 75 = .ok (.iload 9, 2) := by decide +kernel
theorem dX12_valueFor_77 : decode cX12_valueFor 77 = .ok (.goto 5, 3) := by decide +kernel
theorem dX12_valueFor_80 : decode cX12_valueFor 80 = .ok (.iload 7, 2) := by decide +kernel
theorem dX12_valueFor_82 : decode cX12_valueFor 82 = .ok (.istore 7, 2) := by decide +kernel
theorem dX12_valueFor_84 : decode cX12_valueFor 84 = .ok (.iinc 8 1, 3) := by decide +kernel
theorem dX12_valueFor_87 : decode cX12_valueFor 87 = .ok (.goto (-59), 3) := by decide +kernel
theorem dX12_valueFor_90 : decode cX12_valueFor 90 = .ok (.aload_n 0, 1) := by decide +kernel
theorem dX12_valueFor_91 : decode cX12_valueFor 91 = .ok (.getfield 7, 3) := by decide +kernel
theorem dX12_valueFor_94 : decode cX12_valueFor 94 = .ok (.iload 4, 2) := by decide +kernel
theorem dX12_valueFor_96 : decode cX12_valueFor 96 = .ok (.iload 5, 2) := by decide +kernel
theorem dX12_valueFor_98 : decode cX12_valueFor 98 = .ok (.iastore, 1) := by decide +kernel
theorem dX12_valueFor_99 : decode cX12_valueFor 99 = .ok (.iload 6, 2) := by decide +kernel
theorem dX12_valueFor_101 : decode cX12_valueFor 101 = .ok (.ireturn, 1) := by decide +kernel
theorem dX12_placeFor_0 : decode cX12_placeFor 0 = .ok (.aload_n 0, 1) := by decide +kernel
theorem dX12_placeFor_1 : decode cX12_placeFor 1 = .ok (.iload_n 1, 1) := by decide +kernel
theorem dX12_placeFor_2 : decode cX12_placeFor 2 = .ok (.invokevirtual 110, 3) := by decide +kernel
theorem dX12_placeFor_5 : decode cX12_placeFor 5 = .ok (.ifCond .eq 14, 3) := by decide +kernel
theorem dX12_placeFor_8 : decode cX12_placeFor 8 = .ok (.aload_n 0, 1) := by decide +kernel
theorem dX12_placeFor_9 : decode cX12_placeFor 9 = .ok (.iload_n 1, 1) := by decide +kernel
theorem dX12_placeFor_10 : decode cX12_placeFor 10 = .ok (.iconst 2, 1) := by decide +kernel
theorem dX12_placeFor_11 : decode cX12_placeFor 11 = .ok (.bipush 15, 2) := by decide +kernel
theorem dX12_placeFor_13 : decode cX12_placeFor 13 = .ok (.invokevirtual 243, 3) := by decide +kernel
theorem dX12_placeFor_16 : decode cX12_placeFor 16 = .ok (.goto 4, 3) := by decide +kernel
theorem dX12_placeFor_19 : decode cX12_placeFor 19 = .ok (.iconst (-1), 1) := by decide +kernel
theorem dX12_placeFor_20 : decode cX12_placeFor 20 = .ok (.ireturn, 1) := by decide +kernel
theorem dX12_warmFor_0 : decode cX12_warmFor 0 = .ok (.aload_n 0, 1) := by decide +kernel
theorem dX12_warmFor_1 : decode cX12_warmFor 1 = .ok (.iload_n 1, 1) := by decide +kernel
theorem dX12_warmFor_2 : decode cX12_warmFor 2 = .ok (.invokevirtual 110, 3) := by decide +kernel
theorem dX12_warmFor_5 : decode cX12_warmFor 5 = .ok (.ifCond .eq 14, 3) := by decide +kernel
theorem dX12_warmFor_8 : decode cX12_warmFor 8 = .ok (.aload_n 0, 1) := by decide +kernel
theorem dX12_warmFor_9 : decode cX12_warmFor 9 = .ok (.iload_n 1, 1) := by decide +kernel
theorem dX12_warmFor_10 : decode cX12_warmFor 10 = .ok (.iconst 1, 1) := by decide +kernel
theorem dX12_warmFor_11 : decode cX12_warmFor 11 = .ok (.bipush 9, 2) := by decide +kernel
theorem dX12_warmFor_13 : decode cX12_warmFor 13 = .ok (.invokevirtual 243, 3) := by decide +kernel
theorem dX12_warmFor_16 : decode cX12_warmFor 16 = .ok (.goto 4, 3) := by decide +kernel
theorem dX12_warmFor_19 : decode cX12_warmFor 19 = .ok (.iconst (-1), 1) := by decide +kernel
theorem dX12_warmFor_20 : decode cX12_warmFor 20 = .ok (.ireturn, 1) := by decide +kernel
theorem dX12_isPair_0 : decode cX12_isPair 0 = .ok (.aload_n 0, 1) := by decide +kernel
theorem dX12_isPair_1 : decode cX12_isPair 1 = .ok (.iload_n 1, 1) := by decide +kernel
theorem dX12_isPair_2 : decode cX12_isPair 2 = .ok (.iload_n 2, 1) := by decide +kernel
theorem dX12_isPair_3 : decode cX12_isPair 3 = .ok (.invokevirtual 107, 3) := by decide +kernel
theorem dX12_isPair_6 : decode cX12_isPair 6 = .ok (.ifCond .le 16, 3) := by decide +kernel
theorem dX12_isPair_9 : decode cX12_isPair 9 = .ok (.aload_n 0, 1) := by decide +kernel
theorem dX12_isPair_10 : decode cX12_isPair 10 = .ok (.iload_n 2, 1) := by decide +kernel
theorem dX12_isPair_11 : decode cX12_isPair 11 = .ok (.iload_n 1, 1) := by decide +kernel
theorem dX12_isPair_12 : decode cX12_isPair 12 = .ok (.invokevirtual 107, 3) := by decide +kernel
theorem dX12_isPair_15 : decode cX12_isPair 15 = .ok (.ifCond .le 7, 3) := by decide +kernel
theorem dX12_isPair_18 : decode cX12_isPair 18 = .ok (.iconst 1, 1) := by decide +kernel
theorem dX12_isPair_19 : decode cX12_isPair 19 = .ok (.goto 4, 3) := by decide +kernel
theorem dX12_isPair_22 : decode cX12_isPair 22 = .ok (.iconst 0, 1) := by decide +kernel
theorem dX12_isPair_23 : decode cX12_isPair 23 = .ok (.ireturn, 1) := by decide +kernel
theorem dX12_pairs_0 : decode cX12_pairs 0 = .ok (.iconst 0, 1) := by decide +kernel
theorem dX12_pairs_1 : decode cX12_pairs 1 = .ok (.istore_n 1, 1) := by decide +kernel
theorem dX12_pairs_2 : decode cX12_pairs 2 = .ok (.iconst 0, 1) := by decide +kernel
theorem dX12_pairs_3 : decode cX12_pairs 3 = .ok (.istore_n 2, 1) := by decide +kernel
theorem dX12_pairs_4 : decode cX12_pairs 4 = .ok (.iload_n 2, 1) := by decide +kernel
theorem dX12_pairs_5 : decode cX12_pairs 5 = .ok (.aload_n 0, 1) := by decide +kernel
theorem dX12_pairs_6 : decode cX12_pairs 6 = .ok (.getfield 7, 3) := by decide +kernel
theorem dX12_pairs_9 : decode cX12_pairs 9 = .ok (.iconst 0, 1) := by decide +kernel
theorem dX12_pairs_10 : decode cX12_pairs 10 = .ok (.iaload, 1) := by decide +kernel
theorem dX12_pairs_11 : decode cX12_pairs 11 = .ok (.if_icmp .ge 39, 3) := by decide +kernel
theorem dX12_pairs_14 : decode cX12_pairs 14 = .ok (.iconst 0, 1) := by decide +kernel
theorem dX12_pairs_15 : decode cX12_pairs 15 = .ok (.istore_n 3, 1) := by decide +kernel
theorem dX12_pairs_16 : decode cX12_pairs 16 = .ok (.iload_n 3, 1) := by decide +kernel
theorem dX12_pairs_17 : decode cX12_pairs 17 = .ok (.iload_n 2, 1) := by decide +kernel
theorem dX12_pairs_18 : decode cX12_pairs 18 = .ok (.if_icmp .ge 26, 3) := by decide +kernel
theorem dX12_pairs_21 : decode cX12_pairs 21 = .ok (.iload_n 1, 1) := by decide +kernel
theorem dX12_pairs_22 : decode cX12_pairs 22 = .ok (.aload_n 0, 1) := by decide +kernel
theorem dX12_pairs_23 : decode cX12_pairs 23 = .ok (.iload_n 2, 1) := by decide +kernel
theorem dX12_pairs_24 : decode cX12_pairs 24 = .ok (.iload_n 3, 1) := by decide +kernel
theorem dX12_pairs_25 : decode cX12_pairs 25 = .ok (.invokevirtual 247, 3) := by decide +kernel
theorem dX12_pairs_28 : decode cX12_pairs 28 = .ok (.ifCond .eq 7, 3) := by decide +kernel
theorem dX12_pairs_31 : decode cX12_pairs 31 = .ok (.iconst 1, 1) := by decide +kernel
theorem dX12_pairs_32 : decode cX12_pairs 32 = .ok (.goto 4, 3) := by decide +kernel
theorem dX12_pairs_35 : decode cX12_pairs 35 = .ok (.iconst 0, 1) := by decide +kernel
theorem dX12_pairs_36 : decode cX12_pairs 36 = .ok (.iadd, 1) := by decide +kernel
theorem dX12_pairs_37 : decode cX12_pairs 37 = .ok (.istore_n 1, 1) := by decide +kernel
theorem dX12_pairs_38 : decode cX12_pairs 38 = .ok (.iinc 3 1, 3) := by decide +kernel
theorem dX12_pairs_41 : decode cX12_pairs 41 = .ok (.goto (-25), 3) := by decide +kernel
theorem dX12_pairs_44 : decode cX12_pairs 44 = .ok (.iinc 2 1, 3) := by decide +kernel
theorem dX12_pairs_47 : decode cX12_pairs 47 = .ok (.goto (-43), 3) := by decide +kernel
theorem dX12_pairs_50 : decode cX12_pairs 50 = .ok (.iload_n 1, 1) := by decide +kernel
theorem dX12_pairs_51 : decode cX12_pairs 51 = .ok (.ireturn, 1) := by decide +kernel
theorem dX12_weds_0 : decode cX12_weds 0 = .ok (.iload_n 1, 1) := by decide +kernel
theorem dX12_weds_1 : decode cX12_weds 1 = .ok (.aload_n 0, 1) := by decide +kernel
theorem dX12_weds_2 : decode cX12_weds 2 = .ok (.getfield 7, 3) := by decide +kernel
theorem dX12_weds_5 : decode cX12_weds 5 = .ok (.iconst 0, 1) := by decide +kernel
theorem dX12_weds_6 : decode cX12_weds 6 = .ok (.iaload, 1) := by decide +kernel
theorem dX12_weds_7 : decode cX12_weds 7 = .ok (.if_icmp .ne 70, 3) := by decide +kernel
theorem dX12_weds_10 : decode cX12_weds 10 = .ok (.iload_n 3, 1) := by decide +kernel
theorem dX12_weds_11 : decode cX12_weds 11 = .ok (.aload_n 0, 1) := by decide +kernel
theorem dX12_weds_12 : decode cX12_weds 12 = .ok (.getfield 250, 3) := by decide +kernel
theorem dX12_weds_15 : decode cX12_weds 15 = .ok (.if_icmp .gt 20, 3) := by decide +kernel
theorem dX12_weds_18 : decode cX12_weds 18 = .ok (.iload_n 3, 1) := by decide +kernel
theorem dX12_weds_19 : decode cX12_weds 19 = .ok (.aload_n 0, 1) := by decide +kernel
theorem dX12_weds_20 : decode cX12_weds 20 = .ok (.getfield 250, 3) := by decide +kernel
theorem dX12_weds_23 : decode cX12_weds 23 = .ok (.if_icmp .ne 53, 3) := by decide +kernel
theorem dX12_weds_26 : decode cX12_weds 26 = .ok (.iload 4, 2) := by decide +kernel
theorem dX12_weds_28 : decode cX12_weds 28 = .ok (.aload_n 0, 1) := by decide +kernel
theorem dX12_weds_29 : decode cX12_weds 29 = .ok (.getfield 253, 3) := by decide +kernel
theorem dX12_weds_32 : decode cX12_weds 32 = .ok (.if_icmp .le 44, 3) := by decide +kernel
theorem dX12_weds_35 : decode cX12_weds 35 = .ok (.aload_n 0, 1) := by decide +kernel
theorem dX12_weds_36 : decode cX12_weds 36 = .ok (.iload_n 3, 1) := by decide +kernel
theorem dX12_weds_37 : decode cX12_weds 37 = .ok (.putfield 250, 3) := by decide +kernel
theorem dX12_weds_40 : decode cX12_weds 40 = .ok (.aload_n 0, 1) := by decide +kernel
theorem dX12_weds_41 : decode cX12_weds 41 = .ok (.iload 4, 2) := by decide +kernel
theorem dX12_weds_43 : decode cX12_weds 43 = .ok (.putfield 253, 3) := by decide +kernel
theorem dX12_weds_46 : decode cX12_weds 46 = .ok (.iconst 0, 1) := by decide +kernel
theorem dX12_weds_47 : decode cX12_weds 47 = .ok (.istore 5, 2) := by decide +kernel
theorem dX12_weds_49 : decode cX12_weds 49 = .ok (.iload 5, 2) := by decide +kernel
theorem dX12_weds_51 : decode cX12_weds 51 = .ok (.bipush 6, 2) := by decide +kernel
theorem dX12_weds_53 : decode cX12_weds 53 = .ok (.if_icmp .ge 23, 3) := by decide +kernel
theorem dX12_weds_56 : decode cX12_weds 56 = .ok (.aload_n 0, 1) := by decide +kernel
theorem dX12_weds_57 : decode cX12_weds 57 = .ok (.getfield 31, 3) := by decide +kernel
theorem dX12_weds_60 : decode cX12_weds 60 = .ok (.iload 5, 2) := by decide +kernel
theorem dX12_weds_62 : decode cX12_weds 62 = .ok (.aload_n 0, 1) := by decide +kernel
theorem dX12_weds_63 : decode cX12_weds 63 = .ok (.getfield 28, 3) := by decide +kernel
theorem dX12_weds_66 : decode cX12_weds 66 = .ok (.iload 5, 2) := by decide +kernel
theorem dX12_weds_68 : decode cX12_weds 68 = .ok (.iaload, 1) := by decide +kernel
theorem dX12_weds_69 : decode cX12_weds 69 = .ok (.iastore, 1) := by decide +kernel
theorem dX12_weds_70 : decode cX12_weds 70 = .ok (.iinc 5 1, 3) := by decide +kernel
theorem dX12_weds_73 : decode cX12_weds 73 = .ok (.goto (-24), 3) := by decide +kernel
theorem dX12_weds_76 : decode cX12_weds 76 = .ok (.return_, 1) := by decide +kernel
theorem dX12_weds_77 : decode cX12_weds 77 = .ok (.iload_n 2, 1) := by decide +kernel
theorem dX12_weds_78 : decode cX12_weds 78 = .ok (.iload_n 1, 1) := by decide +kernel
theorem dX12_weds_79 : decode cX12_weds 79 = .ok (.ishr, 1) := by decide +kernel
theorem dX12_weds_80 : decode cX12_weds 80 = .ok (.iconst 1, 1) := by decide +kernel
theorem dX12_weds_81 : decode cX12_weds 81 = .ok (.iand, 1) := by decide +kernel
theorem dX12_weds_82 : decode cX12_weds 82 = .ok (.iconst 1, 1) := by decide +kernel
theorem dX12_weds_83 : decode cX12_weds 83 = .ok (.if_icmp .ne 15, 3) := by decide +kernel
theorem dX12_weds_86 : decode cX12_weds 86 = .ok (.aload_n 0, 1) := by decide +kernel
theorem dX12_weds_87 : decode cX12_weds 87 = .ok (.iload_n 1, 1) := by decide +kernel
theorem dX12_weds_88 : decode cX12_weds 88 = .ok (.iconst 1, 1) := by decide +kernel
theorem dX12_weds_89 : decode cX12_weds 89 = .ok (.iadd, 1) := by decide +kernel
theorem dX12_weds_90 : decode cX12_weds 90 = .ok (.iload_n 2, 1) := by decide +kernel
theorem dX12_weds_91 : decode cX12_weds 91 = .ok (.iload_n 3, 1) := by decide +kernel
theorem dX12_weds_92 : decode cX12_weds 92 = .ok (.iload 4, 2) := by decide +kernel
theorem dX12_weds_94 : decode cX12_weds 94 = .ok (.invokevirtual 256, 3) := by decide +kernel
theorem dX12_weds_97 : decode cX12_weds 97 = .ok (.return_, 1) := by decide +kernel
theorem dX12_weds_98 : decode cX12_weds 98 = .ok (.iload_n 1, 1) := by decide +kernel
theorem dX12_weds_99 : decode cX12_weds 99 = .ok (.iconst 1, 1) := by decide +kernel
theorem dX12_weds_100 : decode cX12_weds 100 = .ok (.iadd, 1) := by decide +kernel
theorem dX12_weds_101 : decode cX12_weds 101 = .ok (.istore 5, 2) := by decide +kernel
theorem dX12_weds_103 : decode cX12_weds 103 = .ok (.iload 5, 2) := by decide +kernel
theorem dX12_weds_105 : decode cX12_weds 105 = .ok (.aload_n 0, 1) := by decide +kernel
theorem dX12_weds_106 : decode cX12_weds 106 = .ok (.getfield 7, 3) := by decide +kernel
theorem dX12_weds_109 : decode cX12_weds 109 = .ok (.iconst 0, 1) := by decide +kernel
theorem dX12_weds_110 : decode cX12_weds 110 = .ok (.iaload, 1) := by decide +kernel
theorem dX12_weds_111 : decode cX12_weds 111 = .ok (.if_icmp .ge 78, 3) := by decide +kernel
theorem dX12_weds_114 : decode cX12_weds 114 = .ok (.iload_n 2, 1) := by decide +kernel
theorem dX12_weds_115 : decode cX12_weds 115 = .ok (.iload 5, 2) := by decide +kernel
theorem dX12_weds_117 : decode cX12_weds 117 = .ok (.ishr, 1) := by decide +kernel
theorem dX12_weds_118 : decode cX12_weds 118 = .ok (.iconst 1, 1) := by decide +kernel
theorem dX12_weds_119 : decode cX12_weds 119 = .ok (.iand, 1) := by decide +kernel
theorem dX12_weds_120 : decode cX12_weds 120 = .ok (.ifCond .ne 63, 3) := by decide +kernel
theorem dX12_weds_123 : decode cX12_weds 123 = .ok (.aload_n 0, 1) := by decide +kernel
theorem dX12_weds_124 : decode cX12_weds 124 = .ok (.iload_n 1, 1) := by decide +kernel
theorem dX12_weds_125 : decode cX12_weds 125 = .ok (.iload 5, 2) := by decide +kernel
theorem dX12_weds_127 : decode cX12_weds 127 = .ok (.invokevirtual 247, 3) := by decide +kernel
theorem dX12_weds_130 : decode cX12_weds 130 = .ok (.ifCond .eq 53, 3) := by decide +kernel
theorem dX12_weds_133 : decode cX12_weds 133 = .ok (.aload_n 0, 1) := by decide +kernel
theorem dX12_weds_134 : decode cX12_weds 134 = .ok (.getfield 28, 3) := by decide +kernel
theorem dX12_weds_137 : decode cX12_weds 137 = .ok (.iload_n 1, 1) := by decide +kernel
theorem dX12_weds_138 : decode cX12_weds 138 = .ok (.iload 5, 2) := by decide +kernel
theorem dX12_weds_140 : decode cX12_weds 140 = .ok (.iastore, 1) := by decide +kernel
theorem dX12_weds_141 : decode cX12_weds 141 = .ok (.aload_n 0, 1) := by decide +kernel
theorem dX12_weds_142 : decode cX12_weds 142 = .ok (.getfield 28, 3) := by decide +kernel
theorem dX12_weds_145 : decode cX12_weds 145 = .ok (.iload 5, 2) := by decide +kernel
theorem dX12_weds_147 : decode cX12_weds 147 = .ok (.iload_n 1, 1) := by decide +kernel
theorem dX12_weds_148 : decode cX12_weds 148 = .ok (.iastore, 1) := by decide +kernel
theorem dX12_weds_149 : decode cX12_weds 149 = .ok (.aload_n 0, 1) := by decide +kernel
theorem dX12_weds_150 : decode cX12_weds 150 = .ok (.iload_n 1, 1) := by decide +kernel
theorem dX12_weds_151 : decode cX12_weds 151 = .ok (.iconst 1, 1) := by decide +kernel
theorem dX12_weds_152 : decode cX12_weds 152 = .ok (.iadd, 1) := by decide +kernel
theorem dX12_weds_153 : decode cX12_weds 153 = .ok (.iload_n 2, 1) := by decide +kernel
theorem dX12_weds_154 : decode cX12_weds 154 = .ok (.iconst 1, 1) := by decide +kernel
theorem dX12_weds_155 : decode cX12_weds 155 = .ok (.iload 5, 2) := by decide +kernel
theorem dX12_weds_157 : decode cX12_weds 157 = .ok (.ishl, 1) := by decide +kernel
theorem dX12_weds_158 : decode cX12_weds 158 = .ok (.ior, 1) := by decide +kernel
theorem dX12_weds_159 : decode cX12_weds 159 = .ok (.iload_n 3, 1) := by decide +kernel
theorem dX12_weds_160 : decode cX12_weds 160 = .ok (.iconst 1, 1) := by decide +kernel
theorem dX12_weds_161 : decode cX12_weds 161 = .ok (.iadd, 1) := by decide +kernel
theorem dX12_weds_162 : decode cX12_weds 162 = .ok (.iload 4, 2) := by decide +kernel
theorem dX12_weds_164 : decode cX12_weds 164 = .ok (.aload_n 0, 1) := by decide +kernel
theorem dX12_weds_165 : decode cX12_weds 165 = .ok (.iload_n 1, 1) := by decide +kernel
theorem dX12_weds_166 : decode cX12_weds 166 = .ok (.iload 5, 2) := by decide +kernel
theorem dX12_weds_168 : decode cX12_weds 168 = .ok (.invokevirtual 107, 3) := by decide +kernel
theorem dX12_weds_171 : decode cX12_weds 171 = .ok (.iadd, 1) := by decide +kernel
theorem dX12_weds_172 : decode cX12_weds 172 = .ok (.aload_n 0, 1) := by decide +kernel
theorem dX12_weds_173 : decode cX12_weds 173 = .ok (.iload 5, 2) := by decide +kernel
theorem dX12_weds_175 : decode cX12_weds 175 = .ok (.iload_n 1, 1) := by decide +kernel
theorem dX12_weds_176 : decode cX12_weds 176 = .ok (.invokevirtual 107, 3) := by decide +kernel
theorem dX12_weds_179 : decode cX12_weds 179 = .ok (.iadd, 1) := by decide +kernel
theorem dX12_weds_180 : decode cX12_weds 180 = .ok (.invokevirtual 256, 3) := by decide +kernel
theorem dX12_weds_183 : decode cX12_weds 183 = .ok (.iinc 5 1, 3) := by decide +kernel
theorem dX12_weds_186 : decode cX12_weds 186 = .ok (.goto (-83), 3) := by decide +kernel
theorem dX12_weds_189 : decode cX12_weds 189 = .ok (.aload_n 0, 1) := by decide +kernel
theorem dX12_weds_190 : decode cX12_weds 190 = .ok (.getfield 28, 3) := by decide +kernel
theorem dX12_weds_193 : decode cX12_weds 193 = .ok (.iload_n 1, 1) := by decide +kernel
theorem dX12_weds_194 : decode cX12_weds 194 = .ok (.bipush 6, 2) := by decide +kernel
theorem dX12_weds_196 : decode cX12_weds 196 = .ok (.iastore, 1) := by decide +kernel
theorem dX12_weds_197 : decode cX12_weds 197 = .ok (.aload_n 0, 1) := by decide +kernel
theorem dX12_weds_198 : decode cX12_weds 198 = .ok (.iload_n 1, 1) := by decide +kernel
theorem dX12_weds_199 : decode cX12_weds 199 = .ok (.iconst 1, 1) := by decide +kernel
theorem dX12_weds_200 : decode cX12_weds 200 = .ok (.iadd, 1) := by decide +kernel
theorem dX12_weds_201 : decode cX12_weds 201 = .ok (.iload_n 2, 1) := by decide +kernel
theorem dX12_weds_202 : decode cX12_weds 202 = .ok (.iload_n 3, 1) := by decide +kernel
theorem dX12_weds_203 : decode cX12_weds 203 = .ok (.iload 4, 2) := by decide +kernel
theorem dX12_weds_205 : decode cX12_weds 205 = .ok (.invokevirtual 256, 3) := by decide +kernel
theorem dX12_weds_208 : decode cX12_weds 208 = .ok (.return_, 1) := by decide +kernel
theorem dX12_findsWeddings_0 : decode cX12_findsWeddings 0 = .ok (.aload_n 0, 1) := by decide +kernel
theorem dX12_findsWeddings_1 : decode cX12_findsWeddings 1 = .ok (.iconst (-1), 1) := by decide +kernel
theorem dX12_findsWeddings_2 : decode cX12_findsWeddings 2 = .ok (.putfield 250, 3) := by decide +kernel
theorem dX12_findsWeddings_5 : decode cX12_findsWeddings 5 = .ok (.aload_n 0, 1) := by decide +kernel
theorem dX12_findsWeddings_6 : decode cX12_findsWeddings 6 = .ok (.iconst 0, 1) := by decide +kernel
theorem dX12_findsWeddings_7 : decode cX12_findsWeddings 7 = .ok (.putfield 253, 3) := by decide +kernel
theorem dX12_findsWeddings_10 : decode cX12_findsWeddings 10 = .ok (.aload_n 0, 1) := by decide +kernel
theorem dX12_findsWeddings_11 : decode cX12_findsWeddings 11 = .ok (.iconst 0, 1) := by decide +kernel
theorem dX12_findsWeddings_12 : decode cX12_findsWeddings 12 = .ok (.iconst 0, 1) := by decide +kernel
theorem dX12_findsWeddings_13 : decode cX12_findsWeddings 13 = .ok (.iconst 0, 1) := by decide +kernel
theorem dX12_findsWeddings_14 : decode cX12_findsWeddings 14 = .ok (.iconst 0, 1) := by decide +kernel
theorem dX12_findsWeddings_15 : decode cX12_findsWeddings 15 = .ok (.invokevirtual 256, 3) := by decide +kernel
theorem dX12_findsWeddings_18 : decode cX12_findsWeddings 18 = .ok (.return_, 1) := by decide +kernel
theorem dX12_weddings_0 : decode cX12_weddings 0 = .ok (.iload_n 1, 1) := by decide +kernel
theorem dX12_weddings_1 : decode cX12_weddings 1 = .ok (.i2l, 1) := by decide +kernel
theorem dX12_weddings_2 : decode cX12_weddings 2 = .ok (.lconst 0, 1) := by decide +kernel
theorem dX12_weddings_3 : decode cX12_weddings 3 = .ok (.lconst 1, 1) := by decide +kernel
theorem dX12_weddings_4 : decode cX12_weddings 4 = .ok (.invokestatic 66, 3) := by decide +kernel
theorem dX12_weddings_7 : decode cX12_weddings 7 = .ok (.ifCond .ne 5, 3) := by decide +kernel
theorem dX12_weddings_10 : decode cX12_weddings 10 = .ok (.iconst (-1), 1) := by decide +kernel
theorem dX12_weddings_11 : decode cX12_weddings 11 = .ok (.ireturn, 1) := by decide +kernel
theorem dX12_weddings_12 : decode cX12_weddings 12 = .ok (.aload_n 0, 1) := by decide +kernel
theorem dX12_weddings_13 : decode cX12_weddings 13 = .ok (.invokevirtual 260, 3) := by decide +kernel
theorem dX12_weddings_16 : decode cX12_weddings 16 = .ok (.iload_n 1, 1) := by decide +kernel
theorem dX12_weddings_17 : decode cX12_weddings 17 = .ok (.ifCond .ne 10, 3) := by decide +kernel
theorem dX12_weddings_20 : decode cX12_weddings 20 = .ok (.aload_n 0, 1) := by decide +kernel
theorem dX12_weddings_21 : decode cX12_weddings 21 = .ok (.getfield 250, 3) := by decide +kernel
theorem dX12_weddings_24 : decode cX12_weddings 24 = .ok (.goto 7, 3) := by decide +kernel
theorem dX12_weddings_27 : decode cX12_weddings 27 = .ok (.aload_n 0, 1) := by decide +kernel
theorem dX12_weddings_28 : decode cX12_weddings 28 = .ok (.getfield 253, 3) := by decide +kernel
theorem dX12_weddings_31 : decode cX12_weddings 31 = .ok (.ireturn, 1) := by decide +kernel
theorem dX12_mate_0 : decode cX12_mate 0 = .ok (.aload_n 0, 1) := by decide +kernel
theorem dX12_mate_1 : decode cX12_mate 1 = .ok (.iload_n 1, 1) := by decide +kernel
theorem dX12_mate_2 : decode cX12_mate 2 = .ok (.invokevirtual 110, 3) := by decide +kernel
theorem dX12_mate_5 : decode cX12_mate 5 = .ok (.ifCond .ne 5, 3) := by decide +kernel
theorem dX12_mate_8 : decode cX12_mate 8 = .ok (.iconst (-1), 1) := by decide +kernel
theorem dX12_mate_9 : decode cX12_mate 9 = .ok (.ireturn, 1) := by decide +kernel
theorem dX12_mate_10 : decode cX12_mate 10 = .ok (.aload_n 0, 1) := by decide +kernel
theorem dX12_mate_11 : decode cX12_mate 11 = .ok (.invokevirtual 260, 3) := by decide +kernel
theorem dX12_mate_14 : decode cX12_mate 14 = .ok (.aload_n 0, 1) := by decide +kernel
theorem dX12_mate_15 : decode cX12_mate 15 = .ok (.getfield 31, 3) := by decide +kernel
theorem dX12_mate_18 : decode cX12_mate 18 = .ok (.iload_n 1, 1) := by decide +kernel
theorem dX12_mate_19 : decode cX12_mate 19 = .ok (.iaload, 1) := by decide +kernel
theorem dX12_mate_20 : decode cX12_mate 20 = .ok (.ireturn, 1) := by decide +kernel
theorem dX12_size_0 : decode cX12_size 0 = .ok (.iconst 0, 1) := by decide +kernel
theorem dX12_size_1 : decode cX12_size 1 = .ok (.istore_n 1, 1) := by decide +kernel
theorem dX12_size_2 : decode cX12_size 2 = .ok (.iload_n 0, 1) := by decide +kernel
theorem dX12_size_3 : decode cX12_size 3 = .ok (.istore_n 2, 1) := by decide +kernel
theorem dX12_size_4 : decode cX12_size 4 = .ok (.iload_n 2, 1) := by decide +kernel
theorem dX12_size_5 : decode cX12_size 5 = .ok (.ifCond .eq 15, 3) := by decide +kernel
theorem dX12_size_8 : decode cX12_size 8 = .ok (.iinc 1 1, 3) := by decide +kernel
theorem dX12_size_11 : decode cX12_size 11 = .ok (.iload_n 2, 1) := by decide +kernel
theorem dX12_size_12 : decode cX12_size 12 = .ok (.iload_n 2, 1) := by decide +kernel
theorem dX12_size_13 : decode cX12_size 13 = .ok (.iconst 1, 1) := by decide +kernel
theorem dX12_size_14 : decode cX12_size 14 = .ok (.isub, 1) := by decide +kernel
theorem dX12_size_15 : decode cX12_size 15 = .ok (.iand, 1) := by decide +kernel
theorem dX12_size_16 : decode cX12_size 16 = .ok (.istore_n 2, 1) := by decide +kernel
theorem dX12_size_17 : decode cX12_size 17 = .ok (.goto (-13), 3) := by decide +kernel
theorem dX12_size_20 : decode cX12_size 20 = .ok (.iload_n 1, 1) := by decide +kernel
theorem dX12_size_21 : decode cX12_size 21 = .ok (.ireturn, 1) := by decide +kernel
theorem dX12_isStill_0 : decode cX12_isStill 0 = .ok (.aload_n 0, 1) := by decide +kernel
theorem dX12_isStill_1 : decode cX12_isStill 1 = .ok (.iconst 0, 1) := by decide +kernel
theorem dX12_isStill_2 : decode cX12_isStill 2 = .ok (.invokevirtual 234, 3) := by decide +kernel
theorem dX12_isStill_5 : decode cX12_isStill 5 = .ok (.iconst 1, 1) := by decide +kernel
theorem dX12_isStill_6 : decode cX12_isStill 6 = .ok (.istore_n 2, 1) := by decide +kernel
theorem dX12_isStill_7 : decode cX12_isStill 7 = .ok (.aload_n 0, 1) := by decide +kernel
theorem dX12_isStill_8 : decode cX12_isStill 8 = .ok (.invokevirtual 133, 3) := by decide +kernel
theorem dX12_isStill_11 : decode cX12_isStill 11 = .ok (.ifCond .ne 29, 3) := by decide +kernel
theorem dX12_isStill_14 : decode cX12_isStill 14 = .ok (.iload_n 2, 1) := by decide +kernel
theorem dX12_isStill_15 : decode cX12_isStill 15 = .ok (.ifCond .eq 25, 3) := by decide +kernel
theorem dX12_isStill_18 : decode cX12_isStill 18 = .ok (.aload_n 0, 1) := by decide +kernel
theorem dX12_isStill_19 : decode cX12_isStill 19 = .ok (.iload_n 1, 1) := by decide +kernel
theorem dX12_isStill_20 : decode cX12_isStill 20 = .ok (.invokevirtual 231, 3) := by decide +kernel
theorem dX12_isStill_23 : decode cX12_isStill 23 = .ok (.istore_n 3, 1) := by decide +kernel
theorem dX12_isStill_24 : decode cX12_isStill 24 = .ok (.aload_n 0, 1) := by decide +kernel
theorem dX12_isStill_25 : decode cX12_isStill 25 = .ok (.getfield 228, 3) := by decide +kernel
theorem dX12_isStill_28 : decode cX12_isStill 28 = .ok (.ifCond .ne 7, 3) := by decide +kernel
theorem dX12_isStill_31 : decode cX12_isStill 31 = .ok (.iconst 1, 1) := by decide +kernel
theorem dX12_isStill_32 : decode cX12_isStill 32 = .ok (.goto 4, 3) := by decide +kernel
theorem dX12_isStill_35 : decode cX12_isStill 35 = .ok (.iconst 0, 1) := by decide +kernel
theorem dX12_isStill_36 : decode cX12_isStill 36 = .ok (.istore_n 2, 1) := by decide +kernel
theorem dX12_isStill_37 : decode cX12_isStill 37 = .ok (.goto (-30), 3) := by decide +kernel
theorem dX12_isStill_40 : decode cX12_isStill 40 = .ok (.aload_n 0, 1) := by decide +kernel
theorem dX12_isStill_41 : decode cX12_isStill 41 = .ok (.iconst 0, 1) := by decide +kernel
theorem dX12_isStill_42 : decode cX12_isStill 42 = .ok (.invokevirtual 237, 3) := by decide +kernel
theorem dX12_isStill_45 : decode cX12_isStill 45 = .ok (.iload_n 2, 1) := by decide +kernel
theorem dX12_isStill_46 : decode cX12_isStill 46 = .ok (.ireturn, 1) := by decide +kernel
theorem dX12_chains_0 : decode cX12_chains 0 = .ok (.iload_n 1, 1) := by decide +kernel
theorem dX12_chains_1 : decode cX12_chains 1 = .ok (.i2l, 1) := by decide +kernel
theorem dX12_chains_2 : decode cX12_chains 2 = .ok (.lconst 0, 1) := by decide +kernel
theorem dX12_chains_3 : decode cX12_chains 3 = .ok (.lconst 1, 1) := by decide +kernel
theorem dX12_chains_4 : decode cX12_chains 4 = .ok (.invokestatic 66, 3) := by decide +kernel
theorem dX12_chains_7 : decode cX12_chains 7 = .ok (.ifCond .ne 5, 3) := by decide +kernel
theorem dX12_chains_10 : decode cX12_chains 10 = .ok (.iconst (-1), 1) := by decide +kernel
theorem dX12_chains_11 : decode cX12_chains 11 = .ok (.ireturn, 1) := by decide +kernel
theorem dX12_chains_12 : decode cX12_chains 12 = .ok (.iconst (-1), 1) := by decide +kernel
theorem dX12_chains_13 : decode cX12_chains 13 = .ok (.istore_n 2, 1) := by decide +kernel
theorem dX12_chains_14 : decode cX12_chains 14 = .ok (.iconst 0, 1) := by decide +kernel
theorem dX12_chains_15 : decode cX12_chains 15 = .ok (.istore_n 3, 1) := by decide +kernel
theorem dX12_chains_16 : decode cX12_chains 16 = .ok (.iload_n 3, 1) := by decide +kernel
theorem dX12_chains_17 : decode cX12_chains 17 = .ok (.iconst 1, 1) := by decide +kernel
theorem dX12_chains_18 : decode cX12_chains 18 = .ok (.aload_n 0, 1) := by decide +kernel
theorem dX12_chains_19 : decode cX12_chains 19 = .ok (.getfield 7, 3) := by decide +kernel
theorem dX12_chains_22 : decode cX12_chains 22 = .ok (.iconst 0, 1) := by decide +kernel
theorem dX12_chains_23 : decode cX12_chains 23 = .ok (.iaload, 1) := by decide +kernel
theorem dX12_chains_24 : decode cX12_chains 24 = .ok (.ishl, 1) := by decide +kernel
theorem dX12_chains_25 : decode cX12_chains 25 = .ok (.if_icmp .ge 38, 3) := by decide +kernel
theorem dX12_chains_28 : decode cX12_chains 28 = .ok (.iload_n 2, 1) := by decide +kernel
theorem dX12_chains_29 : decode cX12_chains 29 = .ok (.ifCond .lt 14, 3) := by decide +kernel
theorem dX12_chains_32 : decode cX12_chains 32 = .ok (.iload_n 3, 1) := by decide +kernel
theorem dX12_chains_33 : decode cX12_chains 33 = .ok (.invokestatic 263, 3) := by decide +kernel
theorem dX12_chains_36 : decode cX12_chains 36 = .ok (.iload_n 2, 1) := by decide +kernel
theorem dX12_chains_37 : decode cX12_chains 37 = .ok (.invokestatic 263, 3) := by decide +kernel
theorem dX12_chains_40 : decode cX12_chains 40 = .ok (.if_icmp .ge 15, 3) := by decide +kernel
theorem dX12_chains_43 : decode cX12_chains 43 = .ok (.aload_n 0, 1) := by decide +kernel
theorem dX12_chains_44 : decode cX12_chains 44 = .ok (.iload_n 3, 1) := by decide +kernel
theorem dX12_chains_45 : decode cX12_chains 45 = .ok (.invokevirtual 266, 3) := by decide +kernel
