theorem dX9_after_74 : decode cX9_after 74 = .ok (.iload 6, 2) := by decide +kernel
theorem dX9_after_76 : decode cX9_after 76 = .ok (.if_icmp .le 68, 3) := by decide +kernel
theorem dX9_after_79 : decode cX9_after 79 = .ok (.iload 7, 2) := by decide +kernel
theorem dX9_after_81 : decode cX9_after 81 = .ok (.aload_n 0, 1) := by decide +kernel
theorem dX9_after_82 : decode cX9_after 82 = .ok (.getfield 83, 3) := by decide +kernel
theorem dX9_after_85 : decode cX9_after 85 = .ok (.if_icmp .ge 59, 3) := by decide +kernel
theorem dX9_after_88 : decode cX9_after 88 = .ok (.aload_n 0, 1) := by decide +kernel
theorem dX9_after_89 : decode cX9_after 89 = .ok (.getfield 52, 3) := by decide +kernel
theorem dX9_after_92 : decode cX9_after 92 = .ok (.iload 7, 2) := by decide +kernel
theorem dX9_after_94 : decode cX9_after 94 = .ok (.iaload, 1) := by decide +kernel
theorem dX9_after_95 : decode cX9_after 95 = .ok (.iload 6, 2) := by decide +kernel
theorem dX9_after_97 : decode cX9_after 97 = .ok (.if_icmp .ne 47, 3) := by decide +kernel
theorem dX9_after_100 : decode cX9_after 100 = .ok (.iconst 2, 1) := by decide +kernel
theorem dX9_after_101 : decode cX9_after 101 = .ok (.aload_n 0, 1) := by decide +kernel
theorem dX9_after_102 : decode cX9_after 102 = .ok (.getfield 40, 3) := by decide +kernel
theorem dX9_after_105 : decode cX9_after 105 = .ok (.iload 6, 2) := by decide +kernel
theorem dX9_after_107 : decode cX9_after 107 = .ok (.iaload, 1) := by decide +kernel
theorem dX9_after_108 : decode cX9_after 108 = .ok (.aload_n 0, 1) := by decide +kernel
theorem dX9_after_109 : decode cX9_after 109 = .ok (.getfield 40, 3) := by decide +kernel
theorem dX9_after_112 : decode cX9_after 112 = .ok (.iload 7, 2) := by decide +kernel
theorem dX9_after_114 : decode cX9_after 114 = .ok (.iaload, 1) := by decide +kernel
theorem dX9_after_115 : decode cX9_after 115 = .ok (.isub, 1) := by decide +kernel
theorem dX9_after_116 : decode cX9_after 116 = .ok (.invokestatic 112, 3) := by decide +kernel
theorem dX9_after_119 : decode cX9_after 119 = .ok (.iconst 4, 1) := by decide +kernel
theorem dX9_after_120 : decode cX9_after 120 = .ok (.idiv, 1) := by decide +kernel
theorem dX9_after_121 : decode cX9_after 121 = .ok (.iadd, 1) := by decide +kernel
theorem dX9_after_122 : decode cX9_after 122 = .ok (.istore 8, 2) := by decide +kernel
theorem dX9_after_124 : decode cX9_after 124 = .ok (.iload 4, 2) := by decide +kernel
theorem dX9_after_126 : decode cX9_after 126 = .ok (.iload 8, 2) := by decide +kernel
theorem dX9_after_128 : decode cX9_after 128 = .ok (.iconst 4, 1) := by decide +kernel
theorem dX9_after_129 : decode cX9_after 129 = .ok (.iload 6, 2) := by decide +kernel
theorem dX9_after_131 : decode cX9_after 131 = .ok (.imul, 1) := by decide +kernel
theorem dX9_after_132 : decode cX9_after 132 = .ok (.ishl, 1) := by decide +kernel
theorem dX9_after_133 : decode cX9_after 133 = .ok (.iload 8, 2) := by decide +kernel
theorem dX9_after_135 : decode cX9_after 135 = .ok (.iconst 4, 1) := by decide +kernel
theorem dX9_after_136 : decode cX9_after 136 = .ok (.iload 7, 2) := by decide +kernel
theorem dX9_after_138 : decode cX9_after 138 = .ok (.imul, 1) := by decide +kernel
theorem dX9_after_139 : decode cX9_after 139 = .ok (.ishl, 1) := by decide +kernel
theorem dX9_after_140 : decode cX9_after 140 = .ok (.ior, 1) := by decide +kernel
theorem dX9_after_141 : decode cX9_after 141 = .ok (.ior, 1) := by decide +kernel
theorem dX9_after_142 : decode cX9_after 142 = .ok (.istore 4, 2) := by decide +kernel
theorem dX9_after_144 : decode cX9_after 144 = .ok (.iinc 6 1, 3) := by decide +kernel
theorem dX9_after_147 : decode cX9_after 147 = .ok (.goto (-93), 3) := by decide +kernel
theorem dX9_after_150 : decode cX9_after 150 = .ok (.iload 4, 2) := by decide +kernel
theorem dX9_after_152 : decode cX9_after 152 = .ok (.ireturn, 1) := by decide +kernel
theorem dX9_worthOf_0 : decode cX9_worthOf 0 = .ok (.iconst 0, 1) := by decide +kernel
theorem dX9_worthOf_1 : decode cX9_worthOf 1 = .ok (.istore_n 3, 1) := by decide +kernel
theorem dX9_worthOf_2 : decode cX9_worthOf 2 = .ok (.iconst 0, 1) := by decide +kernel
theorem dX9_worthOf_3 : decode cX9_worthOf 3 = .ok (.istore 4, 2) := by decide +kernel
theorem dX9_worthOf_5 : decode cX9_worthOf 5 = .ok (.iload 4, 2) := by decide +kernel
theorem dX9_worthOf_7 : decode cX9_worthOf 7 = .ok (.aload_n 0, 1) := by decide +kernel
theorem dX9_worthOf_8 : decode cX9_worthOf 8 = .ok (.getfield 83, 3) := by decide +kernel
theorem dX9_worthOf_11 : decode cX9_worthOf 11 = .ok (.if_icmp .ge 29, 3) := by decide +kernel
theorem dX9_worthOf_14 : decode cX9_worthOf 14 = .ok (.aload_n 0, 1) := by decide +kernel
theorem dX9_worthOf_15 : decode cX9_worthOf 15 = .ok (.iload_n 1, 1) := by decide +kernel
theorem dX9_worthOf_16 : decode cX9_worthOf 16 = .ok (.iload 4, 2) := by decide +kernel
theorem dX9_worthOf_18 : decode cX9_worthOf 18 = .ok (.invokevirtual 101, 3) := by decide +kernel
theorem dX9_worthOf_21 : decode cX9_worthOf 21 = .ok (.ifCond .ne 13, 3) := by decide +kernel
theorem dX9_worthOf_24 : decode cX9_worthOf 24 = .ok (.iload_n 3, 1) := by decide +kernel
theorem dX9_worthOf_25 : decode cX9_worthOf 25 = .ok (.aload_n 0, 1) := by decide +kernel
theorem dX9_worthOf_26 : decode cX9_worthOf 26 = .ok (.iload 4, 2) := by decide +kernel
theorem dX9_worthOf_28 : decode cX9_worthOf 28 = .ok (.iload_n 2, 1) := by decide +kernel
theorem dX9_worthOf_29 : decode cX9_worthOf 29 = .ok (.invokevirtual 154, 3) := by decide +kernel
theorem dX9_worthOf_32 : decode cX9_worthOf 32 = .ok (.iadd, 1) := by decide +kernel
theorem dX9_worthOf_33 : decode cX9_worthOf 33 = .ok (.istore_n 3, 1) := by decide +kernel
theorem dX9_worthOf_34 : decode cX9_worthOf 34 = .ok (.iinc 4 1, 3) := by decide +kernel
theorem dX9_worthOf_37 : decode cX9_worthOf 37 = .ok (.goto (-32), 3) := by decide +kernel
theorem dX9_worthOf_40 : decode cX9_worthOf 40 = .ok (.iload_n 3, 1) := by decide +kernel
theorem dX9_worthOf_41 : decode cX9_worthOf 41 = .ok (.ireturn, 1) := by decide +kernel
theorem dX9_passNight_0 : decode cX9_passNight 0 = .ok (.aload_n 0, 1) := by decide +kernel
theorem dX9_passNight_1 : decode cX9_passNight 1 = .ok (.aload_n 0, 1) := by decide +kernel
theorem dX9_passNight_2 : decode cX9_passNight 2 = .ok (.aload_n 0, 1) := by decide +kernel
theorem dX9_passNight_3 : decode cX9_passNight 3 = .ok (.getfield 86, 3) := by decide +kernel
theorem dX9_passNight_6 : decode cX9_passNight 6 = .ok (.aload_n 0, 1) := by decide +kernel
theorem dX9_passNight_7 : decode cX9_passNight 7 = .ok (.getfield 89, 3) := by decide +kernel
theorem dX9_passNight_10 : decode cX9_passNight 10 = .ok (.iload_n 1, 1) := by decide +kernel
theorem dX9_passNight_11 : decode cX9_passNight 11 = .ok (.invokevirtual 157, 3) := by decide +kernel
theorem dX9_passNight_14 : decode cX9_passNight 14 = .ok (.putfield 86, 3) := by decide +kernel
theorem dX9_passNight_17 : decode cX9_passNight 17 = .ok (.aload_n 0, 1) := by decide +kernel
theorem dX9_passNight_18 : decode cX9_passNight 18 = .ok (.aload_n 0, 1) := by decide +kernel
theorem dX9_passNight_19 : decode cX9_passNight 19 = .ok (.getfield 86, 3) := by decide +kernel
theorem dX9_passNight_22 : decode cX9_passNight 22 = .ok (.aload_n 0, 1) := by decide +kernel
theorem dX9_passNight_23 : decode cX9_passNight 23 = .ok (.getfield 89, 3) := by decide +kernel
theorem dX9_passNight_26 : decode cX9_passNight 26 = .ok (.invokevirtual 160, 3) := by decide +kernel
theorem dX9_passNight_29 : decode cX9_passNight 29 = .ok (.istore_n 2, 1) := by decide +kernel
theorem dX9_passNight_30 : decode cX9_passNight 30 = .ok (.aload_n 0, 1) := by decide +kernel
theorem dX9_passNight_31 : decode cX9_passNight 31 = .ok (.dup, 1) := by decide +kernel
theorem dX9_passNight_32 : decode cX9_passNight 32 = .ok (.getfield 92, 3) := by decide +kernel
theorem dX9_passNight_35 : decode cX9_passNight 35 = .ok (.iload_n 2, 1) := by decide +kernel
theorem dX9_passNight_36 : decode cX9_passNight 36 = .ok (.iadd, 1) := by decide +kernel
theorem dX9_passNight_37 : decode cX9_passNight 37 = .ok (.putfield 92, 3) := by decide +kernel
theorem dX9_passNight_40 : decode cX9_passNight 40 = .ok (.aload_n 0, 1) := by decide +kernel
theorem dX9_passNight_41 : decode cX9_passNight 41 = .ok (.dup, 1) := by decide +kernel
theorem dX9_passNight_42 : decode cX9_passNight 42 = .ok (.getfield 89, 3) := by decide +kernel
theorem dX9_passNight_45 : decode cX9_passNight 45 = .ok (.iconst 1, 1) := by decide +kernel
theorem dX9_passNight_46 : decode cX9_passNight 46 = .ok (.iadd, 1) := by decide +kernel
theorem dX9_passNight_47 : decode cX9_passNight 47 = .ok (.putfield 89, 3) := by decide +kernel
theorem dX9_passNight_50 : decode cX9_passNight 50 = .ok (.iload_n 2, 1) := by decide +kernel
theorem dX9_passNight_51 : decode cX9_passNight 51 = .ok (.ireturn, 1) := by decide +kernel
theorem dX9_actByLot_0 : decode cX9_actByLot 0 = .ok (.iload_n 1, 1) := by decide +kernel
theorem dX9_actByLot_1 : decode cX9_actByLot 1 = .ok (.bipush 16, 2) := by decide +kernel
theorem dX9_actByLot_3 : decode cX9_actByLot 3 = .ok (.iushr, 1) := by decide +kernel
theorem dX9_actByLot_4 : decode cX9_actByLot 4 = .ok (.aload_n 0, 1) := by decide +kernel
theorem dX9_actByLot_5 : decode cX9_actByLot 5 = .ok (.getfield 83, 3) := by decide +kernel
theorem dX9_actByLot_8 : decode cX9_actByLot 8 = .ok (.iconst 1, 1) := by decide +kernel
theorem dX9_actByLot_9 : decode cX9_actByLot 9 = .ok (.iadd, 1) := by decide +kernel
theorem dX9_actByLot_10 : decode cX9_actByLot 10 = .ok (.irem, 1) := by decide +kernel
theorem dX9_actByLot_11 : decode cX9_actByLot 11 = .ok (.ireturn, 1) := by decide +kernel
theorem dX9_addReport_0 : decode cX9_addReport 0 = .ok (.aload_n 0, 1) := by decide +kernel
theorem dX9_addReport_1 : decode cX9_addReport 1 = .ok (.getfield 95, 3) := by decide +kernel
theorem dX9_addReport_4 : decode cX9_addReport 4 = .ok (.iconst 4, 1) := by decide +kernel
theorem dX9_addReport_5 : decode cX9_addReport 5 = .ok (.imul, 1) := by decide +kernel
theorem dX9_addReport_6 : decode cX9_addReport 6 = .ok (.istore 5, 2) := by decide +kernel
theorem dX9_addReport_8 : decode cX9_addReport 8 = .ok (.aload_n 0, 1) := by decide +kernel
theorem dX9_addReport_9 : decode cX9_addReport 9 = .ok (.getfield 60, 3) := by decide +kernel
theorem dX9_addReport_12 : decode cX9_addReport 12 = .ok (.iload 5, 2) := by decide +kernel
theorem dX9_addReport_14 : decode cX9_addReport 14 = .ok (.iload_n 1, 1) := by decide +kernel
theorem dX9_addReport_15 : decode cX9_addReport 15 = .ok (.iastore, 1) := by decide +kernel
theorem dX9_addReport_16 : decode cX9_addReport 16 = .ok (.aload_n 0, 1) := by decide +kernel
theorem dX9_addReport_17 : decode cX9_addReport 17 = .ok (.getfield 60, 3) := by decide +kernel
theorem dX9_addReport_20 : decode cX9_addReport 20 = .ok (.iload 5, 2) := by decide +kernel
theorem dX9_addReport_22 : decode cX9_addReport 22 = .ok (.iconst 1, 1) := by decide +kernel
theorem dX9_addReport_23 : decode cX9_addReport 23 = .ok (.iadd, 1) := by decide +kernel
theorem dX9_addReport_24 : decode cX9_addReport 24 = .ok (.iload_n 2, 1) := by decide +kernel
theorem dX9_addReport_25 : decode cX9_addReport 25 = .ok (.iastore, 1) := by decide +kernel
theorem dX9_addReport_26 : decode cX9_addReport 26 = .ok (.aload_n 0, 1) := by decide +kernel
theorem dX9_addReport_27 : decode cX9_addReport 27 = .ok (.getfield 60, 3) := by decide +kernel
theorem dX9_addReport_30 : decode cX9_addReport 30 = .ok (.iload 5, 2) := by decide +kernel
theorem dX9_addReport_32 : decode cX9_addReport 32 = .ok (.iconst 2, 1) := by decide +kernel
theorem dX9_addReport_33 : decode cX9_addReport 33 = .ok (.iadd, 1) := by decide +kernel
theorem dX9_addReport_34 : decode cX9_addReport 34 = .ok (.iload_n 3, 1) := by decide +kernel
theorem dX9_addReport_35 : decode cX9_addReport 35 = .ok (.iastore, 1) := by decide +kernel
theorem dX9_addReport_36 : decode cX9_addReport 36 = .ok (.aload_n 0, 1) := by decide +kernel
theorem dX9_addReport_37 : decode cX9_addReport 37 = .ok (.getfield 60, 3) := by decide +kernel
theorem dX9_addReport_40 : decode cX9_addReport 40 = .ok (.iload 5, 2) := by decide +kernel
theorem dX9_addReport_42 : decode cX9_addReport 42 = .ok (.iconst 3, 1) := by decide +kernel
theorem dX9_addReport_43 : decode cX9_addReport 43 = .ok (.iadd, 1) := by decide +kernel
theorem dX9_addReport_44 : decode cX9_addReport 44 = .ok (.iload 4, 2) := by decide +kernel
theorem dX9_addReport_46 : decode cX9_addReport 46 = .ok (.iastore, 1) := by decide +kernel
theorem dX9_addReport_47 : decode cX9_addReport 47 = .ok (.aload_n 0, 1) := by decide +kernel
theorem dX9_addReport_48 : decode cX9_addReport 48 = .ok (.dup, 1) := by decide +kernel
theorem dX9_addReport_49 : decode cX9_addReport 49 = .ok (.getfield 95, 3) := by decide +kernel
theorem dX9_addReport_52 : decode cX9_addReport 52 = .ok (.iconst 1, 1) := by decide +kernel
theorem dX9_addReport_53 : decode cX9_addReport 53 = .ok (.iadd, 1) := by decide +kernel
theorem dX9_addReport_54 : decode cX9_addReport 54 = .ok (.putfield 95, 3) := by decide +kernel
theorem dX9_addReport_57 : decode cX9_addReport 57 = .ok (.aload_n 0, 1) := by decide +kernel
theorem dX9_addReport_58 : decode cX9_addReport 58 = .ok (.getfield 95, 3) := by decide +kernel
theorem dX9_addReport_61 : decode cX9_addReport 61 = .ok (.iconst 1, 1) := by decide +kernel
theorem dX9_addReport_62 : decode cX9_addReport 62 = .ok (.isub, 1) := by decide +kernel
theorem dX9_addReport_63 : decode cX9_addReport 63 = .ok (.ireturn, 1) := by decide +kernel
theorem dX9_isSo_0 : decode cX9_isSo 0 = .ok (.iload_n 1, 1) := by decide +kernel
theorem dX9_isSo_1 : decode cX9_isSo 1 = .ok (.iconst 4, 1) := by decide +kernel
theorem dX9_isSo_2 : decode cX9_isSo 2 = .ok (.imul, 1) := by decide +kernel
theorem dX9_isSo_3 : decode cX9_isSo 3 = .ok (.istore 4, 2) := by decide +kernel
theorem dX9_isSo_5 : decode cX9_isSo 5 = .ok (.aload_n 0, 1) := by decide +kernel
theorem dX9_isSo_6 : decode cX9_isSo 6 = .ok (.getfield 60, 3) := by decide +kernel
theorem dX9_isSo_9 : decode cX9_isSo 9 = .ok (.iload 4, 2) := by decide +kernel
theorem dX9_isSo_11 : decode cX9_isSo 11 = .ok (.iconst 1, 1) := by decide +kernel
theorem dX9_isSo_12 : decode cX9_isSo 12 = .ok (.iadd, 1) := by decide +kernel
theorem dX9_isSo_13 : decode cX9_isSo 13 = .ok (.iaload, 1) := by decide +kernel
theorem dX9_isSo_14 : decode cX9_isSo 14 = .ok (.iload_n 2, 1) := by decide +kernel
theorem dX9_isSo_15 : decode cX9_isSo 15 = .ok (.isub, 1) := by decide +kernel
theorem dX9_isSo_16 : decode cX9_isSo 16 = .ok (.invokestatic 112, 3) := by decide +kernel
theorem dX9_isSo_19 : decode cX9_isSo 19 = .ok (.istore 5, 2) := by decide +kernel
theorem dX9_isSo_21 : decode cX9_isSo 21 = .ok (.aload_n 0, 1) := by decide +kernel
theorem dX9_isSo_22 : decode cX9_isSo 22 = .ok (.getfield 27, 3) := by decide +kernel
theorem dX9_isSo_25 : decode cX9_isSo 25 = .ok (.aload_n 0, 1) := by decide +kernel
theorem dX9_isSo_26 : decode cX9_isSo 26 = .ok (.getfield 60, 3) := by decide +kernel
theorem dX9_isSo_29 : decode cX9_isSo 29 = .ok (.iload 4, 2) := by decide +kernel
theorem dX9_isSo_31 : decode cX9_isSo 31 = .ok (.iaload, 1) := by decide +kernel
theorem dX9_isSo_32 : decode cX9_isSo 32 = .ok (.aaload, 1) := by decide +kernel
theorem dX9_isSo_33 : decode cX9_isSo 33 = .ok (.iload_n 3, 1) := by decide +kernel
theorem dX9_isSo_34 : decode cX9_isSo 34 = .ok (.iload 5, 2) := by decide +kernel
theorem dX9_isSo_36 : decode cX9_isSo 36 = .ok (.iconst 5, 1) := by decide +kernel
theorem dX9_isSo_37 : decode cX9_isSo 37 = .ok (.iconst 0, 1) := by decide +kernel
theorem dX9_isSo_38 : decode cX9_isSo 38 = .ok (.invokevirtual 118, 3) := by decide +kernel
theorem dX9_isSo_41 : decode cX9_isSo 41 = .ok (.istore 6, 2) := by decide +kernel
theorem dX9_isSo_43 : decode cX9_isSo 43 = .ok (.iload 6, 2) := by decide +kernel
theorem dX9_isSo_45 : decode cX9_isSo 45 = .ok (.aload_n 0, 1) := by decide +kernel
theorem dX9_isSo_46 : decode cX9_isSo 46 = .ok (.getfield 60, 3) := by decide +kernel
theorem dX9_isSo_49 : decode cX9_isSo 49 = .ok (.iload 4, 2) := by decide +kernel
theorem dX9_isSo_51 : decode cX9_isSo 51 = .ok (.iconst 2, 1) := by decide +kernel
theorem dX9_isSo_52 : decode cX9_isSo 52 = .ok (.iadd, 1) := by decide +kernel
theorem dX9_isSo_53 : decode cX9_isSo 53 = .ok (.iaload, 1) := by decide +kernel
theorem dX9_isSo_54 : decode cX9_isSo 54 = .ok (.if_icmp .lt 21, 3) := by decide +kernel
theorem dX9_isSo_57 : decode cX9_isSo 57 = .ok (.iload 6, 2) := by decide +kernel
theorem dX9_isSo_59 : decode cX9_isSo 59 = .ok (.aload_n 0, 1) := by decide +kernel
theorem dX9_isSo_60 : decode cX9_isSo 60 = .ok (.getfield 60, 3) := by decide +kernel
theorem dX9_isSo_63 : decode cX9_isSo 63 = .ok (.iload 4, 2) := by decide +kernel
theorem dX9_isSo_65 : decode cX9_isSo 65 = .ok (.iconst 3, 1) := by decide +kernel
theorem dX9_isSo_66 : decode cX9_isSo 66 = .ok (.iadd, 1) := by decide +kernel
theorem dX9_isSo_67 : decode cX9_isSo 67 = .ok (.iaload, 1) := by decide +kernel
theorem dX9_isSo_68 : decode cX9_isSo 68 = .ok (.if_icmp .gt 7, 3) := by decide +kernel
theorem dX9_isSo_71 : decode cX9_isSo 71 = .ok (.iconst 1, 1) := by decide +kernel
theorem dX9_isSo_72 : decode cX9_isSo 72 = .ok (.goto 4, 3) := by decide +kernel
theorem dX9_isSo_75 : decode cX9_isSo 75 = .ok (.iconst 0, 1) := by decide +kernel
theorem dX9_isSo_76 : decode cX9_isSo 76 = .ok (.ireturn, 1) := by decide +kernel
theorem dX9_fits_0 : decode cX9_fits 0 = .ok (.iconst 0, 1) := by decide +kernel
theorem dX9_fits_1 : decode cX9_fits 1 = .ok (.istore 4, 2) := by decide +kernel
theorem dX9_fits_3 : decode cX9_fits 3 = .ok (.iload 4, 2) := by decide +kernel
theorem dX9_fits_5 : decode cX9_fits 5 = .ok (.aload_n 0, 1) := by decide +kernel
theorem dX9_fits_6 : decode cX9_fits 6 = .ok (.getfield 95, 3) := by decide +kernel
theorem dX9_fits_9 : decode cX9_fits 9 = .ok (.if_icmp .ge 28, 3) := by decide +kernel
theorem dX9_fits_12 : decode cX9_fits 12 = .ok (.iload 4, 2) := by decide +kernel
theorem dX9_fits_14 : decode cX9_fits 14 = .ok (.iload_n 3, 1) := by decide +kernel
theorem dX9_fits_15 : decode cX9_fits 15 = .ok (.if_icmp .eq 16, 3) := by decide +kernel
theorem dX9_fits_18 : decode cX9_fits 18 = .ok (.aload_n 0, 1) := by decide +kernel
theorem dX9_fits_19 : decode cX9_fits 19 = .ok (.iload 4, 2) := by decide +kernel
theorem dX9_fits_21 : decode cX9_fits 21 = .ok (.iload_n 1, 1) := by decide +kernel
theorem dX9_fits_22 : decode cX9_fits 22 = .ok (.iload_n 2, 1) := by decide +kernel
theorem dX9_fits_23 : decode cX9_fits 23 = .ok (.invokevirtual 163, 3) := by decide +kernel
theorem dX9_fits_26 : decode cX9_fits 26 = .ok (.ifCond .ne 5, 3) := by decide +kernel
theorem dX9_fits_29 : decode cX9_fits 29 = .ok (.iconst 0, 1) := by decide +kernel
theorem dX9_fits_30 : decode cX9_fits 30 = .ok (.ireturn, 1) := by decide +kernel
theorem dX9_fits_31 : decode cX9_fits 31 = .ok (.iinc 4 1, 3) := by decide +kernel
theorem dX9_fits_34 : decode cX9_fits 34 = .ok (.goto (-31), 3) := by decide +kernel
theorem dX9_fits_37 : decode cX9_fits 37 = .ok (.iconst 1, 1) := by decide +kernel
theorem dX9_fits_38 : decode cX9_fits 38 = .ok (.ireturn, 1) := by decide +kernel
theorem dX9_fitting_0 : decode cX9_fitting 0 = .ok (.iconst 0, 1) := by decide +kernel
theorem dX9_fitting_1 : decode cX9_fitting 1 = .ok (.istore_n 2, 1) := by decide +kernel
theorem dX9_fitting_2 : decode cX9_fitting 2 = .ok (.iconst 0, 1) := by decide +kernel
theorem dX9_fitting_3 : decode cX9_fitting 3 = .ok (.istore_n 3, 1) := by decide +kernel
theorem dX9_fitting_4 : decode cX9_fitting 4 = .ok (.iload_n 3, 1) := by decide +kernel
theorem dX9_fitting_5 : decode cX9_fitting 5 = .ok (.sipush 160, 3) := by decide +kernel
theorem dX9_fitting_8 : decode cX9_fitting 8 = .ok (.if_icmp .ge 28, 3) := by decide +kernel
theorem dX9_fitting_11 : decode cX9_fitting 11 = .ok (.aload_n 0, 1) := by decide +kernel
theorem dX9_fitting_12 : decode cX9_fitting 12 = .ok (.iload_n 3, 1) := by decide +kernel
theorem dX9_fitting_13 : decode cX9_fitting 13 = .ok (.bipush 10, 2) := by decide +kernel
theorem dX9_fitting_15 : decode cX9_fitting 15 = .ok (.idiv, 1) := by decide +kernel
theorem dX9_fitting_16 : decode cX9_fitting 16 = .ok (.iload_n 3, 1) := by decide +kernel
theorem dX9_fitting_17 : decode cX9_fitting 17 = .ok (.bipush 10, 2) := by decide +kernel
theorem dX9_fitting_19 : decode cX9_fitting 19 = .ok (.irem, 1) := by decide +kernel
theorem dX9_fitting_20 : decode cX9_fitting 20 = .ok (.iload_n 1, 1) := by decide +kernel
theorem dX9_fitting_21 : decode cX9_fitting 21 = .ok (.invokevirtual 167, 3) := by decide +kernel
theorem dX9_fitting_24 : decode cX9_fitting 24 = .ok (.ifCond .eq 6, 3) := by decide +kernel
theorem dX9_fitting_27 : decode cX9_fitting 27 = .ok (.iinc 2 1, 3) := by decide +kernel
theorem dX9_fitting_30 : decode cX9_fitting 30 = .ok (.iinc 3 1, 3) := by decide +kernel
theorem dX9_fitting_33 : decode cX9_fitting 33 = .ok (.goto (-29), 3) := by decide +kernel
theorem dX9_fitting_36 : decode cX9_fitting 36 = .ok (.iload_n 2, 1) := by decide +kernel
theorem dX9_fitting_37 : decode cX9_fitting 37 = .ok (.ireturn, 1) := by decide +kernel
theorem dX9_firstFitting_0 : decode cX9_firstFitting 0 = .ok (.iconst 0, 1) := by decide +kernel
theorem dX9_firstFitting_1 : decode cX9_firstFitting 1 = .ok (.istore_n 2, 1) := by decide +kernel
theorem dX9_firstFitting_2 : decode cX9_firstFitting 2 = .ok (.iload_n 2, 1) := by decide +kernel
theorem dX9_firstFitting_3 : decode cX9_firstFitting 3 = .ok (.sipush 160, 3) := by decide +kernel
theorem dX9_firstFitting_6 : decode cX9_firstFitting 6 = .ok (.if_icmp .ge 27, 3) := by decide +kernel
theorem dX9_firstFitting_9 : decode cX9_firstFitting 9 = .ok (.aload_n 0, 1) := by decide +kernel
theorem dX9_firstFitting_10 : decode cX9_firstFitting 10 = .ok (.iload_n 2, 1) := by decide +kernel
theorem dX9_firstFitting_11 : decode cX9_firstFitting 11 = .ok (.bipush 10, 2) := by decide +kernel
theorem dX9_firstFitting_13 : decode cX9_firstFitting 13 = .ok (.idiv, 1) := by decide +kernel
theorem dX9_firstFitting_14 : decode cX9_firstFitting 14 = .ok (.iload_n 2, 1) := by decide +kernel
theorem dX9_firstFitting_15 : decode cX9_firstFitting 15 = .ok (.bipush 10, 2) := by decide +kernel
theorem dX9_firstFitting_17 : decode cX9_firstFitting 17 = .ok (.irem, 1) := by decide +kernel
theorem dX9_firstFitting_18 : decode cX9_firstFitting 18 = .ok (.iload_n 1, 1) := by decide +kernel
theorem dX9_firstFitting_19 : decode cX9_firstFitting 19 = .ok (.invokevirtual 167, 3) := by decide +kernel
theorem dX9_firstFitting_22 : decode cX9_firstFitting 22 = .ok (.ifCond .eq 5, 3) := by decide +kernel
theorem dX9_firstFitting_25 : decode cX9_firstFitting 25 = .ok (.iload_n 2, 1) := by decide +kernel
theorem dX9_firstFitting_26 : decode cX9_firstFitting 26 = .ok (.ireturn, 1) := by decide +kernel
theorem dX9_firstFitting_27 : decode cX9_firstFitting 27 = .ok (.iinc 2 1, 3) := by decide +kernel
theorem dX9_firstFitting_30 : decode cX9_firstFitting 30 = .ok (.goto (-28), 3) := by decide +kernel
theorem dX9_firstFitting_33 : decode cX9_firstFitting 33 = .ok (.iconst (-1), 1) := by decide +kernel
theorem dX9_firstFitting_34 : decode cX9_firstFitting 34 = .ok (.ireturn, 1) := by decide +kernel
theorem dX10_init_0 : decode cX10_init 0 = .ok (.aload_n 0, 1) := by decide +kernel
theorem dX10_init_1 : decode cX10_init 1 = .ok (.invokespecial 1, 3) := by decide +kernel
theorem dX10_init_4 : decode cX10_init 4 = .ok (.return_, 1) := by decide +kernel
theorem dX10_yearns_0 : decode cX10_yearns 0 = .ok (.aload_n 0, 1) := by decide +kernel
theorem dX10_yearns_1 : decode cX10_yearns 1 = .ok (.iload_n 1, 1) := by decide +kernel
theorem dX10_yearns_2 : decode cX10_yearns 2 = .ok (.iload_n 2, 1) := by decide +kernel
theorem dX10_yearns_3 : decode cX10_yearns 3 = .ok (.iload_n 3, 1) := by decide +kernel
theorem dX10_yearns_4 : decode cX10_yearns 4 = .ok (.iload 4, 2) := by decide +kernel
theorem dX10_yearns_6 : decode cX10_yearns 6 = .ok (.invokespecial 7, 3) := by decide +kernel
theorem dX10_yearns_9 : decode cX10_yearns 9 = .ok (.iconst 3, 1) := by decide +kernel
theorem dX10_yearns_10 : decode cX10_yearns 10 = .ok (.isub, 1) := by decide +kernel
theorem dX10_yearns_11 : decode cX10_yearns 11 = .ok (.ireturn, 1) := by decide +kernel
theorem dX10_bakes_0 : decode cX10_bakes 0 = .ok (.aload_n 0, 1) := by decide +kernel
theorem dX10_bakes_1 : decode cX10_bakes 1 = .ok (.iload_n 1, 1) := by decide +kernel
theorem dX10_bakes_2 : decode cX10_bakes 2 = .ok (.iload_n 2, 1) := by decide +kernel
theorem dX10_bakes_3 : decode cX10_bakes 3 = .ok (.invokespecial 11, 3) := by decide +kernel
theorem dX10_bakes_6 : decode cX10_bakes 6 = .ok (.iconst 2, 1) := by decide +kernel
theorem dX10_bakes_7 : decode cX10_bakes 7 = .ok (.idiv, 1) := by decide +kernel
theorem dX10_bakes_8 : decode cX10_bakes 8 = .ok (.ireturn, 1) := by decide +kernel
theorem dX10_glows_0 : decode cX10_glows 0 = .ok (.aload_n 1, 1) := by decide +kernel
theorem dX10_glows_1 : decode cX10_glows 1 = .ok (.bipush 20, 2) := by decide +kernel
theorem dX10_glows_3 : decode cX10_glows 3 = .ok (.invokevirtual 15, 3) := by decide +kernel
theorem dX10_glows_6 : decode cX10_glows 6 = .ok (.aload_n 0, 1) := by decide +kernel
theorem dX10_glows_7 : decode cX10_glows 7 = .ok (.aload_n 1, 1) := by decide +kernel
theorem dX10_glows_8 : decode cX10_glows 8 = .ok (.iload_n 2, 1) := by decide +kernel
theorem dX10_glows_9 : decode cX10_glows 9 = .ok (.invokespecial 21, 3) := by decide +kernel
theorem dX10_glows_12 : decode cX10_glows 12 = .ok (.iconst 2, 1) := by decide +kernel
theorem dX10_glows_13 : decode cX10_glows 13 = .ok (.imul, 1) := by decide +kernel
theorem dX10_glows_14 : decode cX10_glows 14 = .ok (.ireturn, 1) := by decide +kernel
theorem dX11_init_0 : decode cX11_init 0 = .ok (.aload_n 0, 1) := by decide +kernel
theorem dX11_init_1 : decode cX11_init 1 = .ok (.invokespecial 1, 3) := by decide +kernel
theorem dX11_init_4 : decode cX11_init 4 = .ok (.aload_n 0, 1) := by decide +kernel
theorem dX11_init_5 : decode cX11_init 5 = .ok (.new 7, 3) := by decide +kernel
theorem dX11_init_8 : decode cX11_init 8 = .ok (.dup, 1) := by decide +kernel
theorem dX11_init_9 : decode cX11_init 9 = .ok (.invokespecial 9, 3) := by decide +kernel
theorem dX11_init_12 : decode cX11_init 12 = .ok (.putfield 10, 3) := by decide +kernel
theorem dX11_init_15 : decode cX11_init 15 = .ok (.aload_n 0, 1) := by decide +kernel
theorem dX11_init_16 : decode cX11_init 16 = .ok (.new 7, 3) := by decide +kernel
theorem dX11_init_19 : decode cX11_init 19 = .ok (.dup, 1) := by decide +kernel
theorem dX11_init_20 : decode cX11_init 20 = .ok (.invokespecial 9, 3) := by decide +kernel
theorem dX11_init_23 : decode cX11_init 23 = .ok (.putfield 16, 3) := by decide +kernel
theorem dX11_init_26 : decode cX11_init 26 = .ok (.aload_n 0, 1) := by decide +kernel
theorem dX11_init_27 : decode cX11_init 27 = .ok (.new 19, 3) := by decide +kernel
theorem dX11_init_30 : decode cX11_init 30 = .ok (.dup, 1) := by decide +kernel
theorem dX11_init_31 : decode cX11_init 31 = .ok (.invokespecial 21, 3) := by decide +kernel
theorem dX11_init_34 : decode cX11_init 34 = .ok (.putfield 22, 3) := by decide +kernel
theorem dX11_init_37 : decode cX11_init 37 = .ok (.aload_n 0, 1) := by decide +kernel
theorem dX11_init_38 : decode cX11_init 38 = .ok (.new 26, 3) := by decide +kernel
theorem dX11_init_41 : decode cX11_init 41 = .ok (.dup, 1) := by decide +kernel
theorem dX11_init_42 : decode cX11_init 42 = .ok (.invokespecial 28, 3) := by decide +kernel
theorem dX11_init_45 : decode cX11_init 45 = .ok (.putfield 29, 3) := by decide +kernel
theorem dX11_init_48 : decode cX11_init 48 = .ok (.aload_n 0, 1) := by decide +kernel
theorem dX11_init_49 : decode cX11_init 49 = .ok (.bipush 12, 2) := by decide +kernel
theorem dX11_init_51 : decode cX11_init 51 = .ok (.newarray .int, 2) := by decide +kernel
theorem dX11_init_53 : decode cX11_init 53 = .ok (.putfield 33, 3) := by decide +kernel
theorem dX11_init_56 : decode cX11_init 56 = .ok (.aload_n 0, 1) := by decide +kernel
theorem dX11_init_57 : decode cX11_init 57 = .ok (.iconst 4, 1) := by decide +kernel
theorem dX11_init_58 : decode cX11_init 58 = .ok (.newarray .int, 2) := by decide +kernel
theorem dX11_init_60 : decode cX11_init 60 = .ok (.dup, 1) := by decide +kernel
theorem dX11_init_61 : decode cX11_init 61 = .ok (.iconst 0, 1) := by decide +kernel
theorem dX11_init_62 : decode cX11_init 62 = .ok (.iconst (-1), 1) := by decide +kernel
theorem dX11_init_63 : decode cX11_init 63 = .ok (.iastore, 1) := by decide +kernel
theorem dX11_init_64 : decode cX11_init 64 = .ok (.dup, 1) := by decide +kernel
theorem dX11_init_65 : decode cX11_init 65 = .ok (.iconst 1, 1) := by decide +kernel
theorem dX11_init_66 : decode cX11_init 66 = .ok (.iconst (-1), 1) := by decide +kernel
theorem dX11_init_67 : decode cX11_init 67 = .ok (.iastore, 1) := by decide +kernel
theorem dX11_init_68 : decode cX11_init 68 = .ok (.dup, 1) := by decide +kernel
theorem dX11_init_69 : decode cX11_init 69 = .ok (.iconst 2, 1) := by decide +kernel
theorem dX11_init_70 : decode cX11_init 70 = .ok (.iconst (-1), 1) := by decide +kernel
theorem dX11_init_71 : decode cX11_init 71 = .ok (.iastore, 1) := by decide +kernel
theorem dX11_init_72 : decode cX11_init 72 = .ok (.dup, 1) := by decide +kernel
theorem dX11_init_73 : decode cX11_init 73 = .ok (.iconst 3, 1) := by decide +kernel
theorem dX11_init_74 : decode cX11_init 74 = .ok (.iconst (-1), 1) := by decide +kernel
theorem dX11_init_75 : decode cX11_init 75 = .ok (.iastore, 1) := by decide +kernel
theorem dX11_init_76 : decode cX11_init 76 = .ok (.putfield 37, 3) := by decide +kernel
theorem dX11_init_79 : decode cX11_init 79 = .ok (.aload_n 0, 1) := by decide +kernel
theorem dX11_init_80 : decode cX11_init 80 = .ok (.iconst 4, 1) := by decide +kernel
theorem dX11_init_81 : decode cX11_init 81 = .ok (.newarray .int, 2) := by decide +kernel
theorem dX11_init_83 : decode cX11_init 83 = .ok (.putfield 40, 3) := by decide +kernel
theorem dX11_init_86 : decode cX11_init 86 = .ok (.aload_n 0, 1) := by decide +kernel
theorem dX11_init_87 : decode cX11_init 87 = .ok (.iconst 4, 1) := by decide +kernel
theorem dX11_init_88 : decode cX11_init 88 = .ok (.bipush 40, 2) := by decide +kernel
theorem dX11_init_90 : decode cX11_init 90 = .ok (.multianewarray 43 2, 4) := by decide +kernel
theorem dX11_init_94 : decode cX11_init 94 = .ok (.putfield 45, 3) := by decide +kernel
theorem dX11_init_97 : decode cX11_init 97 = .ok (.aload_n 0, 1) := by decide +kernel
theorem dX11_init_98 : decode cX11_init 98 = .ok (.iconst 4, 1) := by decide +kernel
theorem dX11_init_99 : decode cX11_init 99 = .ok (.newarray .int, 2) := by decide +kernel
theorem dX11_init_101 : decode cX11_init 101 = .ok (.dup, 1) := by decide +kernel
theorem dX11_init_102 : decode cX11_init 102 = .ok (.iconst 0, 1) := by decide +kernel
theorem dX11_init_103 : decode cX11_init 103 = .ok (.iconst 2, 1) := by decide +kernel
theorem dX11_init_104 : decode cX11_init 104 = .ok (.iastore, 1) := by decide +kernel
theorem dX11_init_105 : decode cX11_init 105 = .ok (.dup, 1) := by decide +kernel
theorem dX11_init_106 : decode cX11_init 106 = .ok (.iconst 1, 1) := by decide +kernel
theorem dX11_init_107 : decode cX11_init 107 = .ok (.iconst 2, 1) := by decide +kernel
theorem dX11_init_108 : decode cX11_init 108 = .ok (.iastore, 1) := by decide +kernel
theorem dX11_init_109 : decode cX11_init 109 = .ok (.dup, 1) := by decide +kernel
theorem dX11_init_110 : decode cX11_init 110 = .ok (.iconst 2, 1) := by decide +kernel
theorem dX11_init_111 : decode cX11_init 111 = .ok (.iconst 2, 1) := by decide +kernel
theorem dX11_init_112 : decode cX11_init 112 = .ok (.iastore, 1) := by decide +kernel
theorem dX11_init_113 : decode cX11_init 113 = .ok (.dup, 1) := by decide +kernel
theorem dX11_init_114 : decode cX11_init 114 = .ok (.iconst 3, 1) := by decide +kernel
theorem dX11_init_115 : decode cX11_init 115 = .ok (.iconst 2, 1) := by decide +kernel
theorem dX11_init_116 : decode cX11_init 116 = .ok (.iastore, 1) := by decide +kernel
theorem dX11_init_117 : decode cX11_init 117 = .ok (.putfield 48, 3) := by decide +kernel
theorem dX11_init_120 : decode cX11_init 120 = .ok (.aload_n 0, 1) := by decide +kernel
theorem dX11_init_121 : decode cX11_init 121 = .ok (.iconst 4, 1) := by decide +kernel
theorem dX11_init_122 : decode cX11_init 122 = .ok (.newarray .int, 2) := by decide +kernel
theorem dX11_init_124 : decode cX11_init 124 = .ok (.putfield 51, 3) := by decide +kernel
theorem dX11_init_127 : decode cX11_init 127 = .ok (.aload_n 0, 1) := by decide +kernel
theorem dX11_init_128 : decode cX11_init 128 = .ok (.iconst 4, 1) := by decide +kernel
theorem dX11_init_129 : decode cX11_init 129 = .ok (.newarray .int, 2) := by decide +kernel
theorem dX11_init_131 : decode cX11_init 131 = .ok (.putfield 54, 3) := by decide +kernel
theorem dX11_init_134 : decode cX11_init 134 = .ok (.return_, 1) := by decide +kernel
theorem dX11_oven_0 : decode cX11_oven 0 = .ok (.iload_n 1, 1) := by decide +kernel
theorem dX11_oven_1 : decode cX11_oven 1 = .ok (.invokestatic 57, 3) := by decide +kernel
theorem dX11_oven_4 : decode cX11_oven 4 = .ok (.ifCond .eq 25, 3) := by decide +kernel
theorem dX11_oven_7 : decode cX11_oven 7 = .ok (.iload_n 2, 1) := by decide +kernel
theorem dX11_oven_8 : decode cX11_oven 8 = .ok (.invokestatic 61, 3) := by decide +kernel
theorem dX11_oven_11 : decode cX11_oven 11 = .ok (.ifCond .eq 18, 3) := by decide +kernel
theorem dX11_oven_14 : decode cX11_oven 14 = .ok (.iload_n 3, 1) := by decide +kernel
theorem dX11_oven_15 : decode cX11_oven 15 = .ok (.invokestatic 64, 3) := by decide +kernel
theorem dX11_oven_18 : decode cX11_oven 18 = .ok (.ifCond .eq 11, 3) := by decide +kernel
theorem dX11_oven_21 : decode cX11_oven 21 = .ok (.iload 4, 2) := by decide +kernel
theorem dX11_oven_23 : decode cX11_oven 23 = .ok (.invokestatic 67, 3) := by decide +kernel
theorem dX11_oven_26 : decode cX11_oven 26 = .ok (.ifCond .ne 5, 3) := by decide +kernel
theorem dX11_oven_29 : decode cX11_oven 29 = .ok (.iconst (-1), 1) := by decide +kernel
theorem dX11_oven_30 : decode cX11_oven 30 = .ok (.ireturn, 1) := by decide +kernel
theorem dX11_oven_31 : decode cX11_oven 31 = .ok (.aload_n 0, 1) := by decide +kernel
theorem dX11_oven_32 : decode cX11_oven 32 = .ok (.getfield 10, 3) := by decide +kernel
theorem dX11_oven_35 : decode cX11_oven 35 = .ok (.getfield 70, 3) := by decide +kernel
theorem dX11_oven_38 : decode cX11_oven 38 = .ok (.bipush 6, 2) := by decide +kernel
theorem dX11_oven_40 : decode cX11_oven 40 = .ok (.if_icmp .lt 6, 3) := by decide +kernel
theorem dX11_oven_43 : decode cX11_oven 43 = .ok (.bipush (-2), 2) := by decide +kernel
theorem dX11_oven_45 : decode cX11_oven 45 = .ok (.ireturn, 1) := by decide +kernel
theorem dX11_oven_46 : decode cX11_oven 46 = .ok (.aload_n 0, 1) := by decide +kernel
theorem dX11_oven_47 : decode cX11_oven 47 = .ok (.getfield 10, 3) := by decide +kernel
theorem dX11_oven_50 : decode cX11_oven 50 = .ok (.iload_n 1, 1) := by decide +kernel
theorem dX11_oven_51 : decode cX11_oven 51 = .ok (.iload_n 2, 1) := by decide +kernel
theorem dX11_oven_52 : decode cX11_oven 52 = .ok (.iload_n 3, 1) := by decide +kernel
theorem dX11_oven_53 : decode cX11_oven 53 = .ok (.iload 4, 2) := by decide +kernel
theorem dX11_oven_55 : decode cX11_oven 55 = .ok (.invokevirtual 74, 3) := by decide +kernel
theorem dX11_oven_58 : decode cX11_oven 58 = .ok (.ireturn, 1) := by decide +kernel
theorem dX11_ovenOf_0 : decode cX11_ovenOf 0 = .ok (.aload_n 0, 1) := by decide +kernel
theorem dX11_ovenOf_1 : decode cX11_ovenOf 1 = .ok (.iload_n 1, 1) := by decide +kernel
theorem dX11_ovenOf_2 : decode cX11_ovenOf 2 = .ok (.invokevirtual 78, 3) := by decide +kernel
theorem dX11_ovenOf_5 : decode cX11_ovenOf 5 = .ok (.ifCond .ne 5, 3) := by decide +kernel
theorem dX11_ovenOf_8 : decode cX11_ovenOf 8 = .ok (.iconst (-1), 1) := by decide +kernel
theorem dX11_ovenOf_9 : decode cX11_ovenOf 9 = .ok (.ireturn, 1) := by decide +kernel
theorem dX11_ovenOf_10 : decode cX11_ovenOf 10 = .ok (.iload_n 2, 1) := by decide +kernel
theorem dX11_ovenOf_11 : decode cX11_ovenOf 11 = .ok (.tableswitch 171 0 7 #[45, 55, 65, 75, 85, 101, 117, 133], 45) := by decide +kernel
theorem dX11_ovenOf_56 : decode cX11_ovenOf 56 = .ok (.aload_n 0, 1) := by decide +kernel
theorem dX11_ovenOf_57 : decode cX11_ovenOf 57 = .ok (.getfield 10, 3) := by decide +kernel
theorem dX11_ovenOf_60 : decode cX11_ovenOf 60 = .ok (.getfield 81, 3) := by decide +kernel
theorem dX11_ovenOf_63 : decode cX11_ovenOf 63 = .ok (.iload_n 1, 1) := by decide +kernel
theorem dX11_ovenOf_64 : decode cX11_ovenOf 64 = .ok (.iaload, 1) := by decide +kernel
theorem dX11_ovenOf_65 : decode cX11_ovenOf 65 = .ok (.ireturn, 1) := by decide +kernel
theorem dX11_ovenOf_66 : decode cX11_ovenOf 66 = .ok (.aload_n 0, 1) := by decide +kernel
theorem dX11_ovenOf_67 : decode cX11_ovenOf 67 = .ok (.getfield 10, 3) := by decide +kernel
theorem dX11_ovenOf_70 : decode cX11_ovenOf 70 = .ok (.getfield 84, 3) := by decide +kernel
theorem dX11_ovenOf_73 : decode cX11_ovenOf 73 = .ok (.iload_n 1, 1) := by decide +kernel
theorem dX11_ovenOf_74 : decode cX11_ovenOf 74 = .ok (.iaload, 1) := by decide +kernel
theorem dX11_ovenOf_75 : decode cX11_ovenOf 75 = .ok (.ireturn, 1) := by decide +kernel
theorem dX11_ovenOf_76 : decode cX11_ovenOf 76 = .ok (.aload_n 0, 1) := by decide +kernel
theorem dX11_ovenOf_77 : decode cX11_ovenOf 77 = .ok (.getfield 10, 3) := by decide +kernel
theorem dX11_ovenOf_80 : decode cX11_ovenOf 80 = .ok (.getfield 87, 3) := by decide +kernel
theorem dX11_ovenOf_83 : decode cX11_ovenOf 83 = .ok (.iload_n 1, 1) := by decide +kernel
theorem dX11_ovenOf_84 : decode cX11_ovenOf 84 = .ok (.iaload, 1) := by decide +kernel
theorem dX11_ovenOf_85 : decode cX11_ovenOf 85 = .ok (.ireturn, 1) := by decide +kernel
theorem dX11_ovenOf_86 : decode cX11_ovenOf 86 = .ok (.aload_n 0, 1) := by decide +kernel
theorem dX11_ovenOf_87 : decode cX11_ovenOf 87 = .ok (.getfield 10, 3) := by decide +kernel
theorem dX11_ovenOf_90 : decode cX11_ovenOf 90 = .ok (.getfield 90, 3) := by decide +kernel
theorem dX11_ovenOf_93 : decode cX11_ovenOf 93 = .ok (.iload_n 1, 1) := by decide +kernel
theorem dX11_ovenOf_94 : decode cX11_ovenOf 94 = .ok (.iaload, 1) := by decide +kernel
theorem dX11_ovenOf_95 : decode cX11_ovenOf 95 = .ok (.ireturn, 1) := by decide +kernel
theorem dX11_ovenOf_96 : decode cX11_ovenOf 96 = .ok (.aload_n 0, 1) := by decide +kernel
theorem dX11_ovenOf_97 : decode cX11_ovenOf 97 = .ok (.getfield 10, 3) := by decide +kernel
theorem dX11_ovenOf_100 : decode cX11_ovenOf 100 = .ok (.aload_n 0, 1) := by decide +kernel
theorem dX11_ovenOf_101 : decode cX11_ovenOf 101 = .ok (.getfield 10, 3) := by decide +kernel
theorem dX11_ovenOf_104 : decode cX11_ovenOf 104 = .ok (.getfield 93, 3) := by decide +kernel
theorem dX11_ovenOf_107 : decode cX11_ovenOf 107 = .ok (.iload_n 1, 1) := by decide +kernel
theorem dX11_ovenOf_108 : decode cX11_ovenOf 108 = .ok (.invokevirtual 96, 3) := by decide +kernel
theorem dX11_ovenOf_111 : decode cX11_ovenOf 111 = .ok (.ireturn, 1) := by decide +kernel
theorem dX11_ovenOf_112 : decode cX11_ovenOf 112 = .ok (.aload_n 0, 1) := by decide +kernel
theorem dX11_ovenOf_113 : decode cX11_ovenOf 113 = .ok (.getfield 10, 3) := by decide +kernel
theorem dX11_ovenOf_116 : decode cX11_ovenOf 116 = .ok (.iload_n 1, 1) := by decide +kernel
theorem dX11_ovenOf_117 : decode cX11_ovenOf 117 = .ok (.aload_n 0, 1) := by decide +kernel
theorem dX11_ovenOf_118 : decode cX11_ovenOf 118 = .ok (.getfield 10, 3) := by decide +kernel
theorem dX11_ovenOf_121 : decode cX11_ovenOf 121 = .ok (.getfield 100, 3) := by decide +kernel
theorem dX11_ovenOf_124 : decode cX11_ovenOf 124 = .ok (.invokevirtual 103, 3) := by decide +kernel
theorem dX11_ovenOf_127 : decode cX11_ovenOf 127 = .ok (.ireturn, 1) := by decide +kernel
theorem dX11_ovenOf_128 : decode cX11_ovenOf 128 = .ok (.aload_n 0, 1) := by decide +kernel
theorem dX11_ovenOf_129 : decode cX11_ovenOf 129 = .ok (.getfield 10, 3) := by decide +kernel
theorem dX11_ovenOf_132 : decode cX11_ovenOf 132 = .ok (.iload_n 1, 1) := by decide +kernel
theorem dX11_ovenOf_133 : decode cX11_ovenOf 133 = .ok (.aload_n 0, 1) := by decide +kernel
theorem dX11_ovenOf_134 : decode cX11_ovenOf 134 = .ok (.getfield 10, 3) := by decide +kernel
theorem dX11_ovenOf_137 : decode cX11_ovenOf 137 = .ok (.getfield 100, 3) := by decide +kernel
theorem dX11_ovenOf_140 : decode cX11_ovenOf 140 = .ok (.invokevirtual 106, 3) := by decide +kernel
theorem dX11_ovenOf_143 : decode cX11_ovenOf 143 = .ok (.ireturn, 1) := by decide +kernel
theorem dX11_ovenOf_144 : decode cX11_ovenOf 144 = .ok (.aload_n 0, 1) := by decide +kernel
theorem dX11_ovenOf_145 : decode cX11_ovenOf 145 = .ok (.getfield 10, 3) := by decide +kernel
theorem dX11_ovenOf_148 : decode cX11_ovenOf 148 = .ok (.iload_n 1, 1) := by decide +kernel
theorem dX11_ovenOf_149 : decode cX11_ovenOf 149 = .ok (.aload_n 0, 1) := by decide +kernel
theorem dX11_ovenOf_150 : decode cX11_ovenOf 150 = .ok (.getfield 10, 3) := by decide +kernel
theorem dX11_ovenOf_153 : decode cX11_ovenOf 153 = .ok (.aload_n 0, 1) := by decide +kernel
theorem dX11_ovenOf_154 : decode cX11_ovenOf 154 = .ok (.getfield 10, 3) := by decide +kernel
theorem dX11_ovenOf_157 : decode cX11_ovenOf 157 = .ok (.getfield 93, 3) := by decide +kernel
theorem dX11_ovenOf_160 : decode cX11_ovenOf 160 = .ok (.aload_n 0, 1) := by decide +kernel
theorem dX11_ovenOf_161 : decode cX11_ovenOf 161 = .ok (.getfield 10, 3) := by decide +kernel
theorem dX11_ovenOf_164 : decode cX11_ovenOf 164 = .ok (.getfield 100, 3) := by decide +kernel
theorem dX11_ovenOf_167 : decode cX11_ovenOf 167 = .ok (.iconst 0, 1) := by decide +kernel
theorem dX11_ovenOf_168 : decode cX11_ovenOf 168 = .ok (.invokevirtual 109, 3) := by decide +kernel
theorem dX11_ovenOf_171 : decode cX11_ovenOf 171 = .ok (.aload_n 0, 1) := by decide +kernel
theorem dX11_ovenOf_172 : decode cX11_ovenOf 172 = .ok (.getfield 10, 3) := by decide +kernel
theorem dX11_ovenOf_175 : decode cX11_ovenOf 175 = .ok (.getfield 100, 3) := by decide +kernel
theorem dX11_ovenOf_178 : decode cX11_ovenOf 178 = .ok (.invokevirtual 113, 3) := by decide +kernel
theorem dX11_ovenOf_181 : decode cX11_ovenOf 181 = .ok (.ireturn, 1) := by decide +kernel
theorem dX11_ovenOf_182 : decode cX11_ovenOf 182 = .ok (.iconst (-1), 1) := by decide +kernel
theorem dX11_ovenOf_183 : decode cX11_ovenOf 183 = .ok (.ireturn, 1) := by decide +kernel
theorem dX11_change_0 : decode cX11_change 0 = .ok (.aload_n 0, 1) := by decide +kernel
theorem dX11_change_1 : decode cX11_change 1 = .ok (.iload_n 1, 1) := by decide +kernel
theorem dX11_change_2 : decode cX11_change 2 = .ok (.invokevirtual 78, 3) := by decide +kernel
theorem dX11_change_5 : decode cX11_change 5 = .ok (.ifCond .ne 5, 3) := by decide +kernel
theorem dX11_change_8 : decode cX11_change 8 = .ok (.iconst (-1), 1) := by decide +kernel
theorem dX11_change_9 : decode cX11_change 9 = .ok (.ireturn, 1) := by decide +kernel
theorem dX11_change_10 : decode cX11_change 10 = .ok (.iload_n 2, 1) := by decide +kernel
theorem dX11_change_11 : decode cX11_change 11 = .ok (.tableswitch 137 1 4 #[29, 57, 85, 113], 29) := by decide +kernel
theorem dX11_change_40 : decode cX11_change 40 = .ok (.iload_n 3, 1) := by decide +kernel
theorem dX11_change_41 : decode cX11_change 41 = .ok (.invokestatic 61, 3) := by decide +kernel
theorem dX11_change_44 : decode cX11_change 44 = .ok (.ifCond .eq 22, 3) := by decide +kernel
theorem dX11_change_47 : decode cX11_change 47 = .ok (.aload_n 0, 1) := by decide +kernel
theorem dX11_change_48 : decode cX11_change 48 = .ok (.getfield 10, 3) := by decide +kernel
theorem dX11_change_51 : decode cX11_change 51 = .ok (.aload_n 0, 1) := by decide +kernel
theorem dX11_change_52 : decode cX11_change 52 = .ok (.getfield 10, 3) := by decide +kernel
theorem dX11_change_55 : decode cX11_change 55 = .ok (.getfield 84, 3) := by decide +kernel
theorem dX11_change_58 : decode cX11_change 58 = .ok (.iload_n 1, 1) := by decide +kernel
theorem dX11_change_59 : decode cX11_change 59 = .ok (.iload_n 3, 1) := by decide +kernel
theorem dX11_change_60 : decode cX11_change 60 = .ok (.invokevirtual 116, 3) := by decide +kernel
theorem dX11_change_63 : decode cX11_change 63 = .ok (.goto 4, 3) := by decide +kernel
theorem dX11_change_66 : decode cX11_change 66 = .ok (.iconst (-1), 1) := by decide +kernel
theorem dX11_change_67 : decode cX11_change 67 = .ok (.ireturn, 1) := by decide +kernel
theorem dX11_change_68 : decode cX11_change 68 = .ok (.iload_n 3, 1) := by decide +kernel
theorem dX11_change_69 : decode cX11_change 69 = .ok (.invokestatic 64, 3) := by decide +kernel
theorem dX11_change_72 : decode cX11_change 72 = .ok (.ifCond .eq 22, 3) := by decide +kernel
theorem dX11_change_75 : decode cX11_change 75 = .ok (.aload_n 0, 1) := by decide +kernel
theorem dX11_change_76 : decode cX11_change 76 = .ok (.getfield 10, 3) := by decide +kernel
theorem dX11_change_79 : decode cX11_change 79 = .ok (.aload_n 0, 1) := by decide +kernel
theorem dX11_change_80 : decode cX11_change 80 = .ok (.getfield 10, 3) := by decide +kernel
theorem dX11_change_83 : decode cX11_change 83 = .ok (.getfield 87, 3) := by decide +kernel
theorem dX11_change_86 : decode cX11_change 86 = .ok (.iload_n 1, 1) := by decide +kernel
theorem dX11_change_87 : decode cX11_change 87 = .ok (.iload_n 3, 1) := by decide +kernel
theorem dX11_change_88 : decode cX11_change 88 = .ok (.invokevirtual 116, 3) := by decide +kernel
theorem dX11_change_91 : decode cX11_change 91 = .ok (.goto 4, 3) := by decide +kernel
theorem dX11_change_94 : decode cX11_change 94 = .ok (.iconst (-1), 1) := by decide +kernel
theorem dX11_change_95 : decode cX11_change 95 = .ok (.ireturn, 1) := by decide +kernel
theorem dX11_change_96 : decode cX11_change 96 = .ok (.iload_n 3, 1) := by decide +kernel
theorem dX11_change_97 : decode cX11_change 97 = .ok (.invokestatic 67, 3) := by decide +kernel
theorem dX11_change_100 : decode cX11_change 100 = .ok (.ifCond .eq 22, 3) := by decide +kernel
theorem dX11_change_103 : decode cX11_change 103 = .ok (.aload_n 0, 1) := by decide +kernel
theorem dX11_change_104 : decode cX11_change 104 = .ok (.getfield 10, 3) := by decide +kernel
theorem dX11_change_107 : decode cX11_change 107 = .ok (.aload_n 0, 1) := by decide +kernel
theorem dX11_change_108 : decode cX11_change 108 = .ok (.getfield 10, 3) := by decide +kernel
theorem dX11_change_111 : decode cX11_change 111 = .ok (.getfield 90, 3) := by decide +kernel
theorem dX11_change_114 : decode cX11_change 114 = .ok (.iload_n 1, 1) := by decide +kernel
theorem dX11_change_115 : decode cX11_change 115 = .ok (.iload_n 3, 1) := by decide +kernel
theorem dX11_change_116 : decode cX11_change 116 = .ok (.invokevirtual 116, 3) := by decide +kernel
theorem dX11_change_119 : decode cX11_change 119 = .ok (.goto 4, 3) := by decide +kernel
theorem dX11_change_122 : decode cX11_change 122 = .ok (.iconst (-1), 1) := by decide +kernel
theorem dX11_change_123 : decode cX11_change 123 = .ok (.ireturn, 1) := by decide +kernel
theorem dX11_change_124 : decode cX11_change 124 = .ok (.iload_n 3, 1) := by decide +kernel
theorem dX11_change_125 : decode cX11_change 125 = .ok (.iconst 0, 1) := by decide +kernel
theorem dX11_change_126 : decode cX11_change 126 = .ok (.bipush 9, 2) := by decide +kernel
theorem dX11_change_128 : decode cX11_change 128 = .ok (.invokestatic 120, 3) := by decide +kernel
theorem dX11_change_131 : decode cX11_change 131 = .ok (.ifCond .eq 15, 3) := by decide +kernel
theorem dX11_change_134 : decode cX11_change 134 = .ok (.aload_n 0, 1) := by decide +kernel
theorem dX11_change_135 : decode cX11_change 135 = .ok (.getfield 10, 3) := by decide +kernel
theorem dX11_change_138 : decode cX11_change 138 = .ok (.iload_n 1, 1) := by decide +kernel
theorem dX11_change_139 : decode cX11_change 139 = .ok (.iload_n 3, 1) := by decide +kernel
theorem dX11_change_140 : decode cX11_change 140 = .ok (.invokevirtual 124, 3) := by decide +kernel
theorem dX11_change_143 : decode cX11_change 143 = .ok (.goto 4, 3) := by decide +kernel
theorem dX11_change_146 : decode cX11_change 146 = .ok (.iconst (-1), 1) := by decide +kernel
theorem dX11_change_147 : decode cX11_change 147 = .ok (.ireturn, 1) := by decide +kernel
theorem dX11_change_148 : decode cX11_change 148 = .ok (.iconst (-1), 1) := by decide +kernel
theorem dX11_change_149 : decode cX11_change 149 = .ok (.ireturn, 1) := by decide +kernel
theorem dX11_remake_0 : decode cX11_remake 0 = .ok (.aload_n 0, 1) := by decide +kernel
theorem dX11_remake_1 : decode cX11_remake 1 = .ok (.iload_n 1, 1) := by decide +kernel
theorem dX11_remake_2 : decode cX11_remake 2 = .ok (.invokevirtual 78, 3) := by decide +kernel
theorem dX11_remake_5 : decode cX11_remake 5 = .ok (.ifCond .eq 10, 3) := by decide +kernel
theorem dX11_remake_8 : decode cX11_remake 8 = .ok (.iload_n 2, 1) := by decide +kernel
theorem dX11_remake_9 : decode cX11_remake 9 = .ok (.invokestatic 57, 3) := by decide +kernel
theorem dX11_remake_12 : decode cX11_remake 12 = .ok (.ifCond .ne 5, 3) := by decide +kernel
theorem dX11_remake_15 : decode cX11_remake 15 = .ok (.iconst (-1), 1) := by decide +kernel
theorem dX11_remake_16 : decode cX11_remake 16 = .ok (.ireturn, 1) := by decide +kernel
theorem dX11_remake_17 : decode cX11_remake 17 = .ok (.aload_n 0, 1) := by decide +kernel
theorem dX11_remake_18 : decode cX11_remake 18 = .ok (.getfield 10, 3) := by decide +kernel
theorem dX11_remake_21 : decode cX11_remake 21 = .ok (.aload_n 0, 1) := by decide +kernel
theorem dX11_remake_22 : decode cX11_remake 22 = .ok (.getfield 10, 3) := by decide +kernel
theorem dX11_remake_25 : decode cX11_remake 25 = .ok (.getfield 81, 3) := by decide +kernel
theorem dX11_remake_28 : decode cX11_remake 28 = .ok (.iload_n 1, 1) := by decide +kernel
theorem dX11_remake_29 : decode cX11_remake 29 = .ok (.iload_n 2, 1) := by decide +kernel
theorem dX11_remake_30 : decode cX11_remake 30 = .ok (.invokevirtual 116, 3) := by decide +kernel
theorem dX11_remake_33 : decode cX11_remake 33 = .ok (.ireturn, 1) := by decide +kernel
theorem dX11_longing_0 : decode cX11_longing 0 = .ok (.aload_n 0, 1) := by decide +kernel
theorem dX11_longing_1 : decode cX11_longing 1 = .ok (.iload_n 1, 1) := by decide +kernel
theorem dX11_longing_2 : decode cX11_longing 2 = .ok (.invokevirtual 78, 3) := by decide +kernel
theorem dX11_longing_5 : decode cX11_longing 5 = .ok (.ifCond .eq 16, 3) := by decide +kernel
theorem dX11_longing_8 : decode cX11_longing 8 = .ok (.aload_n 0, 1) := by decide +kernel
theorem dX11_longing_9 : decode cX11_longing 9 = .ok (.iload_n 2, 1) := by decide +kernel
theorem dX11_longing_10 : decode cX11_longing 10 = .ok (.invokevirtual 78, 3) := by decide +kernel
theorem dX11_longing_13 : decode cX11_longing 13 = .ok (.ifCond .eq 8, 3) := by decide +kernel
theorem dX11_longing_16 : decode cX11_longing 16 = .ok (.iload_n 1, 1) := by decide +kernel
theorem dX11_longing_17 : decode cX11_longing 17 = .ok (.iload_n 2, 1) := by decide +kernel
theorem dX11_longing_18 : decode cX11_longing 18 = .ok (.if_icmp .ne 5, 3) := by decide +kernel
theorem dX11_longing_21 : decode cX11_longing 21 = .ok (.iconst (-1), 1) := by decide +kernel
theorem dX11_longing_22 : decode cX11_longing 22 = .ok (.ireturn, 1) := by decide +kernel
theorem dX11_longing_23 : decode cX11_longing 23 = .ok (.aload_n 0, 1) := by decide +kernel
theorem dX11_longing_24 : decode cX11_longing 24 = .ok (.getfield 10, 3) := by decide +kernel
theorem dX11_longing_27 : decode cX11_longing 27 = .ok (.iload_n 1, 1) := by decide +kernel
theorem dX11_longing_28 : decode cX11_longing 28 = .ok (.iload_n 2, 1) := by decide +kernel
theorem dX11_longing_29 : decode cX11_longing 29 = .ok (.invokevirtual 127, 3) := by decide +kernel
theorem dX11_longing_32 : decode cX11_longing 32 = .ok (.bipush 100, 2) := by decide +kernel
theorem dX11_longing_34 : decode cX11_longing 34 = .ok (.iadd, 1) := by decide +kernel
theorem dX11_longing_35 : decode cX11_longing 35 = .ok (.ireturn, 1) := by decide +kernel
theorem dX11_ends_0 : decode cX11_ends 0 = .ok (.iload_n 1, 1) := by decide +kernel
theorem dX11_ends_1 : decode cX11_ends 1 = .ok (.iconst 1, 1) := by decide +kernel
theorem dX11_ends_2 : decode cX11_ends 2 = .ok (.bipush 16, 2) := by decide +kernel
theorem dX11_ends_4 : decode cX11_ends 4 = .ok (.invokestatic 120, 3) := by decide +kernel
theorem dX11_ends_7 : decode cX11_ends 7 = .ok (.ifCond .ne 5, 3) := by decide +kernel
theorem dX11_ends_10 : decode cX11_ends 10 = .ok (.iconst (-1), 1) := by decide +kernel
theorem dX11_ends_11 : decode cX11_ends 11 = .ok (.ireturn, 1) := by decide +kernel
theorem dX11_ends_12 : decode cX11_ends 12 = .ok (.iload_n 1, 1) := by decide +kernel
theorem dX11_ends_13 : decode cX11_ends 13 = .ok (.aload_n 0, 1) := by decide +kernel
theorem dX11_ends_14 : decode cX11_ends 14 = .ok (.getfield 10, 3) := by decide +kernel
theorem dX11_ends_17 : decode cX11_ends 17 = .ok (.getfield 100, 3) := by decide +kernel
theorem dX11_ends_20 : decode cX11_ends 20 = .ok (.if_icmp .ge 6, 3) := by decide +kernel
theorem dX11_ends_23 : decode cX11_ends 23 = .ok (.bipush (-4), 2) := by decide +kernel
theorem dX11_ends_25 : decode cX11_ends 25 = .ok (.ireturn, 1) := by decide +kernel
theorem dX11_ends_26 : decode cX11_ends 26 = .ok (.aload_n 0, 1) := by decide +kernel
theorem dX11_ends_27 : decode cX11_ends 27 = .ok (.getfield 10, 3) := by decide +kernel
theorem dX11_ends_30 : decode cX11_ends 30 = .ok (.getfield 130, 3) := by decide +kernel
theorem dX11_ends_33 : decode cX11_ends 33 = .ok (.istore_n 2, 1) := by decide +kernel
theorem dX11_ends_34 : decode cX11_ends 34 = .ok (.aload_n 0, 1) := by decide +kernel
theorem dX11_ends_35 : decode cX11_ends 35 = .ok (.getfield 10, 3) := by decide +kernel
theorem dX11_ends_38 : decode cX11_ends 38 = .ok (.iload_n 1, 1) := by decide +kernel
theorem dX11_ends_39 : decode cX11_ends 39 = .ok (.putfield 130, 3) := by decide +kernel
theorem dX11_ends_42 : decode cX11_ends 42 = .ok (.iload_n 2, 1) := by decide +kernel
theorem dX11_ends_43 : decode cX11_ends 43 = .ok (.ireturn, 1) := by decide +kernel
theorem dX11_anew_0 : decode cX11_anew 0 = .ok (.aload_n 0, 1) := by decide +kernel
theorem dX11_anew_1 : decode cX11_anew 1 = .ok (.getfield 10, 3) := by decide +kernel
theorem dX11_anew_4 : decode cX11_anew 4 = .ok (.getfield 100, 3) := by decide +kernel
theorem dX11_anew_7 : decode cX11_anew 7 = .ok (.istore_n 1, 1) := by decide +kernel
theorem dX11_anew_8 : decode cX11_anew 8 = .ok (.aload_n 0, 1) := by decide +kernel
theorem dX11_anew_9 : decode cX11_anew 9 = .ok (.getfield 10, 3) := by decide +kernel
theorem dX11_anew_12 : decode cX11_anew 12 = .ok (.iconst 0, 1) := by decide +kernel
theorem dX11_anew_13 : decode cX11_anew 13 = .ok (.putfield 100, 3) := by decide +kernel
theorem dX11_anew_16 : decode cX11_anew 16 = .ok (.aload_n 0, 1) := by decide +kernel
theorem dX11_anew_17 : decode cX11_anew 17 = .ok (.getfield 10, 3) := by decide +kernel
theorem dX11_anew_20 : decode cX11_anew 20 = .ok (.iconst 0, 1) := by decide +kernel
theorem dX11_anew_21 : decode cX11_anew 21 = .ok (.putfield 133, 3) := by decide +kernel
theorem dX11_anew_24 : decode cX11_anew 24 = .ok (.aload_n 0, 1) := by decide +kernel
theorem dX11_anew_25 : decode cX11_anew 25 = .ok (.getfield 10, 3) := by decide +kernel
theorem dX11_anew_28 : decode cX11_anew 28 = .ok (.iconst 0, 1) := by decide +kernel
theorem dX11_anew_29 : decode cX11_anew 29 = .ok (.putfield 93, 3) := by decide +kernel
theorem dX11_anew_32 : decode cX11_anew 32 = .ok (.iload_n 1, 1) := by decide +kernel
theorem dX11_anew_33 : decode cX11_anew 33 = .ok (.ireturn, 1) := by decide +kernel
theorem dX11_state_0 : decode cX11_state 0 = .ok (.iload_n 1, 1) := by decide +kernel
theorem dX11_state_1 : decode cX11_state 1 = .ok (.tableswitch 90 0 4 #[35, 43, 51, 59, 75], 35) := by decide +kernel
theorem dX11_state_36 : decode cX11_state 36 = .ok (.aload_n 0, 1) := by decide +kernel
theorem dX11_state_37 : decode cX11_state 37 = .ok (.getfield 10, 3) := by decide +kernel
theorem dX11_state_40 : decode cX11_state 40 = .ok (.getfield 100, 3) := by decide +kernel
theorem dX11_state_43 : decode cX11_state 43 = .ok (.ireturn, 1) := by decide +kernel
theorem dX11_state_44 : decode cX11_state 44 = .ok (.aload_n 0, 1) := by decide +kernel
theorem dX11_state_45 : decode cX11_state 45 = .ok (.getfield 10, 3) := by decide +kernel
theorem dX11_state_48 : decode cX11_state 48 = .ok (.getfield 130, 3) := by decide +kernel
theorem dX11_state_51 : decode cX11_state 51 = .ok (.ireturn, 1) := by decide +kernel
theorem dX11_state_52 : decode cX11_state 52 = .ok (.aload_n 0, 1) := by decide +kernel
theorem dX11_state_53 : decode cX11_state 53 = .ok (.getfield 10, 3) := by decide +kernel
theorem dX11_state_56 : decode cX11_state 56 = .ok (.getfield 133, 3) := by decide +kernel
theorem dX11_state_59 : decode cX11_state 59 = .ok (.ireturn, 1) := by decide +kernel
theorem dX11_state_60 : decode cX11_state 60 = .ok (.aload_n 0, 1) := by decide +kernel
theorem dX11_state_61 : decode cX11_state 61 = .ok (.getfield 10, 3) := by decide +kernel
theorem dX11_state_64 : decode cX11_state 64 = .ok (.invokevirtual 136, 3) := by decide +kernel
theorem dX11_state_67 : decode cX11_state 67 = .ok (.ifCond .eq 7, 3) := by decide +kernel
theorem dX11_state_70 : decode cX11_state 70 = .ok (.iconst 1, 1) := by decide +kernel
theorem dX11_state_71 : decode cX11_state 71 = .ok (.goto 4, 3) := by decide +kernel
theorem dX11_state_74 : decode cX11_state 74 = .ok (.iconst 0, 1) := by decide +kernel
theorem dX11_state_75 : decode cX11_state 75 = .ok (.ireturn, 1) := by decide +kernel
theorem dX11_state_76 : decode cX11_state 76 = .ok (.aload_n 0, 1) := by decide +kernel
theorem dX11_state_77 : decode cX11_state 77 = .ok (.getfield 10, 3) := by decide +kernel
theorem dX11_state_80 : decode cX11_state 80 = .ok (.aload_n 0, 1) := by decide +kernel
theorem dX11_state_81 : decode cX11_state 81 = .ok (.getfield 10, 3) := by decide +kernel
theorem dX11_state_84 : decode cX11_state 84 = .ok (.getfield 93, 3) := by decide +kernel
theorem dX11_state_87 : decode cX11_state 87 = .ok (.invokevirtual 140, 3) := by decide +kernel
theorem dX11_state_90 : decode cX11_state 90 = .ok (.ireturn, 1) := by decide +kernel
theorem dX11_state_91 : decode cX11_state 91 = .ok (.iconst (-1), 1) := by decide +kernel
theorem dX11_state_92 : decode cX11_state 92 = .ok (.ireturn, 1) := by decide +kernel
theorem dX11_feed_0 : decode cX11_feed 0 = .ok (.iload_n 3, 1) := by decide +kernel
theorem dX11_feed_1 : decode cX11_feed 1 = .ok (.iconst 1, 1) := by decide +kernel
theorem dX11_feed_2 : decode cX11_feed 2 = .ok (.bipush 8, 2) := by decide +kernel
theorem dX11_feed_4 : decode cX11_feed 4 = .ok (.invokestatic 120, 3) := by decide +kernel
theorem dX11_feed_7 : decode cX11_feed 7 = .ok (.ifCond .ne 5, 3) := by decide +kernel
theorem dX11_feed_10 : decode cX11_feed 10 = .ok (.iconst (-1), 1) := by decide +kernel
theorem dX11_feed_11 : decode cX11_feed 11 = .ok (.ireturn, 1) := by decide +kernel
theorem dX11_feed_12 : decode cX11_feed 12 = .ok (.aload_n 0, 1) := by decide +kernel
theorem dX11_feed_13 : decode cX11_feed 13 = .ok (.getfield 22, 3) := by decide +kernel
theorem dX11_feed_16 : decode cX11_feed 16 = .ok (.getfield 144, 3) := by decide +kernel
theorem dX11_feed_19 : decode cX11_feed 19 = .ok (.iload_n 3, 1) := by decide +kernel
theorem dX11_feed_20 : decode cX11_feed 20 = .ok (.iadd, 1) := by decide +kernel
theorem dX11_feed_21 : decode cX11_feed 21 = .ok (.sipush 200, 3) := by decide +kernel
theorem dX11_feed_24 : decode cX11_feed 24 = .ok (.if_icmp .le 6, 3) := by decide +kernel
theorem dX11_feed_27 : decode cX11_feed 27 = .ok (.bipush (-2), 2) := by decide +kernel
theorem dX11_feed_29 : decode cX11_feed 29 = .ok (.ireturn, 1) := by decide +kernel
theorem dX11_feed_30 : decode cX11_feed 30 = .ok (.iconst 0, 1) := by decide +kernel
theorem dX11_feed_31 : decode cX11_feed 31 = .ok (.istore 4, 2) := by decide +kernel
theorem dX11_feed_33 : decode cX11_feed 33 = .ok (.iload 4, 2) := by decide +kernel
theorem dX11_feed_35 : decode cX11_feed 35 = .ok (.iload_n 3, 1) := by decide +kernel
theorem dX11_feed_36 : decode cX11_feed 36 = .ok (.if_icmp .ge 28, 3) := by decide +kernel
theorem dX11_feed_39 : decode cX11_feed 39 = .ok (.aload_n 0, 1) := by decide +kernel
theorem dX11_feed_40 : decode cX11_feed 40 = .ok (.getfield 22, 3) := by decide +kernel
theorem dX11_feed_43 : decode cX11_feed 43 = .ok (.lload_n 1, 1) := by decide +kernel
theorem dX11_feed_44 : decode cX11_feed 44 = .ok (.bipush 8, 2) := by decide +kernel
theorem dX11_feed_46 : decode cX11_feed 46 = .ok (.iload 4, 2) := by decide +kernel
theorem dX11_feed_48 : decode cX11_feed 48 = .ok (.imul, 1) := by decide +kernel
theorem dX11_feed_49 : decode cX11_feed 49 = .ok (.lushr, 1) := by decide +kernel
theorem dX11_feed_50 : decode cX11_feed 50 = .ok (.l2i, 1) := by decide +kernel
theorem dX11_feed_51 : decode cX11_feed 51 = .ok (.sipush 255, 3) := by decide +kernel
theorem dX11_feed_54 : decode cX11_feed 54 = .ok (.iand, 1) := by decide +kernel
theorem dX11_feed_55 : decode cX11_feed 55 = .ok (.invokevirtual 147, 3) := by decide +kernel
theorem dX11_feed_58 : decode cX11_feed 58 = .ok (.iinc 4 1, 3) := by decide +kernel
theorem dX11_feed_61 : decode cX11_feed 61 = .ok (.goto (-28), 3) := by decide +kernel
theorem dX11_feed_64 : decode cX11_feed 64 = .ok (.aload_n 0, 1) := by decide +kernel
theorem dX11_feed_65 : decode cX11_feed 65 = .ok (.getfield 22, 3) := by decide +kernel
theorem dX11_feed_68 : decode cX11_feed 68 = .ok (.getfield 144, 3) := by decide +kernel
theorem dX11_feed_71 : decode cX11_feed 71 = .ok (.ireturn, 1) := by decide +kernel
theorem dX11_rules_0 : decode cX11_rules 0 = .ok (.aload_n 0, 1) := by decide +kernel
theorem dX11_rules_1 : decode cX11_rules 1 = .ok (.getfield 22, 3) := by decide +kernel
theorem dX11_rules_4 : decode cX11_rules 4 = .ok (.invokevirtual 151, 3) := by decide +kernel
theorem dX11_rules_7 : decode cX11_rules 7 = .ok (.astore_n 1, 1) := by decide +kernel
theorem dX11_rules_8 : decode cX11_rules 8 = .ok (.aload_n 1, 1) := by decide +kernel
theorem dX11_rules_9 : decode cX11_rules 9 = .ok (.ifnonnull 14, 3) := by decide +kernel
theorem dX11_rules_12 : decode cX11_rules 12 = .ok (.bipush (-100), 2) := by decide +kernel
theorem dX11_rules_14 : decode cX11_rules 14 = .ok (.aload_n 0, 1) := by decide +kernel
theorem dX11_rules_15 : decode cX11_rules 15 = .ok (.getfield 22, 3) := by decide +kernel
theorem dX11_rules_18 : decode cX11_rules 18 = .ok (.getfield 155, 3) := by decide +kernel
theorem dX11_rules_21 : decode cX11_rules 21 = .ok (.isub, 1) := by decide +kernel
theorem dX11_rules_22 : decode cX11_rules 22 = .ok (.ireturn, 1) := by decide +kernel
theorem dX11_rules_23 : decode cX11_rules 23 = .ok (.aload_n 0, 1) := by decide +kernel
theorem dX11_rules_24 : decode cX11_rules 24 = .ok (.getfield 10, 3) := by decide +kernel
theorem dX11_rules_27 : decode cX11_rules 27 = .ok (.aload_n 1, 1) := by decide +kernel
theorem dX11_rules_28 : decode cX11_rules 28 = .ok (.invokevirtual 158, 3) := by decide +kernel
theorem dX11_rules_31 : decode cX11_rules 31 = .ok (.aload_n 1, 1) := by decide +kernel
theorem dX11_rules_32 : decode cX11_rules 32 = .ok (.getfield 162, 3) := by decide +kernel
theorem dX11_rules_35 : decode cX11_rules 35 = .ok (.ireturn, 1) := by decide +kernel
theorem dX11_night_0 : decode cX11_night 0 = .ok (.aload_n 0, 1) := by decide +kernel
theorem dX11_night_1 : decode cX11_night 1 = .ok (.getfield 10, 3) := by decide +kernel
theorem dX11_night_4 : decode cX11_night 4 = .ok (.invokevirtual 136, 3) := by decide +kernel
theorem dX11_night_7 : decode cX11_night 7 = .ok (.ifCond .eq 8, 3) := by decide +kernel
theorem dX11_night_10 : decode cX11_night 10 = .ok (.bipush (-4), 2) := by decide +kernel
theorem dX11_night_12 : decode cX11_night 12 = .ok (.goto 11, 3) := by decide +kernel
theorem dX11_night_15 : decode cX11_night 15 = .ok (.aload_n 0, 1) := by decide +kernel
theorem dX11_night_16 : decode cX11_night 16 = .ok (.getfield 10, 3) := by decide +kernel
theorem dX11_night_19 : decode cX11_night 19 = .ok (.iconst 0, 1) := by decide +kernel
theorem dX11_night_20 : decode cX11_night 20 = .ok (.invokevirtual 165, 3) := by decide +kernel
theorem dX11_night_23 : decode cX11_night 23 = .ok (.ireturn, 1) := by decide +kernel
theorem dX11_on_0 : decode cX11_on 0 = .ok (.iload_n 1, 1) := by decide +kernel
theorem dX11_on_1 : decode cX11_on 1 = .ok (.iconst 0, 1) := by decide +kernel
theorem dX11_on_2 : decode cX11_on 2 = .ok (.bipush 16, 2) := by decide +kernel
theorem dX11_on_4 : decode cX11_on 4 = .ok (.invokestatic 120, 3) := by decide +kernel
theorem dX11_on_7 : decode cX11_on 7 = .ok (.ifCond .eq 14, 3) := by decide +kernel
theorem dX11_on_10 : decode cX11_on 10 = .ok (.aload_n 0, 1) := by decide +kernel
theorem dX11_on_11 : decode cX11_on 11 = .ok (.getfield 10, 3) := by decide +kernel
theorem dX11_on_14 : decode cX11_on 14 = .ok (.iload_n 1, 1) := by decide +kernel
theorem dX11_on_15 : decode cX11_on 15 = .ok (.invokestatic 168, 3) := by decide +kernel
theorem dX11_on_18 : decode cX11_on 18 = .ok (.goto 4, 3) := by decide +kernel
theorem dX11_on_21 : decode cX11_on 21 = .ok (.iconst (-1), 1) := by decide +kernel
theorem dX11_on_22 : decode cX11_on 22 = .ok (.ireturn, 1) := by decide +kernel
theorem dX11_goes_0 : decode cX11_goes 0 = .ok (.aload_n 0, 1) := by decide +kernel
theorem dX11_goes_1 : decode cX11_goes 1 = .ok (.iload_n 1, 1) := by decide +kernel
theorem dX11_goes_2 : decode cX11_goes 2 = .ok (.invokevirtual 78, 3) := by decide +kernel
theorem dX11_goes_5 : decode cX11_goes 5 = .ok (.ifCond .eq 14, 3) := by decide +kernel
theorem dX11_goes_8 : decode cX11_goes 8 = .ok (.aload_n 0, 1) := by decide +kernel
theorem dX11_goes_9 : decode cX11_goes 9 = .ok (.getfield 10, 3) := by decide +kernel
theorem dX11_goes_12 : decode cX11_goes 12 = .ok (.iload_n 1, 1) := by decide +kernel
theorem dX11_goes_13 : decode cX11_goes 13 = .ok (.invokestatic 174, 3) := by decide +kernel
theorem dX11_goes_16 : decode cX11_goes 16 = .ok (.goto 4, 3) := by decide +kernel
theorem dX11_goes_19 : decode cX11_goes 19 = .ok (.iconst (-1), 1) := by decide +kernel
theorem dX11_goes_20 : decode cX11_goes 20 = .ok (.ireturn, 1) := by decide +kernel
theorem dX11_often_0 : decode cX11_often 0 = .ok (.aload_n 0, 1) := by decide +kernel
theorem dX11_often_1 : decode cX11_often 1 = .ok (.iload_n 1, 1) := by decide +kernel
theorem dX11_often_2 : decode cX11_often 2 = .ok (.invokevirtual 78, 3) := by decide +kernel
theorem dX11_often_5 : decode cX11_often 5 = .ok (.ifCond .eq 14, 3) := by decide +kernel
theorem dX11_often_8 : decode cX11_often 8 = .ok (.aload_n 0, 1) := by decide +kernel
theorem dX11_often_9 : decode cX11_often 9 = .ok (.getfield 10, 3) := by decide +kernel
theorem dX11_often_12 : decode cX11_often 12 = .ok (.iload_n 1, 1) := by decide +kernel
theorem dX11_often_13 : decode cX11_often 13 = .ok (.invokestatic 177, 3) := by decide +kernel
theorem dX11_often_16 : decode cX11_often 16 = .ok (.goto 4, 3) := by decide +kernel
theorem dX11_often_19 : decode cX11_often 19 = .ok (.iconst (-1), 1) := by decide +kernel
theorem dX11_often_20 : decode cX11_often 20 = .ok (.ireturn, 1) := by decide +kernel
theorem dX11_placeFor_0 : decode cX11_placeFor 0 = .ok (.aload_n 0, 1) := by decide +kernel
theorem dX11_placeFor_1 : decode cX11_placeFor 1 = .ok (.iload_n 1, 1) := by decide +kernel
theorem dX11_placeFor_2 : decode cX11_placeFor 2 = .ok (.invokevirtual 78, 3) := by decide +kernel
theorem dX11_placeFor_5 : decode cX11_placeFor 5 = .ok (.ifCond .eq 23, 3) := by decide +kernel
theorem dX11_placeFor_8 : decode cX11_placeFor 8 = .ok (.aload_n 0, 1) := by decide +kernel
theorem dX11_placeFor_9 : decode cX11_placeFor 9 = .ok (.getfield 10, 3) := by decide +kernel
theorem dX11_placeFor_12 : decode cX11_placeFor 12 = .ok (.aload_n 0, 1) := by decide +kernel
theorem dX11_placeFor_13 : decode cX11_placeFor 13 = .ok (.getfield 10, 3) := by decide +kernel
theorem dX11_placeFor_16 : decode cX11_placeFor 16 = .ok (.getfield 87, 3) := by decide +kernel
theorem dX11_placeFor_19 : decode cX11_placeFor 19 = .ok (.iload_n 1, 1) := by decide +kernel
theorem dX11_placeFor_20 : decode cX11_placeFor 20 = .ok (.bipush 15, 2) := by decide +kernel
theorem dX11_placeFor_22 : decode cX11_placeFor 22 = .ok (.invokestatic 180, 3) := by decide +kernel
theorem dX11_placeFor_25 : decode cX11_placeFor 25 = .ok (.goto 4, 3) := by decide +kernel
theorem dX11_placeFor_28 : decode cX11_placeFor 28 = .ok (.iconst (-1), 1) := by decide +kernel
theorem dX11_placeFor_29 : decode cX11_placeFor 29 = .ok (.ireturn, 1) := by decide +kernel
theorem dX11_warmFor_0 : decode cX11_warmFor 0 = .ok (.aload_n 0, 1) := by decide +kernel
theorem dX11_warmFor_1 : decode cX11_warmFor 1 = .ok (.iload_n 1, 1) := by decide +kernel
theorem dX11_warmFor_2 : decode cX11_warmFor 2 = .ok (.invokevirtual 78, 3) := by decide +kernel
theorem dX11_warmFor_5 : decode cX11_warmFor 5 = .ok (.ifCond .eq 23, 3) := by decide +kernel
theorem dX11_warmFor_8 : decode cX11_warmFor 8 = .ok (.aload_n 0, 1) := by decide +kernel
theorem dX11_warmFor_9 : decode cX11_warmFor 9 = .ok (.getfield 10, 3) := by decide +kernel
theorem dX11_warmFor_12 : decode cX11_warmFor 12 = .ok (.aload_n 0, 1) := by decide +kernel
theorem dX11_warmFor_13 : decode cX11_warmFor 13 = .ok (.getfield 10, 3) := by decide +kernel
theorem dX11_warmFor_16 : decode cX11_warmFor 16 = .ok (.getfield 84, 3) := by decide +kernel
theorem dX11_warmFor_19 : decode cX11_warmFor 19 = .ok (.iload_n 1, 1) := by decide +kernel
theorem dX11_warmFor_20 : decode cX11_warmFor 20 = .ok (.bipush 9, 2) := by decide +kernel
theorem dX11_warmFor_22 : decode cX11_warmFor 22 = .ok (.invokestatic 180, 3) := by decide +kernel
theorem dX11_warmFor_25 : decode cX11_warmFor 25 = .ok (.goto 4, 3) := by decide +kernel
theorem dX11_warmFor_28 : decode cX11_warmFor 28 = .ok (.iconst (-1), 1) := by decide +kernel
theorem dX11_warmFor_29 : decode cX11_warmFor 29 = .ok (.ireturn, 1) := by decide +kernel
theorem dX11_pairs_0 : decode cX11_pairs 0 = .ok (.iconst 0, 1) := by decide +kernel
theorem dX11_pairs_1 : decode cX11_pairs 1 = .ok (.istore_n 1, 1) := by decide +kernel
theorem dX11_pairs_2 : decode cX11_pairs 2 = .ok (.iconst 0, 1) := by decide +kernel
theorem dX11_pairs_3 : decode cX11_pairs 3 = .ok (.istore_n 2, 1) := by decide +kernel
theorem dX11_pairs_4 : decode cX11_pairs 4 = .ok (.iload_n 2, 1) := by decide +kernel
theorem dX11_pairs_5 : decode cX11_pairs 5 = .ok (.aload_n 0, 1) := by decide +kernel
theorem dX11_pairs_6 : decode cX11_pairs 6 = .ok (.getfield 10, 3) := by decide +kernel
theorem dX11_pairs_9 : decode cX11_pairs 9 = .ok (.getfield 70, 3) := by decide +kernel
theorem dX11_pairs_12 : decode cX11_pairs 12 = .ok (.if_icmp .ge 45, 3) := by decide +kernel
theorem dX11_pairs_15 : decode cX11_pairs 15 = .ok (.iload_n 2, 1) := by decide +kernel
theorem dX11_pairs_16 : decode cX11_pairs 16 = .ok (.iconst 1, 1) := by decide +kernel
theorem dX11_pairs_17 : decode cX11_pairs 17 = .ok (.iadd, 1) := by decide +kernel
theorem dX11_pairs_18 : decode cX11_pairs 18 = .ok (.istore_n 3, 1) := by decide +kernel
theorem dX11_pairs_19 : decode cX11_pairs 19 = .ok (.iload_n 3, 1) := by decide +kernel
theorem dX11_pairs_20 : decode cX11_pairs 20 = .ok (.aload_n 0, 1) := by decide +kernel
theorem dX11_pairs_21 : decode cX11_pairs 21 = .ok (.getfield 10, 3) := by decide +kernel
theorem dX11_pairs_24 : decode cX11_pairs 24 = .ok (.getfield 70, 3) := by decide +kernel
theorem dX11_pairs_27 : decode cX11_pairs 27 = .ok (.if_icmp .ge 24, 3) := by decide +kernel
theorem dX11_pairs_30 : decode cX11_pairs 30 = .ok (.aload_n 0, 1) := by decide +kernel
theorem dX11_pairs_31 : decode cX11_pairs 31 = .ok (.getfield 10, 3) := by decide +kernel
theorem dX11_pairs_34 : decode cX11_pairs 34 = .ok (.iload_n 2, 1) := by decide +kernel
theorem dX11_pairs_35 : decode cX11_pairs 35 = .ok (.iload_n 3, 1) := by decide +kernel
theorem dX11_pairs_36 : decode cX11_pairs 36 = .ok (.invokevirtual 184, 3) := by decide +kernel
theorem dX11_pairs_39 : decode cX11_pairs 39 = .ok (.ifCond .eq 6, 3) := by decide +kernel
theorem dX11_pairs_42 : decode cX11_pairs 42 = .ok (.iinc 1 1, 3) := by decide +kernel
theorem dX11_pairs_45 : decode cX11_pairs 45 = .ok (.iinc 3 1, 3) := by decide +kernel
theorem dX11_pairs_48 : decode cX11_pairs 48 = .ok (.goto (-29), 3) := by decide +kernel
theorem dX11_pairs_51 : decode cX11_pairs 51 = .ok (.iinc 2 1, 3) := by decide +kernel
theorem dX11_pairs_54 : decode cX11_pairs 54 = .ok (.goto (-50), 3) := by decide +kernel
theorem dX11_pairs_57 : decode cX11_pairs 57 = .ok (.iload_n 1, 1) := by decide +kernel
theorem dX11_pairs_58 : decode cX11_pairs 58 = .ok (.ireturn, 1) := by decide +kernel
theorem dX11_weddings_0 : decode cX11_weddings 0 = .ok (.iload_n 1, 1) := by decide +kernel
theorem dX11_weddings_1 : decode cX11_weddings 1 = .ok (.iconst 0, 1) := by decide +kernel
theorem dX11_weddings_2 : decode cX11_weddings 2 = .ok (.iconst 1, 1) := by decide +kernel
theorem dX11_weddings_3 : decode cX11_weddings 3 = .ok (.invokestatic 120, 3) := by decide +kernel
theorem dX11_weddings_6 : decode cX11_weddings 6 = .ok (.ifCond .ne 5, 3) := by decide +kernel
theorem dX11_weddings_9 : decode cX11_weddings 9 = .ok (.iconst (-1), 1) := by decide +kernel
theorem dX11_weddings_10 : decode cX11_weddings 10 = .ok (.ireturn, 1) := by decide +kernel
theorem dX11_weddings_11 : decode cX11_weddings 11 = .ok (.aload_n 0, 1) := by decide +kernel
theorem dX11_weddings_12 : decode cX11_weddings 12 = .ok (.getfield 10, 3) := by decide +kernel
theorem dX11_weddings_15 : decode cX11_weddings 15 = .ok (.invokestatic 188, 3) := by decide +kernel
theorem dX11_weddings_18 : decode cX11_weddings 18 = .ok (.istore_n 2, 1) := by decide +kernel
theorem dX11_weddings_19 : decode cX11_weddings 19 = .ok (.iload_n 1, 1) := by decide +kernel
theorem dX11_weddings_20 : decode cX11_weddings 20 = .ok (.ifCond .ne 11, 3) := by decide +kernel
theorem dX11_weddings_23 : decode cX11_weddings 23 = .ok (.iload_n 2, 1) := by decide +kernel
theorem dX11_weddings_24 : decode cX11_weddings 24 = .ok (.sipush 1000, 3) := by decide +kernel
theorem dX11_weddings_27 : decode cX11_weddings 27 = .ok (.idiv, 1) := by decide +kernel
theorem dX11_weddings_28 : decode cX11_weddings 28 = .ok (.goto 8, 3) := by decide +kernel
theorem dX11_weddings_31 : decode cX11_weddings 31 = .ok (.iload_n 2, 1) := by decide +kernel
theorem dX11_weddings_32 : decode cX11_weddings 32 = .ok (.sipush 1000, 3) := by decide +kernel
theorem dX11_weddings_35 : decode cX11_weddings 35 = .ok (.irem, 1) := by decide +kernel
theorem dX11_weddings_36 : decode cX11_weddings 36 = .ok (.ireturn, 1) := by decide +kernel
theorem dX11_mate_0 : decode cX11_mate 0 = .ok (.aload_n 0, 1) := by decide +kernel
theorem dX11_mate_1 : decode cX11_mate 1 = .ok (.iload_n 1, 1) := by decide +kernel
theorem dX11_mate_2 : decode cX11_mate 2 = .ok (.invokevirtual 78, 3) := by decide +kernel
theorem dX11_mate_5 : decode cX11_mate 5 = .ok (.ifCond .eq 14, 3) := by decide +kernel
theorem dX11_mate_8 : decode cX11_mate 8 = .ok (.aload_n 0, 1) := by decide +kernel
theorem dX11_mate_9 : decode cX11_mate 9 = .ok (.getfield 10, 3) := by decide +kernel
theorem dX11_mate_12 : decode cX11_mate 12 = .ok (.iload_n 1, 1) := by decide +kernel
theorem dX11_mate_13 : decode cX11_mate 13 = .ok (.invokestatic 192, 3) := by decide +kernel
theorem dX11_mate_16 : decode cX11_mate 16 = .ok (.goto 4, 3) := by decide +kernel
theorem dX11_mate_19 : decode cX11_mate 19 = .ok (.iconst (-1), 1) := by decide +kernel
theorem dX11_mate_20 : decode cX11_mate 20 = .ok (.ireturn, 1) := by decide +kernel
theorem dX11_chains_0 : decode cX11_chains 0 = .ok (.iload_n 1, 1) := by decide +kernel
theorem dX11_chains_1 : decode cX11_chains 1 = .ok (.iconst 0, 1) := by decide +kernel
theorem dX11_chains_2 : decode cX11_chains 2 = .ok (.iconst 1, 1) := by decide +kernel
theorem dX11_chains_3 : decode cX11_chains 3 = .ok (.invokestatic 120, 3) := by decide +kernel
theorem dX11_chains_6 : decode cX11_chains 6 = .ok (.ifCond .ne 5, 3) := by decide +kernel
theorem dX11_chains_9 : decode cX11_chains 9 = .ok (.iconst (-1), 1) := by decide +kernel
theorem dX11_chains_10 : decode cX11_chains 10 = .ok (.ireturn, 1) := by decide +kernel
theorem dX11_chains_11 : decode cX11_chains 11 = .ok (.aload_n 0, 1) := by decide +kernel
theorem dX11_chains_12 : decode cX11_chains 12 = .ok (.getfield 10, 3) := by decide +kernel
theorem dX11_chains_15 : decode cX11_chains 15 = .ok (.invokestatic 195, 3) := by decide +kernel
theorem dX11_chains_18 : decode cX11_chains 18 = .ok (.istore_n 2, 1) := by decide +kernel
theorem dX11_chains_19 : decode cX11_chains 19 = .ok (.iload_n 1, 1) := by decide +kernel
theorem dX11_chains_20 : decode cX11_chains 20 = .ok (.ifCond .ne 7, 3) := by decide +kernel
theorem dX11_chains_23 : decode cX11_chains 23 = .ok (.iload_n 2, 1) := by decide +kernel
theorem dX11_chains_24 : decode cX11_chains 24 = .ok (.goto 7, 3) := by decide +kernel
theorem dX11_chains_27 : decode cX11_chains 27 = .ok (.iload_n 2, 1) := by decide +kernel
theorem dX11_chains_28 : decode cX11_chains 28 = .ok (.invokestatic 198, 3) := by decide +kernel
theorem dX11_chains_31 : decode cX11_chains 31 = .ok (.ireturn, 1) := by decide +kernel
theorem dX11_best_0 : decode cX11_best 0 = .ok (.iload_n 1, 1) := by decide +kernel
theorem dX11_best_1 : decode cX11_best 1 = .ok (.invokestatic 203, 3) := by decide +kernel
theorem dX11_best_4 : decode cX11_best 4 = .ok (.ifCond .eq 14, 3) := by decide +kernel
theorem dX11_best_7 : decode cX11_best 7 = .ok (.aload_n 0, 1) := by decide +kernel
theorem dX11_best_8 : decode cX11_best 8 = .ok (.getfield 10, 3) := by decide +kernel
theorem dX11_best_11 : decode cX11_best 11 = .ok (.iload_n 1, 1) := by decide +kernel
theorem dX11_best_12 : decode cX11_best 12 = .ok (.invokestatic 206, 3) := by decide +kernel
theorem dX11_best_15 : decode cX11_best 15 = .ok (.goto 4, 3) := by decide +kernel
theorem dX11_best_18 : decode cX11_best 18 = .ok (.iconst (-1), 1) := by decide +kernel
theorem dX11_best_19 : decode cX11_best 19 = .ok (.ireturn, 1) := by decide +kernel
theorem dX11_ith_0 : decode cX11_ith 0 = .ok (.iload_n 1, 1) := by decide +kernel
theorem dX11_ith_1 : decode cX11_ith 1 = .ok (.invokestatic 203, 3) := by decide +kernel
theorem dX11_ith_4 : decode cX11_ith 4 = .ok (.ifCond .eq 12, 3) := by decide +kernel
theorem dX11_ith_7 : decode cX11_ith 7 = .ok (.iload_n 2, 1) := by decide +kernel
theorem dX11_ith_8 : decode cX11_ith 8 = .ok (.iconst 0, 1) := by decide +kernel
theorem dX11_ith_9 : decode cX11_ith 9 = .ok (.iconst 3, 1) := by decide +kernel
theorem dX11_ith_10 : decode cX11_ith 10 = .ok (.invokestatic 120, 3) := by decide +kernel
theorem dX11_ith_13 : decode cX11_ith 13 = .ok (.ifCond .ne 5, 3) := by decide +kernel
theorem dX11_ith_16 : decode cX11_ith 16 = .ok (.iconst (-1), 1) := by decide +kernel
theorem dX11_ith_17 : decode cX11_ith 17 = .ok (.ireturn, 1) := by decide +kernel
theorem dX11_ith_18 : decode cX11_ith 18 = .ok (.iload_n 2, 1) := by decide +kernel
theorem dX11_ith_19 : decode cX11_ith 19 = .ok (.aload_n 0, 1) := by decide +kernel
theorem dX11_ith_20 : decode cX11_ith 20 = .ok (.getfield 10, 3) := by decide +kernel
theorem dX11_ith_23 : decode cX11_ith 23 = .ok (.iload_n 1, 1) := by decide +kernel
theorem dX11_ith_24 : decode cX11_ith 24 = .ok (.invokevirtual 209, 3) := by decide +kernel
theorem dX11_ith_27 : decode cX11_ith 27 = .ok (.if_icmp .lt 6, 3) := by decide +kernel
theorem dX11_ith_30 : decode cX11_ith 30 = .ok (.bipush (-3), 2) := by decide +kernel
theorem dX11_ith_32 : decode cX11_ith 32 = .ok (.ireturn, 1) := by decide +kernel
theorem dX11_ith_33 : decode cX11_ith 33 = .ok (.aload_n 0, 1) := by decide +kernel
theorem dX11_ith_34 : decode cX11_ith 34 = .ok (.getfield 10, 3) := by decide +kernel
theorem dX11_ith_37 : decode cX11_ith 37 = .ok (.getfield 93, 3) := by decide +kernel
theorem dX11_ith_40 : decode cX11_ith 40 = .ok (.istore_n 3, 1) := by decide +kernel
theorem dX11_ith_41 : decode cX11_ith 41 = .ok (.iconst 0, 1) := by decide +kernel
theorem dX11_ith_42 : decode cX11_ith 42 = .ok (.istore 4, 2) := by decide +kernel
theorem dX11_ith_44 : decode cX11_ith 44 = .ok (.iload 4, 2) := by decide +kernel
theorem dX11_ith_46 : decode cX11_ith 46 = .ok (.iload_n 2, 1) := by decide +kernel
theorem dX11_ith_47 : decode cX11_ith 47 = .ok (.if_icmp .ge 57, 3) := by decide +kernel
theorem dX11_ith_50 : decode cX11_ith 50 = .ok (.aload_n 0, 1) := by decide +kernel
theorem dX11_ith_51 : decode cX11_ith 51 = .ok (.getfield 10, 3) := by decide +kernel
theorem dX11_ith_54 : decode cX11_ith 54 = .ok (.iload_n 3, 1) := by decide +kernel
theorem dX11_ith_55 : decode cX11_ith 55 = .ok (.aload_n 0, 1) := by decide +kernel
theorem dX11_ith_56 : decode cX11_ith 56 = .ok (.getfield 10, 3) := by decide +kernel
theorem dX11_ith_59 : decode cX11_ith 59 = .ok (.getfield 100, 3) := by decide +kernel
theorem dX11_ith_62 : decode cX11_ith 62 = .ok (.iload 4, 2) := by decide +kernel
theorem dX11_ith_64 : decode cX11_ith 64 = .ok (.iadd, 1) := by decide +kernel
theorem dX11_ith_65 : decode cX11_ith 65 = .ok (.iload_n 1, 1) := by decide +kernel
theorem dX11_ith_66 : decode cX11_ith 66 = .ok (.iload 4, 2) := by decide +kernel
theorem dX11_ith_68 : decode cX11_ith 68 = .ok (.isub, 1) := by decide +kernel
theorem dX11_ith_69 : decode cX11_ith 69 = .ok (.invokestatic 212, 3) := by decide +kernel
theorem dX11_ith_72 : decode cX11_ith 72 = .ok (.istore 5, 2) := by decide +kernel
theorem dX11_ith_74 : decode cX11_ith 74 = .ok (.aload_n 0, 1) := by decide +kernel
theorem dX11_ith_75 : decode cX11_ith 75 = .ok (.getfield 10, 3) := by decide +kernel
theorem dX11_ith_78 : decode cX11_ith 78 = .ok (.iload_n 3, 1) := by decide +kernel
theorem dX11_ith_79 : decode cX11_ith 79 = .ok (.aload_n 0, 1) := by decide +kernel
theorem dX11_ith_80 : decode cX11_ith 80 = .ok (.getfield 10, 3) := by decide +kernel
theorem dX11_ith_83 : decode cX11_ith 83 = .ok (.getfield 100, 3) := by decide +kernel
theorem dX11_ith_86 : decode cX11_ith 86 = .ok (.iload 4, 2) := by decide +kernel
theorem dX11_ith_88 : decode cX11_ith 88 = .ok (.iadd, 1) := by decide +kernel
theorem dX11_ith_89 : decode cX11_ith 89 = .ok (.iload 5, 2) := by decide +kernel
theorem dX11_ith_91 : decode cX11_ith 91 = .ok (.invokestatic 216, 3) := by decide +kernel
theorem dX11_ith_94 : decode cX11_ith 94 = .ok (.invokevirtual 219, 3) := by decide +kernel
theorem dX11_ith_97 : decode cX11_ith 97 = .ok (.istore_n 3, 1) := by decide +kernel
theorem dX11_ith_98 : decode cX11_ith 98 = .ok (.iinc 4 1, 3) := by decide +kernel
theorem dX11_ith_101 : decode cX11_ith 101 = .ok (.goto (-57), 3) := by decide +kernel
theorem dX11_ith_104 : decode cX11_ith 104 = .ok (.aload_n 0, 1) := by decide +kernel
theorem dX11_ith_105 : decode cX11_ith 105 = .ok (.getfield 10, 3) := by decide +kernel
theorem dX11_ith_108 : decode cX11_ith 108 = .ok (.iload_n 3, 1) := by decide +kernel
theorem dX11_ith_109 : decode cX11_ith 109 = .ok (.aload_n 0, 1) := by decide +kernel
theorem dX11_ith_110 : decode cX11_ith 110 = .ok (.getfield 10, 3) := by decide +kernel
theorem dX11_ith_113 : decode cX11_ith 113 = .ok (.getfield 100, 3) := by decide +kernel
theorem dX11_ith_116 : decode cX11_ith 116 = .ok (.iload_n 2, 1) := by decide +kernel
theorem dX11_ith_117 : decode cX11_ith 117 = .ok (.iadd, 1) := by decide +kernel
theorem dX11_ith_118 : decode cX11_ith 118 = .ok (.iload_n 1, 1) := by decide +kernel
theorem dX11_ith_119 : decode cX11_ith 119 = .ok (.iload_n 2, 1) := by decide +kernel
theorem dX11_ith_120 : decode cX11_ith 120 = .ok (.isub, 1) := by decide +kernel
theorem dX11_ith_121 : decode cX11_ith 121 = .ok (.invokestatic 212, 3) := by decide +kernel
theorem dX11_ith_124 : decode cX11_ith 124 = .ok (.ireturn, 1) := by decide +kernel
theorem dX11_ways_0 : decode cX11_ways 0 = .ok (.iload_n 1, 1) := by decide +kernel
theorem dX11_ways_1 : decode cX11_ways 1 = .ok (.invokestatic 203, 3) := by decide +kernel
theorem dX11_ways_4 : decode cX11_ways 4 = .ok (.ifCond .eq 14, 3) := by decide +kernel
theorem dX11_ways_7 : decode cX11_ways 7 = .ok (.aload_n 0, 1) := by decide +kernel
theorem dX11_ways_8 : decode cX11_ways 8 = .ok (.getfield 10, 3) := by decide +kernel
theorem dX11_ways_11 : decode cX11_ways 11 = .ok (.iload_n 1, 1) := by decide +kernel
theorem dX11_ways_12 : decode cX11_ways 12 = .ok (.invokestatic 222, 3) := by decide +kernel
theorem dX11_ways_15 : decode cX11_ways 15 = .ok (.goto 4, 3) := by decide +kernel
theorem dX11_ways_18 : decode cX11_ways 18 = .ok (.iconst (-1), 1) := by decide +kernel
theorem dX11_ways_19 : decode cX11_ways 19 = .ok (.ireturn, 1) := by decide +kernel
theorem dX11_kept_0 : decode cX11_kept 0 = .ok (.iload_n 1, 1) := by decide +kernel
theorem dX11_kept_1 : decode cX11_kept 1 = .ok (.invokestatic 203, 3) := by decide +kernel
theorem dX11_kept_4 : decode cX11_kept 4 = .ok (.ifCond .eq 11, 3) := by decide +kernel
theorem dX11_kept_7 : decode cX11_kept 7 = .ok (.aload_n 0, 1) := by decide +kernel
theorem dX11_kept_8 : decode cX11_kept 8 = .ok (.iload_n 2, 1) := by decide +kernel
theorem dX11_kept_9 : decode cX11_kept 9 = .ok (.invokevirtual 225, 3) := by decide +kernel
theorem dX11_kept_12 : decode cX11_kept 12 = .ok (.ifCond .ne 5, 3) := by decide +kernel
theorem dX11_kept_15 : decode cX11_kept 15 = .ok (.iconst (-1), 1) := by decide +kernel
theorem dX11_kept_16 : decode cX11_kept 16 = .ok (.ireturn, 1) := by decide +kernel
theorem dX11_kept_17 : decode cX11_kept 17 = .ok (.aload_n 0, 1) := by decide +kernel
theorem dX11_kept_18 : decode cX11_kept 18 = .ok (.getfield 10, 3) := by decide +kernel
theorem dX11_kept_21 : decode cX11_kept 21 = .ok (.iload_n 1, 1) := by decide +kernel
theorem dX11_kept_22 : decode cX11_kept 22 = .ok (.iload_n 2, 1) := by decide +kernel
theorem dX11_kept_23 : decode cX11_kept 23 = .ok (.invokestatic 228, 3) := by decide +kernel
theorem dX11_kept_26 : decode cX11_kept 26 = .ok (.istore_n 3, 1) := by decide +kernel
theorem dX11_kept_27 : decode cX11_kept 27 = .ok (.iload_n 3, 1) := by decide +kernel
theorem dX11_kept_28 : decode cX11_kept 28 = .ok (.iconst 4, 1) := by decide +kernel
theorem dX11_kept_29 : decode cX11_kept 29 = .ok (.if_icmp .le 8, 3) := by decide +kernel
theorem dX11_kept_32 : decode cX11_kept 32 = .ok (.bipush (-3), 2) := by decide +kernel
theorem dX11_kept_34 : decode cX11_kept 34 = .ok (.goto 4, 3) := by decide +kernel
theorem dX11_kept_37 : decode cX11_kept 37 = .ok (.iload_n 3, 1) := by decide +kernel
theorem dX11_kept_38 : decode cX11_kept 38 = .ok (.ireturn, 1) := by decide +kernel
theorem dX11_bars_0 : decode cX11_bars 0 = .ok (.iload_n 1, 1) := by decide +kernel
theorem dX11_bars_1 : decode cX11_bars 1 = .ok (.invokestatic 203, 3) := by decide +kernel
theorem dX11_bars_4 : decode cX11_bars 4 = .ok (.ifCond .eq 11, 3) := by decide +kernel
theorem dX11_bars_7 : decode cX11_bars 7 = .ok (.aload_n 0, 1) := by decide +kernel
theorem dX11_bars_8 : decode cX11_bars 8 = .ok (.iload_n 2, 1) := by decide +kernel
theorem dX11_bars_9 : decode cX11_bars 9 = .ok (.invokevirtual 225, 3) := by decide +kernel
theorem dX11_bars_12 : decode cX11_bars 12 = .ok (.ifCond .ne 5, 3) := by decide +kernel
theorem dX11_bars_15 : decode cX11_bars 15 = .ok (.iconst (-1), 1) := by decide +kernel
theorem dX11_bars_16 : decode cX11_bars 16 = .ok (.ireturn, 1) := by decide +kernel
theorem dX11_bars_17 : decode cX11_bars 17 = .ok (.iload_n 2, 1) := by decide +kernel
theorem dX11_bars_18 : decode cX11_bars 18 = .ok (.aload_n 0, 1) := by decide +kernel
theorem dX11_bars_19 : decode cX11_bars 19 = .ok (.getfield 10, 3) := by decide +kernel
theorem dX11_bars_22 : decode cX11_bars 22 = .ok (.iload_n 1, 1) := by decide +kernel
theorem dX11_bars_23 : decode cX11_bars 23 = .ok (.invokestatic 232, 3) := by decide +kernel
theorem dX11_bars_26 : decode cX11_bars 26 = .ok (.iconst (-1), 1) := by decide +kernel
theorem dX11_bars_27 : decode cX11_bars 27 = .ok (.ixor, 1) := by decide +kernel
theorem dX11_bars_28 : decode cX11_bars 28 = .ok (.iand, 1) := by decide +kernel
theorem dX11_bars_29 : decode cX11_bars 29 = .ok (.istore_n 3, 1) := by decide +kernel
theorem dX11_bars_30 : decode cX11_bars 30 = .ok (.iload_n 3, 1) := by decide +kernel
theorem dX11_bars_31 : decode cX11_bars 31 = .ok (.ifCond .ne 8, 3) := by decide +kernel
theorem dX11_bars_34 : decode cX11_bars 34 = .ok (.bipush (-3), 2) := by decide +kernel
theorem dX11_bars_36 : decode cX11_bars 36 = .ok (.goto 7, 3) := by decide +kernel
theorem dX11_bars_39 : decode cX11_bars 39 = .ok (.iload_n 3, 1) := by decide +kernel
theorem dX11_bars_40 : decode cX11_bars 40 = .ok (.invokestatic 235, 3) := by decide +kernel
theorem dX11_bars_43 : decode cX11_bars 43 = .ok (.ireturn, 1) := by decide +kernel
theorem dX11_game_0 : decode cX11_game 0 = .ok (.iload_n 1, 1) := by decide +kernel
theorem dX11_game_1 : decode cX11_game 1 = .ok (.invokestatic 238, 3) := by decide +kernel
theorem dX11_game_4 : decode cX11_game 4 = .ok (.ifCond .eq 14, 3) := by decide +kernel
theorem dX11_game_7 : decode cX11_game 7 = .ok (.aload_n 0, 1) := by decide +kernel
theorem dX11_game_8 : decode cX11_game 8 = .ok (.getfield 10, 3) := by decide +kernel
theorem dX11_game_11 : decode cX11_game 11 = .ok (.iload_n 1, 1) := by decide +kernel
theorem dX11_game_12 : decode cX11_game 12 = .ok (.invokestatic 241, 3) := by decide +kernel
theorem dX11_game_15 : decode cX11_game 15 = .ok (.goto 4, 3) := by decide +kernel
theorem dX11_game_18 : decode cX11_game 18 = .ok (.iconst (-1), 1) := by decide +kernel
theorem dX11_game_19 : decode cX11_game 19 = .ok (.ireturn, 1) := by decide +kernel
theorem dX11_play_0 : decode cX11_play 0 = .ok (.iload_n 1, 1) := by decide +kernel
theorem dX11_play_1 : decode cX11_play 1 = .ok (.invokestatic 238, 3) := by decide +kernel
theorem dX11_play_4 : decode cX11_play 4 = .ok (.ifCond .ne 5, 3) := by decide +kernel
theorem dX11_play_7 : decode cX11_play 7 = .ok (.iconst (-1), 1) := by decide +kernel
theorem dX11_play_8 : decode cX11_play 8 = .ok (.ireturn, 1) := by decide +kernel
theorem dX11_play_9 : decode cX11_play 9 = .ok (.aload_n 0, 1) := by decide +kernel
theorem dX11_play_10 : decode cX11_play 10 = .ok (.getfield 10, 3) := by decide +kernel
theorem dX11_play_13 : decode cX11_play 13 = .ok (.invokevirtual 136, 3) := by decide +kernel
theorem dX11_play_16 : decode cX11_play 16 = .ok (.ifCond .eq 8, 3) := by decide +kernel
theorem dX11_play_19 : decode cX11_play 19 = .ok (.bipush (-3), 2) := by decide +kernel
theorem dX11_play_21 : decode cX11_play 21 = .ok (.goto 11, 3) := by decide +kernel
theorem dX11_play_24 : decode cX11_play 24 = .ok (.aload_n 0, 1) := by decide +kernel
theorem dX11_play_25 : decode cX11_play 25 = .ok (.getfield 10, 3) := by decide +kernel
theorem dX11_play_28 : decode cX11_play 28 = .ok (.iload_n 1, 1) := by decide +kernel
theorem dX11_play_29 : decode cX11_play 29 = .ok (.invokestatic 244, 3) := by decide +kernel
theorem dX11_play_32 : decode cX11_play 32 = .ok (.ireturn, 1) := by decide +kernel
theorem dX11_report_0 : decode cX11_report 0 = .ok (.iload_n 1, 1) := by decide +kernel
theorem dX11_report_1 : decode cX11_report 1 = .ok (.invokestatic 57, 3) := by decide +kernel
theorem dX11_report_4 : decode cX11_report 4 = .ok (.ifCond .eq 31, 3) := by decide +kernel
theorem dX11_report_7 : decode cX11_report 7 = .ok (.iload_n 2, 1) := by decide +kernel
theorem dX11_report_8 : decode cX11_report 8 = .ok (.invokestatic 64, 3) := by decide +kernel
theorem dX11_report_11 : decode cX11_report 11 = .ok (.ifCond .eq 24, 3) := by decide +kernel
theorem dX11_report_14 : decode cX11_report 14 = .ok (.iload_n 3, 1) := by decide +kernel
theorem dX11_report_15 : decode cX11_report 15 = .ok (.invokestatic 247, 3) := by decide +kernel
theorem dX11_report_18 : decode cX11_report 18 = .ok (.ifCond .eq 17, 3) := by decide +kernel
theorem dX11_report_21 : decode cX11_report 21 = .ok (.iload 4, 2) := by decide +kernel
theorem dX11_report_23 : decode cX11_report 23 = .ok (.invokestatic 247, 3) := by decide +kernel
theorem dX11_report_26 : decode cX11_report 26 = .ok (.ifCond .eq 9, 3) := by decide +kernel
theorem dX11_report_29 : decode cX11_report 29 = .ok (.iload 4, 2) := by decide +kernel
theorem dX11_report_31 : decode cX11_report 31 = .ok (.iload_n 3, 1) := by decide +kernel
theorem dX11_report_32 : decode cX11_report 32 = .ok (.if_icmp .ge 5, 3) := by decide +kernel
theorem dX11_report_35 : decode cX11_report 35 = .ok (.iconst (-1), 1) := by decide +kernel
theorem dX11_report_36 : decode cX11_report 36 = .ok (.ireturn, 1) := by decide +kernel
theorem dX11_report_37 : decode cX11_report 37 = .ok (.aload_n 0, 1) := by decide +kernel
theorem dX11_report_38 : decode cX11_report 38 = .ok (.getfield 10, 3) := by decide +kernel
theorem dX11_report_41 : decode cX11_report 41 = .ok (.getfield 250, 3) := by decide +kernel
theorem dX11_report_44 : decode cX11_report 44 = .ok (.bipush 6, 2) := by decide +kernel
theorem dX11_report_46 : decode cX11_report 46 = .ok (.if_icmp .lt 6, 3) := by decide +kernel
theorem dX11_report_49 : decode cX11_report 49 = .ok (.bipush (-2), 2) := by decide +kernel
theorem dX11_report_51 : decode cX11_report 51 = .ok (.ireturn, 1) := by decide +kernel
theorem dX11_report_52 : decode cX11_report 52 = .ok (.aload_n 0, 1) := by decide +kernel
theorem dX11_report_53 : decode cX11_report 53 = .ok (.getfield 10, 3) := by decide +kernel
theorem dX11_report_56 : decode cX11_report 56 = .ok (.iload_n 1, 1) := by decide +kernel
theorem dX11_report_57 : decode cX11_report 57 = .ok (.iload_n 2, 1) := by decide +kernel
theorem dX11_report_58 : decode cX11_report 58 = .ok (.iload_n 3, 1) := by decide +kernel
theorem dX11_report_59 : decode cX11_report 59 = .ok (.iload 4, 2) := by decide +kernel
theorem dX11_report_61 : decode cX11_report 61 = .ok (.invokevirtual 253, 3) := by decide +kernel
theorem dX11_report_64 : decode cX11_report 64 = .ok (.ireturn, 1) := by decide +kernel
theorem dX11_forget_0 : decode cX11_forget 0 = .ok (.aload_n 0, 1) := by decide +kernel
theorem dX11_forget_1 : decode cX11_forget 1 = .ok (.getfield 10, 3) := by decide +kernel
theorem dX11_forget_4 : decode cX11_forget 4 = .ok (.getfield 250, 3) := by decide +kernel
theorem dX11_forget_7 : decode cX11_forget 7 = .ok (.istore_n 1, 1) := by decide +kernel
theorem dX11_forget_8 : decode cX11_forget 8 = .ok (.aload_n 0, 1) := by decide +kernel
theorem dX11_forget_9 : decode cX11_forget 9 = .ok (.getfield 10, 3) := by decide +kernel
theorem dX11_forget_12 : decode cX11_forget 12 = .ok (.iconst 0, 1) := by decide +kernel
theorem dX11_forget_13 : decode cX11_forget 13 = .ok (.putfield 250, 3) := by decide +kernel
theorem dX11_forget_16 : decode cX11_forget 16 = .ok (.iload_n 1, 1) := by decide +kernel
theorem dX11_forget_17 : decode cX11_forget 17 = .ok (.ireturn, 1) := by decide +kernel
theorem dX11_span_0 : decode cX11_span 0 = .ok (.iload_n 1, 1) := by decide +kernel
theorem dX11_span_1 : decode cX11_span 1 = .ok (.iconst 0, 1) := by decide +kernel
theorem dX11_span_2 : decode cX11_span 2 = .ok (.iconst 2, 1) := by decide +kernel
theorem dX11_span_3 : decode cX11_span 3 = .ok (.invokestatic 120, 3) := by decide +kernel
theorem dX11_span_6 : decode cX11_span 6 = .ok (.ifCond .ne 5, 3) := by decide +kernel
theorem dX11_span_9 : decode cX11_span 9 = .ok (.iconst (-1), 1) := by decide +kernel
theorem dX11_span_10 : decode cX11_span 10 = .ok (.ireturn, 1) := by decide +kernel
theorem dX11_span_11 : decode cX11_span 11 = .ok (.iload_n 1, 1) := by decide +kernel
theorem dX11_span_12 : decode cX11_span 12 = .ok (.ifCond .ne 13, 3) := by decide +kernel
theorem dX11_span_15 : decode cX11_span 15 = .ok (.aload_n 0, 1) := by decide +kernel
theorem dX11_span_16 : decode cX11_span 16 = .ok (.getfield 10, 3) := by decide +kernel
theorem dX11_span_19 : decode cX11_span 19 = .ok (.bipush 6, 2) := by decide +kernel
theorem dX11_span_21 : decode cX11_span 21 = .ok (.invokevirtual 256, 3) := by decide +kernel
theorem dX11_span_24 : decode cX11_span 24 = .ok (.ireturn, 1) := by decide +kernel
theorem dX11_span_25 : decode cX11_span 25 = .ok (.aload_n 0, 1) := by decide +kernel
theorem dX11_span_26 : decode cX11_span 26 = .ok (.getfield 10, 3) := by decide +kernel
theorem dX11_span_29 : decode cX11_span 29 = .ok (.bipush 6, 2) := by decide +kernel
theorem dX11_span_31 : decode cX11_span 31 = .ok (.invokevirtual 259, 3) := by decide +kernel
theorem dX11_span_34 : decode cX11_span 34 = .ok (.istore_n 2, 1) := by decide +kernel
theorem dX11_span_35 : decode cX11_span 35 = .ok (.iload_n 2, 1) := by decide +kernel
theorem dX11_span_36 : decode cX11_span 36 = .ok (.ifCond .ge 6, 3) := by decide +kernel
theorem dX11_span_39 : decode cX11_span 39 = .ok (.bipush (-3), 2) := by decide +kernel
theorem dX11_span_41 : decode cX11_span 41 = .ok (.ireturn, 1) := by decide +kernel
theorem dX11_span_42 : decode cX11_span 42 = .ok (.iload_n 1, 1) := by decide +kernel
theorem dX11_span_43 : decode cX11_span 43 = .ok (.iconst 1, 1) := by decide +kernel
theorem dX11_span_44 : decode cX11_span 44 = .ok (.if_icmp .ne 10, 3) := by decide +kernel
theorem dX11_span_47 : decode cX11_span 47 = .ok (.iload_n 2, 1) := by decide +kernel
theorem dX11_span_48 : decode cX11_span 48 = .ok (.bipush 10, 2) := by decide +kernel
theorem dX11_span_50 : decode cX11_span 50 = .ok (.idiv, 1) := by decide +kernel
theorem dX11_span_51 : decode cX11_span 51 = .ok (.goto 7, 3) := by decide +kernel
theorem dX11_span_54 : decode cX11_span 54 = .ok (.iload_n 2, 1) := by decide +kernel
theorem dX11_span_55 : decode cX11_span 55 = .ok (.bipush 10, 2) := by decide +kernel
theorem dX11_span_57 : decode cX11_span 57 = .ok (.irem, 1) := by decide +kernel
theorem dX11_span_58 : decode cX11_span 58 = .ok (.ireturn, 1) := by decide +kernel
theorem dX11_liar_0 : decode cX11_liar 0 = .ok (.aload_n 0, 1) := by decide +kernel
theorem dX11_liar_1 : decode cX11_liar 1 = .ok (.getfield 10, 3) := by decide +kernel
theorem dX11_liar_4 : decode cX11_liar 4 = .ok (.bipush 6, 2) := by decide +kernel
theorem dX11_liar_6 : decode cX11_liar 6 = .ok (.invokevirtual 259, 3) := by decide +kernel
theorem dX11_liar_9 : decode cX11_liar 9 = .ok (.ifCond .lt 6, 3) := by decide +kernel
theorem dX11_liar_12 : decode cX11_liar 12 = .ok (.bipush (-3), 2) := by decide +kernel
theorem dX11_liar_14 : decode cX11_liar 14 = .ok (.ireturn, 1) := by decide +kernel
theorem dX11_liar_15 : decode cX11_liar 15 = .ok (.iconst 0, 1) := by decide +kernel
theorem dX11_liar_16 : decode cX11_liar 16 = .ok (.istore_n 1, 1) := by decide +kernel
theorem dX11_liar_17 : decode cX11_liar 17 = .ok (.iload_n 1, 1) := by decide +kernel
theorem dX11_liar_18 : decode cX11_liar 18 = .ok (.aload_n 0, 1) := by decide +kernel
theorem dX11_liar_19 : decode cX11_liar 19 = .ok (.getfield 10, 3) := by decide +kernel
theorem dX11_liar_22 : decode cX11_liar 22 = .ok (.getfield 250, 3) := by decide +kernel
theorem dX11_liar_25 : decode cX11_liar 25 = .ok (.if_icmp .ge 22, 3) := by decide +kernel
theorem dX11_liar_28 : decode cX11_liar 28 = .ok (.aload_n 0, 1) := by decide +kernel
theorem dX11_liar_29 : decode cX11_liar 29 = .ok (.getfield 10, 3) := by decide +kernel
theorem dX11_liar_32 : decode cX11_liar 32 = .ok (.iload_n 1, 1) := by decide +kernel
theorem dX11_liar_33 : decode cX11_liar 33 = .ok (.invokevirtual 259, 3) := by decide +kernel
theorem dX11_liar_36 : decode cX11_liar 36 = .ok (.ifCond .lt 5, 3) := by decide +kernel
theorem dX11_liar_39 : decode cX11_liar 39 = .ok (.iload_n 1, 1) := by decide +kernel
theorem dX11_liar_40 : decode cX11_liar 40 = .ok (.ireturn, 1) := by decide +kernel
theorem dX11_liar_41 : decode cX11_liar 41 = .ok (.iinc 1 1, 3) := by decide +kernel
theorem dX11_liar_44 : decode cX11_liar 44 = .ok (.goto (-27), 3) := by decide +kernel
theorem dX11_liar_47 : decode cX11_liar 47 = .ok (.bipush (-3), 2) := by decide +kernel
theorem dX11_liar_49 : decode cX11_liar 49 = .ok (.ireturn, 1) := by decide +kernel
theorem dX11_seed_0 : decode cX11_seed 0 = .ok (.aload_n 0, 1) := by decide +kernel
theorem dX11_seed_1 : decode cX11_seed 1 = .ok (.getfield 10, 3) := by decide +kernel
theorem dX11_seed_4 : decode cX11_seed 4 = .ok (.getfield 262, 3) := by decide +kernel
theorem dX11_seed_7 : decode cX11_seed 7 = .ok (.istore_n 2, 1) := by decide +kernel
theorem dX11_seed_8 : decode cX11_seed 8 = .ok (.aload_n 0, 1) := by decide +kernel
theorem dX11_seed_9 : decode cX11_seed 9 = .ok (.getfield 10, 3) := by decide +kernel
theorem dX11_seed_12 : decode cX11_seed 12 = .ok (.iload_n 1, 1) := by decide +kernel
theorem dX11_seed_13 : decode cX11_seed 13 = .ok (.putfield 262, 3) := by decide +kernel
theorem dX11_seed_16 : decode cX11_seed 16 = .ok (.iload_n 2, 1) := by decide +kernel
theorem dX11_seed_17 : decode cX11_seed 17 = .ok (.ireturn, 1) := by decide +kernel
theorem dX11_lot_0 : decode cX11_lot 0 = .ok (.aload_n 0, 1) := by decide +kernel
theorem dX11_lot_1 : decode cX11_lot 1 = .ok (.getfield 10, 3) := by decide +kernel
theorem dX11_lot_4 : decode cX11_lot 4 = .ok (.invokevirtual 136, 3) := by decide +kernel
theorem dX11_lot_7 : decode cX11_lot 7 = .ok (.ifCond .eq 6, 3) := by decide +kernel
theorem dX11_lot_10 : decode cX11_lot 10 = .ok (.bipush (-4), 2) := by decide +kernel
theorem dX11_lot_12 : decode cX11_lot 12 = .ok (.ireturn, 1) := by decide +kernel
theorem dX11_lot_13 : decode cX11_lot 13 = .ok (.aload_n 0, 1) := by decide +kernel
theorem dX11_lot_14 : decode cX11_lot 14 = .ok (.getfield 10, 3) := by decide +kernel
theorem dX11_lot_17 : decode cX11_lot 17 = .ok (.aload_n 0, 1) := by decide +kernel
theorem dX11_lot_18 : decode cX11_lot 18 = .ok (.getfield 10, 3) := by decide +kernel
theorem dX11_lot_21 : decode cX11_lot 21 = .ok (.getfield 262, 3) := by decide +kernel
theorem dX11_lot_24 : decode cX11_lot 24 = .ok (.invokestatic 265, 3) := by decide +kernel
theorem dX11_lot_27 : decode cX11_lot 27 = .ok (.putfield 262, 3) := by decide +kernel
theorem dX11_lot_30 : decode cX11_lot 30 = .ok (.aload_n 0, 1) := by decide +kernel
theorem dX11_lot_31 : decode cX11_lot 31 = .ok (.getfield 10, 3) := by decide +kernel
theorem dX11_lot_34 : decode cX11_lot 34 = .ok (.aload_n 0, 1) := by decide +kernel
theorem dX11_lot_35 : decode cX11_lot 35 = .ok (.getfield 10, 3) := by decide +kernel
theorem dX11_lot_38 : decode cX11_lot 38 = .ok (.aload_n 0, 1) := by decide +kernel
theorem dX11_lot_39 : decode cX11_lot 39 = .ok (.getfield 10, 3) := by decide +kernel
theorem dX11_lot_42 : decode cX11_lot 42 = .ok (.getfield 262, 3) := by decide +kernel
theorem dX11_lot_45 : decode cX11_lot 45 = .ok (.invokevirtual 268, 3) := by decide +kernel
theorem dX11_lot_48 : decode cX11_lot 48 = .ok (.invokestatic 216, 3) := by decide +kernel
theorem dX11_lot_51 : decode cX11_lot 51 = .ok (.invokevirtual 165, 3) := by decide +kernel
theorem dX11_lot_54 : decode cX11_lot 54 = .ok (.ireturn, 1) := by decide +kernel
theorem dX11_times_0 : decode cX11_times 0 = .ok (.iload_n 1, 1) := by decide +kernel
theorem dX11_times_1 : decode cX11_times 1 = .ok (.iconst 1, 1) := by decide +kernel
theorem dX11_times_2 : decode cX11_times 2 = .ok (.bipush 40, 2) := by decide +kernel
theorem dX11_times_4 : decode cX11_times 4 = .ok (.invokestatic 120, 3) := by decide +kernel
theorem dX11_times_7 : decode cX11_times 7 = .ok (.ifCond .eq 14, 3) := by decide +kernel
theorem dX11_times_10 : decode cX11_times 10 = .ok (.iload_n 2, 1) := by decide +kernel
theorem dX11_times_11 : decode cX11_times 11 = .ok (.iconst 0, 1) := by decide +kernel
theorem dX11_times_12 : decode cX11_times 12 = .ok (.sipush 999, 3) := by decide +kernel
theorem dX11_times_15 : decode cX11_times 15 = .ok (.invokestatic 120, 3) := by decide +kernel
theorem dX11_times_18 : decode cX11_times 18 = .ok (.ifCond .ne 5, 3) := by decide +kernel
theorem dX11_times_21 : decode cX11_times 21 = .ok (.iconst (-1), 1) := by decide +kernel
theorem dX11_times_22 : decode cX11_times 22 = .ok (.ireturn, 1) := by decide +kernel
theorem dX11_times_23 : decode cX11_times 23 = .ok (.aload_n 0, 1) := by decide +kernel
theorem dX11_times_24 : decode cX11_times 24 = .ok (.getfield 10, 3) := by decide +kernel
theorem dX11_times_27 : decode cX11_times 27 = .ok (.getfield 262, 3) := by decide +kernel
theorem dX11_times_30 : decode cX11_times 30 = .ok (.istore_n 3, 1) := by decide +kernel
theorem dX11_times_31 : decode cX11_times 31 = .ok (.iconst 0, 1) := by decide +kernel
theorem dX11_times_32 : decode cX11_times 32 = .ok (.istore 4, 2) := by decide +kernel
theorem dX11_times_34 : decode cX11_times 34 = .ok (.iconst 0, 1) := by decide +kernel
theorem dX11_times_35 : decode cX11_times 35 = .ok (.istore 5, 2) := by decide +kernel
theorem dX11_times_37 : decode cX11_times 37 = .ok (.iload 5, 2) := by decide +kernel
theorem dX11_times_39 : decode cX11_times 39 = .ok (.iload_n 1, 1) := by decide +kernel
theorem dX11_times_40 : decode cX11_times 40 = .ok (.if_icmp .ge 102, 3) := by decide +kernel
theorem dX11_times_43 : decode cX11_times 43 = .ok (.aload_n 0, 1) := by decide +kernel
theorem dX11_times_44 : decode cX11_times 44 = .ok (.getfield 10, 3) := by decide +kernel
theorem dX11_times_47 : decode cX11_times 47 = .ok (.getfield 93, 3) := by decide +kernel
theorem dX11_times_50 : decode cX11_times 50 = .ok (.istore 6, 2) := by decide +kernel
theorem dX11_times_52 : decode cX11_times 52 = .ok (.iconst 0, 1) := by decide +kernel
theorem dX11_times_53 : decode cX11_times 53 = .ok (.istore 7, 2) := by decide +kernel
theorem dX11_times_55 : decode cX11_times 55 = .ok (.aload_n 0, 1) := by decide +kernel
theorem dX11_times_56 : decode cX11_times 56 = .ok (.getfield 10, 3) := by decide +kernel
theorem dX11_times_59 : decode cX11_times 59 = .ok (.getfield 100, 3) := by decide +kernel
theorem dX11_times_62 : decode cX11_times 62 = .ok (.istore 8, 2) := by decide +kernel
theorem dX11_times_64 : decode cX11_times 64 = .ok (.iload 8, 2) := by decide +kernel
theorem dX11_times_66 : decode cX11_times 66 = .ok (.aload_n 0, 1) := by decide +kernel
theorem dX11_times_67 : decode cX11_times 67 = .ok (.getfield 10, 3) := by decide +kernel
theorem dX11_times_70 : decode cX11_times 70 = .ok (.getfield 130, 3) := by decide +kernel
theorem dX11_times_73 : decode cX11_times 73 = .ok (.if_icmp .ge 54, 3) := by decide +kernel
theorem dX11_times_76 : decode cX11_times 76 = .ok (.iload_n 3, 1) := by decide +kernel
theorem dX11_times_77 : decode cX11_times 77 = .ok (.invokestatic 265, 3) := by decide +kernel
theorem dX11_times_80 : decode cX11_times 80 = .ok (.istore_n 3, 1) := by decide +kernel
theorem dX11_times_81 : decode cX11_times 81 = .ok (.aload_n 0, 1) := by decide +kernel
theorem dX11_times_82 : decode cX11_times 82 = .ok (.getfield 10, 3) := by decide +kernel
theorem dX11_times_85 : decode cX11_times 85 = .ok (.iload 6, 2) := by decide +kernel
theorem dX11_times_87 : decode cX11_times 87 = .ok (.iload 8, 2) := by decide +kernel
theorem dX11_times_89 : decode cX11_times 89 = .ok (.aload_n 0, 1) := by decide +kernel
theorem dX11_times_90 : decode cX11_times 90 = .ok (.getfield 10, 3) := by decide +kernel
theorem dX11_times_93 : decode cX11_times 93 = .ok (.iload_n 3, 1) := by decide +kernel
theorem dX11_times_94 : decode cX11_times 94 = .ok (.invokevirtual 268, 3) := by decide +kernel
theorem dX11_times_97 : decode cX11_times 97 = .ok (.invokestatic 216, 3) := by decide +kernel
theorem dX11_times_100 : decode cX11_times 100 = .ok (.invokevirtual 219, 3) := by decide +kernel
theorem dX11_times_103 : decode cX11_times 103 = .ok (.istore 6, 2) := by decide +kernel
theorem dX11_times_105 : decode cX11_times 105 = .ok (.iload 7, 2) := by decide +kernel
theorem dX11_times_107 : decode cX11_times 107 = .ok (.aload_n 0, 1) := by decide +kernel
theorem dX11_times_108 : decode cX11_times 108 = .ok (.getfield 10, 3) := by decide +kernel
theorem dX11_times_111 : decode cX11_times 111 = .ok (.iload 6, 2) := by decide +kernel
theorem dX11_times_113 : decode cX11_times 113 = .ok (.iload 8, 2) := by decide +kernel
theorem dX11_times_115 : decode cX11_times 115 = .ok (.invokevirtual 271, 3) := by decide +kernel
theorem dX11_times_118 : decode cX11_times 118 = .ok (.iadd, 1) := by decide +kernel
theorem dX11_times_119 : decode cX11_times 119 = .ok (.istore 7, 2) := by decide +kernel
theorem dX11_times_121 : decode cX11_times 121 = .ok (.iinc 8 1, 3) := by decide +kernel
theorem dX11_times_124 : decode cX11_times 124 = .ok (.goto (-60), 3) := by decide +kernel
theorem dX11_times_127 : decode cX11_times 127 = .ok (.iload 7, 2) := by decide +kernel
theorem dX11_times_129 : decode cX11_times 129 = .ok (.iload_n 2, 1) := by decide +kernel
theorem dX11_times_130 : decode cX11_times 130 = .ok (.if_icmp .lt 6, 3) := by decide +kernel
theorem dX11_times_133 : decode cX11_times 133 = .ok (.iinc 4 1, 3) := by decide +kernel
theorem dX11_times_136 : decode cX11_times 136 = .ok (.iinc 5 1, 3) := by decide +kernel
theorem dX11_times_139 : decode cX11_times 139 = .ok (.goto (-102), 3) := by decide +kernel
theorem dX11_times_142 : decode cX11_times 142 = .ok (.iload 4, 2) := by decide +kernel
theorem dX11_times_144 : decode cX11_times 144 = .ok (.ireturn, 1) := by decide +kernel
theorem dX11_prove_0 : decode cX11_prove 0 = .ok (.iload_n 1, 1) := by decide +kernel
theorem dX11_prove_1 : decode cX11_prove 1 = .ok (.invokestatic 203, 3) := by decide +kernel
theorem dX11_prove_4 : decode cX11_prove 4 = .ok (.ifCond .ne 5, 3) := by decide +kernel
theorem dX11_prove_7 : decode cX11_prove 7 = .ok (.iconst (-1), 1) := by decide +kernel
theorem dX11_prove_8 : decode cX11_prove 8 = .ok (.ireturn, 1) := by decide +kernel
theorem dX11_prove_9 : decode cX11_prove 9 = .ok (.aload_n 0, 1) := by decide +kernel
theorem dX11_prove_10 : decode cX11_prove 10 = .ok (.aload_n 0, 1) := by decide +kernel
theorem dX11_prove_11 : decode cX11_prove 11 = .ok (.getfield 10, 3) := by decide +kernel
theorem dX11_prove_14 : decode cX11_prove 14 = .ok (.iload_n 1, 1) := by decide +kernel
theorem dX11_prove_15 : decode cX11_prove 15 = .ok (.invokevirtual 209, 3) := by decide +kernel
theorem dX11_prove_18 : decode cX11_prove 18 = .ok (.putfield 274, 3) := by decide +kernel
theorem dX11_prove_21 : decode cX11_prove 21 = .ok (.aload_n 0, 1) := by decide +kernel
theorem dX11_prove_22 : decode cX11_prove 22 = .ok (.getfield 10, 3) := by decide +kernel
theorem dX11_prove_25 : decode cX11_prove 25 = .ok (.getfield 93, 3) := by decide +kernel
theorem dX11_prove_28 : decode cX11_prove 28 = .ok (.istore_n 2, 1) := by decide +kernel
theorem dX11_prove_29 : decode cX11_prove 29 = .ok (.iconst 0, 1) := by decide +kernel
theorem dX11_prove_30 : decode cX11_prove 30 = .ok (.istore_n 3, 1) := by decide +kernel
theorem dX11_prove_31 : decode cX11_prove 31 = .ok (.iload_n 3, 1) := by decide +kernel
theorem dX11_prove_32 : decode cX11_prove 32 = .ok (.aload_n 0, 1) := by decide +kernel
theorem dX11_prove_33 : decode cX11_prove 33 = .ok (.getfield 274, 3) := by decide +kernel
theorem dX11_prove_36 : decode cX11_prove 36 = .ok (.if_icmp .ge 99, 3) := by decide +kernel
theorem dX11_prove_39 : decode cX11_prove 39 = .ok (.aload_n 0, 1) := by decide +kernel
theorem dX11_prove_40 : decode cX11_prove 40 = .ok (.getfield 10, 3) := by decide +kernel
theorem dX11_prove_43 : decode cX11_prove 43 = .ok (.getfield 100, 3) := by decide +kernel
theorem dX11_prove_46 : decode cX11_prove 46 = .ok (.iload_n 3, 1) := by decide +kernel
theorem dX11_prove_47 : decode cX11_prove 47 = .ok (.iadd, 1) := by decide +kernel
theorem dX11_prove_48 : decode cX11_prove 48 = .ok (.istore 4, 2) := by decide +kernel
theorem dX11_prove_50 : decode cX11_prove 50 = .ok (.aload_n 0, 1) := by decide +kernel
theorem dX11_prove_51 : decode cX11_prove 51 = .ok (.getfield 10, 3) := by decide +kernel
theorem dX11_prove_54 : decode cX11_prove 54 = .ok (.iload_n 2, 1) := by decide +kernel
theorem dX11_prove_55 : decode cX11_prove 55 = .ok (.iload 4, 2) := by decide +kernel
theorem dX11_prove_57 : decode cX11_prove 57 = .ok (.iload_n 1, 1) := by decide +kernel
theorem dX11_prove_58 : decode cX11_prove 58 = .ok (.iload_n 3, 1) := by decide +kernel
theorem dX11_prove_59 : decode cX11_prove 59 = .ok (.isub, 1) := by decide +kernel
theorem dX11_prove_60 : decode cX11_prove 60 = .ok (.invokestatic 212, 3) := by decide +kernel
theorem dX11_prove_63 : decode cX11_prove 63 = .ok (.istore 5, 2) := by decide +kernel
theorem dX11_prove_65 : decode cX11_prove 65 = .ok (.aload_n 0, 1) := by decide +kernel
theorem dX11_prove_66 : decode cX11_prove 66 = .ok (.getfield 10, 3) := by decide +kernel
theorem dX11_prove_69 : decode cX11_prove 69 = .ok (.iload_n 2, 1) := by decide +kernel
theorem dX11_prove_70 : decode cX11_prove 70 = .ok (.iload 4, 2) := by decide +kernel
theorem dX11_prove_72 : decode cX11_prove 72 = .ok (.iload 5, 2) := by decide +kernel
theorem dX11_prove_74 : decode cX11_prove 74 = .ok (.invokestatic 216, 3) := by decide +kernel
theorem dX11_prove_77 : decode cX11_prove 77 = .ok (.invokevirtual 219, 3) := by decide +kernel
theorem dX11_prove_80 : decode cX11_prove 80 = .ok (.istore_n 2, 1) := by decide +kernel
theorem dX11_prove_81 : decode cX11_prove 81 = .ok (.aload_n 0, 1) := by decide +kernel
theorem dX11_prove_82 : decode cX11_prove 82 = .ok (.getfield 33, 3) := by decide +kernel
theorem dX11_prove_85 : decode cX11_prove 85 = .ok (.iload_n 3, 1) := by decide +kernel
theorem dX11_prove_86 : decode cX11_prove 86 = .ok (.iconst 3, 1) := by decide +kernel
theorem dX11_prove_87 : decode cX11_prove 87 = .ok (.imul, 1) := by decide +kernel
theorem dX11_prove_88 : decode cX11_prove 88 = .ok (.iload 5, 2) := by decide +kernel
theorem dX11_prove_90 : decode cX11_prove 90 = .ok (.iastore, 1) := by decide +kernel
theorem dX11_prove_91 : decode cX11_prove 91 = .ok (.aload_n 0, 1) := by decide +kernel
theorem dX11_prove_92 : decode cX11_prove 92 = .ok (.getfield 33, 3) := by decide +kernel
theorem dX11_prove_95 : decode cX11_prove 95 = .ok (.iload_n 3, 1) := by decide +kernel
theorem dX11_prove_96 : decode cX11_prove 96 = .ok (.iconst 3, 1) := by decide +kernel
theorem dX11_prove_97 : decode cX11_prove 97 = .ok (.imul, 1) := by decide +kernel
theorem dX11_prove_98 : decode cX11_prove 98 = .ok (.iconst 1, 1) := by decide +kernel
theorem dX11_prove_99 : decode cX11_prove 99 = .ok (.iadd, 1) := by decide +kernel
theorem dX11_prove_100 : decode cX11_prove 100 = .ok (.aload_n 0, 1) := by decide +kernel
theorem dX11_prove_101 : decode cX11_prove 101 = .ok (.getfield 10, 3) := by decide +kernel
theorem dX11_prove_104 : decode cX11_prove 104 = .ok (.iload_n 2, 1) := by decide +kernel
theorem dX11_prove_105 : decode cX11_prove 105 = .ok (.iload 4, 2) := by decide +kernel
theorem dX11_prove_107 : decode cX11_prove 107 = .ok (.invokevirtual 271, 3) := by decide +kernel
theorem dX11_prove_110 : decode cX11_prove 110 = .ok (.iastore, 1) := by decide +kernel
theorem dX11_prove_111 : decode cX11_prove 111 = .ok (.aload_n 0, 1) := by decide +kernel
theorem dX11_prove_112 : decode cX11_prove 112 = .ok (.getfield 33, 3) := by decide +kernel
theorem dX11_prove_115 : decode cX11_prove 115 = .ok (.iload_n 3, 1) := by decide +kernel
theorem dX11_prove_116 : decode cX11_prove 116 = .ok (.iconst 3, 1) := by decide +kernel
theorem dX11_prove_117 : decode cX11_prove 117 = .ok (.imul, 1) := by decide +kernel
theorem dX11_prove_118 : decode cX11_prove 118 = .ok (.iconst 2, 1) := by decide +kernel
theorem dX11_prove_119 : decode cX11_prove 119 = .ok (.iadd, 1) := by decide +kernel
theorem dX11_prove_120 : decode cX11_prove 120 = .ok (.aload_n 0, 1) := by decide +kernel
theorem dX11_prove_121 : decode cX11_prove 121 = .ok (.getfield 10, 3) := by decide +kernel
theorem dX11_prove_124 : decode cX11_prove 124 = .ok (.iload_n 2, 1) := by decide +kernel
theorem dX11_prove_125 : decode cX11_prove 125 = .ok (.invokevirtual 140, 3) := by decide +kernel
theorem dX11_prove_128 : decode cX11_prove 128 = .ok (.iastore, 1) := by decide +kernel
theorem dX11_prove_129 : decode cX11_prove 129 = .ok (.iinc 3 1, 3) := by decide +kernel
theorem dX11_prove_132 : decode cX11_prove 132 = .ok (.goto (-101), 3) := by decide +kernel
theorem dX11_prove_135 : decode cX11_prove 135 = .ok (.aload_n 0, 1) := by decide +kernel
theorem dX11_prove_136 : decode cX11_prove 136 = .ok (.getfield 274, 3) := by decide +kernel
theorem dX11_prove_139 : decode cX11_prove 139 = .ok (.ireturn, 1) := by decide +kernel
theorem dX11_row_0 : decode cX11_row 0 = .ok (.aload_n 0, 1) := by decide +kernel
theorem dX11_row_1 : decode cX11_row 1 = .ok (.iload_n 1, 1) := by decide +kernel
theorem dX11_row_2 : decode cX11_row 2 = .ok (.iload_n 2, 1) := by decide +kernel
theorem dX11_row_3 : decode cX11_row 3 = .ok (.invokevirtual 277, 3) := by decide +kernel
theorem dX11_row_6 : decode cX11_row 6 = .ok (.ifCond .eq 16, 3) := by decide +kernel
theorem dX11_row_9 : decode cX11_row 9 = .ok (.aload_n 0, 1) := by decide +kernel
theorem dX11_row_10 : decode cX11_row 10 = .ok (.getfield 33, 3) := by decide +kernel
theorem dX11_row_13 : decode cX11_row 13 = .ok (.iload_n 1, 1) := by decide +kernel
theorem dX11_row_14 : decode cX11_row 14 = .ok (.iconst 3, 1) := by decide +kernel
theorem dX11_row_15 : decode cX11_row 15 = .ok (.imul, 1) := by decide +kernel
theorem dX11_row_16 : decode cX11_row 16 = .ok (.iload_n 2, 1) := by decide +kernel
theorem dX11_row_17 : decode cX11_row 17 = .ok (.iadd, 1) := by decide +kernel
theorem dX11_row_18 : decode cX11_row 18 = .ok (.iaload, 1) := by decide +kernel
theorem dX11_row_19 : decode cX11_row 19 = .ok (.goto 5, 3) := by decide +kernel
theorem dX11_row_22 : decode cX11_row 22 = .ok (.bipush (-9), 2) := by decide +kernel
theorem dX11_row_24 : decode cX11_row 24 = .ok (.ireturn, 1) := by decide +kernel
theorem dX11_alterRow_0 : decode cX11_alterRow 0 = .ok (.aload_n 0, 1) := by decide +kernel
theorem dX11_alterRow_1 : decode cX11_alterRow 1 = .ok (.iload_n 1, 1) := by decide +kernel
theorem dX11_alterRow_2 : decode cX11_alterRow 2 = .ok (.iload_n 2, 1) := by decide +kernel
theorem dX11_alterRow_3 : decode cX11_alterRow 3 = .ok (.invokevirtual 277, 3) := by decide +kernel
theorem dX11_alterRow_6 : decode cX11_alterRow 6 = .ok (.ifCond .ne 6, 3) := by decide +kernel
theorem dX11_alterRow_9 : decode cX11_alterRow 9 = .ok (.bipush (-9), 2) := by decide +kernel
theorem dX11_alterRow_11 : decode cX11_alterRow 11 = .ok (.ireturn, 1) := by decide +kernel
theorem dX11_alterRow_12 : decode cX11_alterRow 12 = .ok (.aload_n 0, 1) := by decide +kernel
theorem dX11_alterRow_13 : decode cX11_alterRow 13 = .ok (.getfield 33, 3) := by decide +kernel
theorem dX11_alterRow_16 : decode cX11_alterRow 16 = .ok (.iload_n 1, 1) := by decide +kernel
theorem dX11_alterRow_17 : decode cX11_alterRow 17 = .ok (.iconst 3, 1) := by decide +kernel
theorem dX11_alterRow_18 : decode cX11_alterRow 18 = .ok (.imul, 1) := by decide +kernel
theorem dX11_alterRow_19 : decode cX11_alterRow 19 = .ok (.iload_n 2, 1) := by decide +kernel
theorem dX11_alterRow_20 : decode cX11_alterRow 20 = .ok (.iadd, 1) := by decide +kernel
theorem dX11_alterRow_21 : decode cX11_alterRow 21 = .ok (.iaload, 1) := by decide +kernel
theorem dX11_alterRow_22 : decode cX11_alterRow 22 = .ok (.istore 4, 2) := by decide +kernel
theorem dX11_alterRow_24 : decode cX11_alterRow 24 = .ok (.aload_n 0, 1) := by decide +kernel
theorem dX11_alterRow_25 : decode cX11_alterRow 25 = .ok (.getfield 33, 3) := by decide +kernel
theorem dX11_alterRow_28 : decode cX11_alterRow 28 = .ok (.iload_n 1, 1) := by decide +kernel
theorem dX11_alterRow_29 : decode cX11_alterRow 29 = .ok (.iconst 3, 1) := by decide +kernel
theorem dX11_alterRow_30 : decode cX11_alterRow 30 = .ok (.imul, 1) := by decide +kernel
theorem dX11_alterRow_31 : decode cX11_alterRow 31 = .ok (.iload_n 2, 1) := by decide +kernel
theorem dX11_alterRow_32 : decode cX11_alterRow 32 = .ok (.iadd, 1) := by decide +kernel
theorem dX11_alterRow_33 : decode cX11_alterRow 33 = .ok (.iload_n 3, 1) := by decide +kernel
theorem dX11_alterRow_34 : decode cX11_alterRow 34 = .ok (.iastore, 1) := by decide +kernel
theorem dX11_alterRow_35 : decode cX11_alterRow 35 = .ok (.iload 4, 2) := by decide +kernel
theorem dX11_alterRow_37 : decode cX11_alterRow 37 = .ok (.ireturn, 1) := by decide +kernel
theorem dX11_judge_0 : decode cX11_judge 0 = .ok (.aload_n 0, 1) := by decide +kernel
theorem dX11_judge_1 : decode cX11_judge 1 = .ok (.getfield 10, 3) := by decide +kernel
theorem dX11_judge_4 : decode cX11_judge 4 = .ok (.getfield 93, 3) := by decide +kernel
theorem dX11_judge_7 : decode cX11_judge 7 = .ok (.istore_n 1, 1) := by decide +kernel
theorem dX11_judge_8 : decode cX11_judge 8 = .ok (.iconst 0, 1) := by decide +kernel
theorem dX11_judge_9 : decode cX11_judge 9 = .ok (.istore_n 2, 1) := by decide +kernel
theorem dX11_judge_10 : decode cX11_judge 10 = .ok (.iload_n 2, 1) := by decide +kernel
theorem dX11_judge_11 : decode cX11_judge 11 = .ok (.aload_n 0, 1) := by decide +kernel
theorem dX11_judge_12 : decode cX11_judge 12 = .ok (.getfield 274, 3) := by decide +kernel
theorem dX11_judge_15 : decode cX11_judge 15 = .ok (.if_icmp .ge 139, 3) := by decide +kernel
theorem dX11_judge_18 : decode cX11_judge 18 = .ok (.aload_n 0, 1) := by decide +kernel
theorem dX11_judge_19 : decode cX11_judge 19 = .ok (.getfield 10, 3) := by decide +kernel
theorem dX11_judge_22 : decode cX11_judge 22 = .ok (.getfield 100, 3) := by decide +kernel
theorem dX11_judge_25 : decode cX11_judge 25 = .ok (.iload_n 2, 1) := by decide +kernel
theorem dX11_judge_26 : decode cX11_judge 26 = .ok (.iadd, 1) := by decide +kernel
theorem dX11_judge_27 : decode cX11_judge 27 = .ok (.istore_n 3, 1) := by decide +kernel
theorem dX11_judge_28 : decode cX11_judge 28 = .ok (.aload_n 0, 1) := by decide +kernel
theorem dX11_judge_29 : decode cX11_judge 29 = .ok (.getfield 33, 3) := by decide +kernel
theorem dX11_judge_32 : decode cX11_judge 32 = .ok (.iload_n 2, 1) := by decide +kernel
theorem dX11_judge_33 : decode cX11_judge 33 = .ok (.iconst 3, 1) := by decide +kernel
theorem dX11_judge_34 : decode cX11_judge 34 = .ok (.imul, 1) := by decide +kernel
theorem dX11_judge_35 : decode cX11_judge 35 = .ok (.iaload, 1) := by decide +kernel
theorem dX11_judge_36 : decode cX11_judge 36 = .ok (.istore 4, 2) := by decide +kernel
theorem dX11_judge_38 : decode cX11_judge 38 = .ok (.aload_n 0, 1) := by decide +kernel
theorem dX11_judge_39 : decode cX11_judge 39 = .ok (.iload 4, 2) := by decide +kernel
theorem dX11_judge_41 : decode cX11_judge 41 = .ok (.invokevirtual 280, 3) := by decide +kernel
theorem dX11_judge_44 : decode cX11_judge 44 = .ok (.ifCond .eq 14, 3) := by decide +kernel
theorem dX11_judge_47 : decode cX11_judge 47 = .ok (.iload_n 3, 1) := by decide +kernel
theorem dX11_judge_48 : decode cX11_judge 48 = .ok (.aload_n 0, 1) := by decide +kernel
theorem dX11_judge_49 : decode cX11_judge 49 = .ok (.getfield 10, 3) := by decide +kernel
theorem dX11_judge_52 : decode cX11_judge 52 = .ok (.getfield 130, 3) := by decide +kernel
theorem dX11_judge_55 : decode cX11_judge 55 = .ok (.if_icmp .lt 7, 3) := by decide +kernel
theorem dX11_judge_58 : decode cX11_judge 58 = .ok (.iload_n 2, 1) := by decide +kernel
theorem dX11_judge_59 : decode cX11_judge 59 = .ok (.iconst 1, 1) := by decide +kernel
theorem dX11_judge_60 : decode cX11_judge 60 = .ok (.iadd, 1) := by decide +kernel
theorem dX11_judge_61 : decode cX11_judge 61 = .ok (.ireturn, 1) := by decide +kernel
theorem dX11_judge_62 : decode cX11_judge 62 = .ok (.aload_n 0, 1) := by decide +kernel
theorem dX11_judge_63 : decode cX11_judge 63 = .ok (.getfield 10, 3) := by decide +kernel
theorem dX11_judge_66 : decode cX11_judge 66 = .ok (.iload_n 1, 1) := by decide +kernel
theorem dX11_judge_67 : decode cX11_judge 67 = .ok (.iload_n 3, 1) := by decide +kernel
theorem dX11_judge_68 : decode cX11_judge 68 = .ok (.iload 4, 2) := by decide +kernel
theorem dX11_judge_70 : decode cX11_judge 70 = .ok (.invokestatic 216, 3) := by decide +kernel
theorem dX11_judge_73 : decode cX11_judge 73 = .ok (.invokevirtual 219, 3) := by decide +kernel
theorem dX11_judge_76 : decode cX11_judge 76 = .ok (.istore_n 1, 1) := by decide +kernel
theorem dX11_judge_77 : decode cX11_judge 77 = .ok (.aload_n 0, 1) := by decide +kernel
theorem dX11_judge_78 : decode cX11_judge 78 = .ok (.getfield 33, 3) := by decide +kernel
theorem dX11_judge_81 : decode cX11_judge 81 = .ok (.iload_n 2, 1) := by decide +kernel
theorem dX11_judge_82 : decode cX11_judge 82 = .ok (.iconst 3, 1) := by decide +kernel
theorem dX11_judge_83 : decode cX11_judge 83 = .ok (.imul, 1) := by decide +kernel
theorem dX11_judge_84 : decode cX11_judge 84 = .ok (.iconst 1, 1) := by decide +kernel
theorem dX11_judge_85 : decode cX11_judge 85 = .ok (.iadd, 1) := by decide +kernel
theorem dX11_judge_86 : decode cX11_judge 86 = .ok (.iaload, 1) := by decide +kernel
theorem dX11_judge_87 : decode cX11_judge 87 = .ok (.aload_n 0, 1) := by decide +kernel
theorem dX11_judge_88 : decode cX11_judge 88 = .ok (.getfield 10, 3) := by decide +kernel
theorem dX11_judge_91 : decode cX11_judge 91 = .ok (.iload_n 1, 1) := by decide +kernel
theorem dX11_judge_92 : decode cX11_judge 92 = .ok (.iload_n 3, 1) := by decide +kernel
theorem dX11_judge_93 : decode cX11_judge 93 = .ok (.invokevirtual 271, 3) := by decide +kernel
theorem dX11_judge_96 : decode cX11_judge 96 = .ok (.if_icmp .ne 7, 3) := by decide +kernel
theorem dX11_judge_99 : decode cX11_judge 99 = .ok (.iconst 1, 1) := by decide +kernel
theorem dX11_judge_100 : decode cX11_judge 100 = .ok (.goto 4, 3) := by decide +kernel
theorem dX11_judge_103 : decode cX11_judge 103 = .ok (.iconst 0, 1) := by decide +kernel
theorem dX11_judge_104 : decode cX11_judge 104 = .ok (.istore 5, 2) := by decide +kernel
theorem dX11_judge_106 : decode cX11_judge 106 = .ok (.aload_n 0, 1) := by decide +kernel
theorem dX11_judge_107 : decode cX11_judge 107 = .ok (.getfield 33, 3) := by decide +kernel
theorem dX11_judge_110 : decode cX11_judge 110 = .ok (.iload_n 2, 1) := by decide +kernel
theorem dX11_judge_111 : decode cX11_judge 111 = .ok (.iconst 3, 1) := by decide +kernel
theorem dX11_judge_112 : decode cX11_judge 112 = .ok (.imul, 1) := by decide +kernel
theorem dX11_judge_113 : decode cX11_judge 113 = .ok (.iconst 2, 1) := by decide +kernel
theorem dX11_judge_114 : decode cX11_judge 114 = .ok (.iadd, 1) := by decide +kernel
theorem dX11_judge_115 : decode cX11_judge 115 = .ok (.iaload, 1) := by decide +kernel
theorem dX11_judge_116 : decode cX11_judge 116 = .ok (.aload_n 0, 1) := by decide +kernel
theorem dX11_judge_117 : decode cX11_judge 117 = .ok (.getfield 10, 3) := by decide +kernel
theorem dX11_judge_120 : decode cX11_judge 120 = .ok (.iload_n 1, 1) := by decide +kernel
theorem dX11_judge_121 : decode cX11_judge 121 = .ok (.invokevirtual 140, 3) := by decide +kernel
theorem dX11_judge_124 : decode cX11_judge 124 = .ok (.if_icmp .ne 7, 3) := by decide +kernel
theorem dX11_judge_127 : decode cX11_judge 127 = .ok (.iconst 1, 1) := by decide +kernel
theorem dX11_judge_128 : decode cX11_judge 128 = .ok (.goto 4, 3) := by decide +kernel
theorem dX11_judge_131 : decode cX11_judge 131 = .ok (.iconst 0, 1) := by decide +kernel
theorem dX11_judge_132 : decode cX11_judge 132 = .ok (.istore 6, 2) := by decide +kernel
theorem dX11_judge_134 : decode cX11_judge 134 = .ok (.iload 5, 2) := by decide +kernel
theorem dX11_judge_136 : decode cX11_judge 136 = .ok (.ifCond .eq 8, 3) := by decide +kernel
theorem dX11_judge_139 : decode cX11_judge 139 = .ok (.iload 6, 2) := by decide +kernel
theorem dX11_judge_141 : decode cX11_judge 141 = .ok (.ifCond .ne 7, 3) := by decide +kernel
theorem dX11_judge_144 : decode cX11_judge 144 = .ok (.iload_n 2, 1) := by decide +kernel
theorem dX11_judge_145 : decode cX11_judge 145 = .ok (.iconst 1, 1) := by decide +kernel
theorem dX11_judge_146 : decode cX11_judge 146 = .ok (.iadd, 1) := by decide +kernel
theorem dX11_judge_147 : decode cX11_judge 147 = .ok (.ireturn, 1) := by decide +kernel
theorem dX11_judge_148 : decode cX11_judge 148 = .ok (.iinc 2 1, 3) := by decide +kernel
theorem dX11_judge_151 : decode cX11_judge 151 = .ok (.goto (-141), 3) := by decide +kernel
theorem dX11_judge_154 : decode cX11_judge 154 = .ok (.iconst 0, 1) := by decide +kernel
theorem dX11_judge_155 : decode cX11_judge 155 = .ok (.ireturn, 1) := by decide +kernel
theorem dX11_sheet_0 : decode cX11_sheet 0 = .ok (.iload_n 1, 1) := by decide +kernel
theorem dX11_sheet_1 : decode cX11_sheet 1 = .ok (.invokestatic 283, 3) := by decide +kernel
theorem dX11_sheet_4 : decode cX11_sheet 4 = .ok (.ifCond .eq 12, 3) := by decide +kernel
theorem dX11_sheet_7 : decode cX11_sheet 7 = .ok (.iload_n 2, 1) := by decide +kernel
theorem dX11_sheet_8 : decode cX11_sheet 8 = .ok (.iconst (-1), 1) := by decide +kernel
theorem dX11_sheet_9 : decode cX11_sheet 9 = .ok (.iconst 4, 1) := by decide +kernel
theorem dX11_sheet_10 : decode cX11_sheet 10 = .ok (.invokestatic 120, 3) := by decide +kernel
theorem dX11_sheet_13 : decode cX11_sheet 13 = .ok (.ifCond .ne 5, 3) := by decide +kernel
theorem dX11_sheet_16 : decode cX11_sheet 16 = .ok (.iconst (-1), 1) := by decide +kernel
theorem dX11_sheet_17 : decode cX11_sheet 17 = .ok (.ireturn, 1) := by decide +kernel
theorem dX11_sheet_18 : decode cX11_sheet 18 = .ok (.iload_n 2, 1) := by decide +kernel
theorem dX11_sheet_19 : decode cX11_sheet 19 = .ok (.iconst (-1), 1) := by decide +kernel
theorem dX11_sheet_20 : decode cX11_sheet 20 = .ok (.if_icmp .ne 19, 3) := by decide +kernel
theorem dX11_sheet_23 : decode cX11_sheet 23 = .ok (.aload_n 0, 1) := by decide +kernel
theorem dX11_sheet_24 : decode cX11_sheet 24 = .ok (.getfield 37, 3) := by decide +kernel
theorem dX11_sheet_27 : decode cX11_sheet 27 = .ok (.iload_n 1, 1) := by decide +kernel
theorem dX11_sheet_28 : decode cX11_sheet 28 = .ok (.iconst (-1), 1) := by decide +kernel
theorem dX11_sheet_29 : decode cX11_sheet 29 = .ok (.iastore, 1) := by decide +kernel
theorem dX11_sheet_30 : decode cX11_sheet 30 = .ok (.aload_n 0, 1) := by decide +kernel
theorem dX11_sheet_31 : decode cX11_sheet 31 = .ok (.getfield 40, 3) := by decide +kernel
theorem dX11_sheet_34 : decode cX11_sheet 34 = .ok (.iload_n 1, 1) := by decide +kernel
theorem dX11_sheet_35 : decode cX11_sheet 35 = .ok (.iconst 0, 1) := by decide +kernel
theorem dX11_sheet_36 : decode cX11_sheet 36 = .ok (.iastore, 1) := by decide +kernel
theorem dX11_sheet_37 : decode cX11_sheet 37 = .ok (.iconst 1, 1) := by decide +kernel
theorem dX11_sheet_38 : decode cX11_sheet 38 = .ok (.ireturn, 1) := by decide +kernel
theorem dX11_sheet_39 : decode cX11_sheet 39 = .ok (.iload_n 3, 1) := by decide +kernel
theorem dX11_sheet_40 : decode cX11_sheet 40 = .ok (.bipush 40, 2) := by decide +kernel
theorem dX11_sheet_42 : decode cX11_sheet 42 = .ok (.if_icmp .le 5, 3) := by decide +kernel
theorem dX11_sheet_45 : decode cX11_sheet 45 = .ok (.iconst (-1), 1) := by decide +kernel
theorem dX11_sheet_46 : decode cX11_sheet 46 = .ok (.ireturn, 1) := by decide +kernel
theorem dX11_sheet_47 : decode cX11_sheet 47 = .ok (.iload_n 3, 1) := by decide +kernel
theorem dX11_sheet_48 : decode cX11_sheet 48 = .ok (.ifCond .ge 6, 3) := by decide +kernel
theorem dX11_sheet_51 : decode cX11_sheet 51 = .ok (.bipush (-14), 2) := by decide +kernel
theorem dX11_sheet_53 : decode cX11_sheet 53 = .ok (.ireturn, 1) := by decide +kernel
theorem dX11_sheet_54 : decode cX11_sheet 54 = .ok (.aload_n 0, 1) := by decide +kernel
theorem dX11_sheet_55 : decode cX11_sheet 55 = .ok (.getfield 37, 3) := by decide +kernel
theorem dX11_sheet_58 : decode cX11_sheet 58 = .ok (.iload_n 1, 1) := by decide +kernel
theorem dX11_sheet_59 : decode cX11_sheet 59 = .ok (.iload_n 2, 1) := by decide +kernel
theorem dX11_sheet_60 : decode cX11_sheet 60 = .ok (.iastore, 1) := by decide +kernel
theorem dX11_sheet_61 : decode cX11_sheet 61 = .ok (.aload_n 0, 1) := by decide +kernel
theorem dX11_sheet_62 : decode cX11_sheet 62 = .ok (.getfield 40, 3) := by decide +kernel
theorem dX11_sheet_65 : decode cX11_sheet 65 = .ok (.iload_n 1, 1) := by decide +kernel
theorem dX11_sheet_66 : decode cX11_sheet 66 = .ok (.iload_n 3, 1) := by decide +kernel
theorem dX11_sheet_67 : decode cX11_sheet 67 = .ok (.iastore, 1) := by decide +kernel
theorem dX11_sheet_68 : decode cX11_sheet 68 = .ok (.iconst 0, 1) := by decide +kernel
theorem dX11_sheet_69 : decode cX11_sheet 69 = .ok (.istore 4, 2) := by decide +kernel
theorem dX11_sheet_71 : decode cX11_sheet 71 = .ok (.iload 4, 2) := by decide +kernel
theorem dX11_sheet_73 : decode cX11_sheet 73 = .ok (.iload_n 3, 1) := by decide +kernel
theorem dX11_sheet_74 : decode cX11_sheet 74 = .ok (.if_icmp .ge 19, 3) := by decide +kernel
theorem dX11_sheet_77 : decode cX11_sheet 77 = .ok (.aload_n 0, 1) := by decide +kernel
theorem dX11_sheet_78 : decode cX11_sheet 78 = .ok (.getfield 45, 3) := by decide +kernel
theorem dX11_sheet_81 : decode cX11_sheet 81 = .ok (.iload_n 1, 1) := by decide +kernel
theorem dX11_sheet_82 : decode cX11_sheet 82 = .ok (.aaload, 1) := by decide +kernel
theorem dX11_sheet_83 : decode cX11_sheet 83 = .ok (.iload 4, 2) := by decide +kernel
theorem dX11_sheet_85 : decode cX11_sheet 85 = .ok (.iconst 0, 1) := by decide +kernel
theorem dX11_sheet_86 : decode cX11_sheet 86 = .ok (.iastore, 1) := by decide +kernel
theorem dX11_sheet_87 : decode cX11_sheet 87 = .ok (.iinc 4 1, 3) := by decide +kernel
theorem dX11_sheet_90 : decode cX11_sheet 90 = .ok (.goto (-19), 3) := by decide +kernel
theorem dX11_sheet_93 : decode cX11_sheet 93 = .ok (.iconst 1, 1) := by decide +kernel
theorem dX11_sheet_94 : decode cX11_sheet 94 = .ok (.ireturn, 1) := by decide +kernel
theorem dX11_write_0 : decode cX11_write 0 = .ok (.iload_n 1, 1) := by decide +kernel
theorem dX11_write_1 : decode cX11_write 1 = .ok (.invokestatic 283, 3) := by decide +kernel
theorem dX11_write_4 : decode cX11_write 4 = .ok (.ifCond .ne 5, 3) := by decide +kernel
theorem dX11_write_7 : decode cX11_write 7 = .ok (.iconst (-1), 1) := by decide +kernel
theorem dX11_write_8 : decode cX11_write 8 = .ok (.ireturn, 1) := by decide +kernel
theorem dX11_write_9 : decode cX11_write 9 = .ok (.aload_n 0, 1) := by decide +kernel
theorem dX11_write_10 : decode cX11_write 10 = .ok (.getfield 37, 3) := by decide +kernel
theorem dX11_write_13 : decode cX11_write 13 = .ok (.iload_n 1, 1) := by decide +kernel
theorem dX11_write_14 : decode cX11_write 14 = .ok (.iaload, 1) := by decide +kernel
theorem dX11_write_15 : decode cX11_write 15 = .ok (.iconst (-1), 1) := by decide +kernel
theorem dX11_write_16 : decode cX11_write 16 = .ok (.if_icmp .ne 6, 3) := by decide +kernel
theorem dX11_write_19 : decode cX11_write 19 = .ok (.bipush (-11), 2) := by decide +kernel
theorem dX11_write_21 : decode cX11_write 21 = .ok (.ireturn, 1) := by decide +kernel
theorem dX11_write_22 : decode cX11_write 22 = .ok (.aload_n 0, 1) := by decide +kernel
theorem dX11_write_23 : decode cX11_write 23 = .ok (.iload_n 1, 1) := by decide +kernel
theorem dX11_write_24 : decode cX11_write 24 = .ok (.iload_n 2, 1) := by decide +kernel
theorem dX11_write_25 : decode cX11_write 25 = .ok (.invokevirtual 286, 3) := by decide +kernel
theorem dX11_write_28 : decode cX11_write 28 = .ok (.ifCond .ne 6, 3) := by decide +kernel
theorem dX11_write_31 : decode cX11_write 31 = .ok (.bipush (-12), 2) := by decide +kernel
theorem dX11_write_33 : decode cX11_write 33 = .ok (.ireturn, 1) := by decide +kernel
theorem dX11_write_34 : decode cX11_write 34 = .ok (.aload_n 0, 1) := by decide +kernel
theorem dX11_write_35 : decode cX11_write 35 = .ok (.getfield 45, 3) := by decide +kernel
theorem dX11_write_38 : decode cX11_write 38 = .ok (.iload_n 1, 1) := by decide +kernel
theorem dX11_write_39 : decode cX11_write 39 = .ok (.aaload, 1) := by decide +kernel
theorem dX11_write_40 : decode cX11_write 40 = .ok (.iload_n 2, 1) := by decide +kernel
theorem dX11_write_41 : decode cX11_write 41 = .ok (.iload_n 3, 1) := by decide +kernel
theorem dX11_write_42 : decode cX11_write 42 = .ok (.aload_n 0, 1) := by decide +kernel
theorem dX11_write_43 : decode cX11_write 43 = .ok (.getfield 37, 3) := by decide +kernel
theorem dX11_write_46 : decode cX11_write 46 = .ok (.iload_n 1, 1) := by decide +kernel
theorem dX11_write_47 : decode cX11_write 47 = .ok (.iaload, 1) := by decide +kernel
theorem dX11_write_48 : decode cX11_write 48 = .ok (.invokestatic 289, 3) := by decide +kernel
theorem dX11_write_51 : decode cX11_write 51 = .ok (.iastore, 1) := by decide +kernel
theorem dX11_write_52 : decode cX11_write 52 = .ok (.iconst 1, 1) := by decide +kernel
theorem dX11_write_53 : decode cX11_write 53 = .ok (.ireturn, 1) := by decide +kernel
theorem dX11_item_0 : decode cX11_item 0 = .ok (.iload_n 1, 1) := by decide +kernel
theorem dX11_item_1 : decode cX11_item 1 = .ok (.invokestatic 283, 3) := by decide +kernel
theorem dX11_item_4 : decode cX11_item 4 = .ok (.ifCond .eq 12, 3) := by decide +kernel
theorem dX11_item_7 : decode cX11_item 7 = .ok (.iload_n 2, 1) := by decide +kernel
theorem dX11_item_8 : decode cX11_item 8 = .ok (.iconst 0, 1) := by decide +kernel
theorem dX11_item_9 : decode cX11_item 9 = .ok (.iconst 4, 1) := by decide +kernel
theorem dX11_item_10 : decode cX11_item 10 = .ok (.invokestatic 120, 3) := by decide +kernel
theorem dX11_item_13 : decode cX11_item 13 = .ok (.ifCond .ne 5, 3) := by decide +kernel
theorem dX11_item_16 : decode cX11_item 16 = .ok (.iconst (-1), 1) := by decide +kernel
theorem dX11_item_17 : decode cX11_item 17 = .ok (.ireturn, 1) := by decide +kernel
theorem dX11_item_18 : decode cX11_item 18 = .ok (.aload_n 0, 1) := by decide +kernel
theorem dX11_item_19 : decode cX11_item 19 = .ok (.iload_n 1, 1) := by decide +kernel
theorem dX11_item_20 : decode cX11_item 20 = .ok (.iload_n 2, 1) := by decide +kernel
theorem dX11_item_21 : decode cX11_item 21 = .ok (.invokevirtual 292, 3) := by decide +kernel
theorem dX11_item_24 : decode cX11_item 24 = .ok (.istore 4, 2) := by decide +kernel
theorem dX11_item_26 : decode cX11_item 26 = .ok (.iload 4, 2) := by decide +kernel
theorem dX11_item_28 : decode cX11_item 28 = .ok (.ifCond .ge 6, 3) := by decide +kernel
theorem dX11_item_31 : decode cX11_item 31 = .ok (.iload 4, 2) := by decide +kernel
theorem dX11_item_33 : decode cX11_item 33 = .ok (.ireturn, 1) := by decide +kernel
theorem dX11_item_34 : decode cX11_item 34 = .ok (.aload_n 0, 1) := by decide +kernel
theorem dX11_item_35 : decode cX11_item 35 = .ok (.iload_n 1, 1) := by decide +kernel
theorem dX11_item_36 : decode cX11_item 36 = .ok (.iload_n 3, 1) := by decide +kernel
theorem dX11_item_37 : decode cX11_item 37 = .ok (.invokevirtual 286, 3) := by decide +kernel
theorem dX11_item_40 : decode cX11_item 40 = .ok (.ifCond .eq 14, 3) := by decide +kernel
theorem dX11_item_43 : decode cX11_item 43 = .ok (.aload_n 0, 1) := by decide +kernel
theorem dX11_item_44 : decode cX11_item 44 = .ok (.getfield 45, 3) := by decide +kernel
theorem dX11_item_47 : decode cX11_item 47 = .ok (.iload_n 1, 1) := by decide +kernel
theorem dX11_item_48 : decode cX11_item 48 = .ok (.aaload, 1) := by decide +kernel
theorem dX11_item_49 : decode cX11_item 49 = .ok (.iload_n 3, 1) := by decide +kernel
theorem dX11_item_50 : decode cX11_item 50 = .ok (.iaload, 1) := by decide +kernel
theorem dX11_item_51 : decode cX11_item 51 = .ok (.goto 5, 3) := by decide +kernel
theorem dX11_item_54 : decode cX11_item 54 = .ok (.bipush (-12), 2) := by decide +kernel
theorem dX11_item_56 : decode cX11_item 56 = .ok (.ireturn, 1) := by decide +kernel
theorem dX11_goAll_0 : decode cX11_goAll 0 = .ok (.iload_n 1, 1) := by decide +kernel
theorem dX11_goAll_1 : decode cX11_goAll 1 = .ok (.invokestatic 283, 3) := by decide +kernel
theorem dX11_goAll_4 : decode cX11_goAll 4 = .ok (.ifCond .eq 13, 3) := by decide +kernel
theorem dX11_goAll_7 : decode cX11_goAll 7 = .ok (.iload_n 3, 1) := by decide +kernel
theorem dX11_goAll_8 : decode cX11_goAll 8 = .ok (.iconst 0, 1) := by decide +kernel
theorem dX11_goAll_9 : decode cX11_goAll 9 = .ok (.bipush 20, 2) := by decide +kernel
theorem dX11_goAll_11 : decode cX11_goAll 11 = .ok (.invokestatic 120, 3) := by decide +kernel
theorem dX11_goAll_14 : decode cX11_goAll 14 = .ok (.ifCond .ne 5, 3) := by decide +kernel
theorem dX11_goAll_17 : decode cX11_goAll 17 = .ok (.iconst (-1), 1) := by decide +kernel
theorem dX11_goAll_18 : decode cX11_goAll 18 = .ok (.ireturn, 1) := by decide +kernel
theorem dX11_goAll_19 : decode cX11_goAll 19 = .ok (.aload_n 0, 1) := by decide +kernel
theorem dX11_goAll_20 : decode cX11_goAll 20 = .ok (.iload_n 1, 1) := by decide +kernel
theorem dX11_goAll_21 : decode cX11_goAll 21 = .ok (.iconst 0, 1) := by decide +kernel
theorem dX11_goAll_22 : decode cX11_goAll 22 = .ok (.invokevirtual 292, 3) := by decide +kernel
theorem dX11_goAll_25 : decode cX11_goAll 25 = .ok (.istore 4, 2) := by decide +kernel
theorem dX11_goAll_27 : decode cX11_goAll 27 = .ok (.iload 4, 2) := by decide +kernel
theorem dX11_goAll_29 : decode cX11_goAll 29 = .ok (.ifCond .ge 6, 3) := by decide +kernel
theorem dX11_goAll_32 : decode cX11_goAll 32 = .ok (.iload 4, 2) := by decide +kernel
theorem dX11_goAll_34 : decode cX11_goAll 34 = .ok (.ireturn, 1) := by decide +kernel
theorem dX11_goAll_35 : decode cX11_goAll 35 = .ok (.iconst 0, 1) := by decide +kernel
theorem dX11_goAll_36 : decode cX11_goAll 36 = .ok (.istore 5, 2) := by decide +kernel
theorem dX11_goAll_38 : decode cX11_goAll 38 = .ok (.iconst 0, 1) := by decide +kernel
theorem dX11_goAll_39 : decode cX11_goAll 39 = .ok (.istore 6, 2) := by decide +kernel
theorem dX11_goAll_41 : decode cX11_goAll 41 = .ok (.iload 6, 2) := by decide +kernel
theorem dX11_goAll_43 : decode cX11_goAll 43 = .ok (.iload_n 3, 1) := by decide +kernel
theorem dX11_goAll_44 : decode cX11_goAll 44 = .ok (.if_icmp .ge 73, 3) := by decide +kernel
theorem dX11_goAll_47 : decode cX11_goAll 47 = .ok (.aload_n 0, 1) := by decide +kernel
theorem dX11_goAll_48 : decode cX11_goAll 48 = .ok (.iload_n 1, 1) := by decide +kernel
theorem dX11_goAll_49 : decode cX11_goAll 49 = .ok (.iload_n 2, 1) := by decide +kernel
theorem dX11_goAll_50 : decode cX11_goAll 50 = .ok (.iload 6, 2) := by decide +kernel
theorem dX11_goAll_52 : decode cX11_goAll 52 = .ok (.iadd, 1) := by decide +kernel
theorem dX11_goAll_53 : decode cX11_goAll 53 = .ok (.invokevirtual 286, 3) := by decide +kernel
theorem dX11_goAll_56 : decode cX11_goAll 56 = .ok (.ifCond .ne 6, 3) := by decide +kernel
theorem dX11_goAll_59 : decode cX11_goAll 59 = .ok (.bipush (-12), 2) := by decide +kernel
theorem dX11_goAll_61 : decode cX11_goAll 61 = .ok (.ireturn, 1) := by decide +kernel
theorem dX11_goAll_62 : decode cX11_goAll 62 = .ok (.aload_n 0, 1) := by decide +kernel
theorem dX11_goAll_63 : decode cX11_goAll 63 = .ok (.getfield 45, 3) := by decide +kernel
theorem dX11_goAll_66 : decode cX11_goAll 66 = .ok (.iload_n 1, 1) := by decide +kernel
theorem dX11_goAll_67 : decode cX11_goAll 67 = .ok (.aaload, 1) := by decide +kernel
theorem dX11_goAll_68 : decode cX11_goAll 68 = .ok (.iload_n 2, 1) := by decide +kernel
theorem dX11_goAll_69 : decode cX11_goAll 69 = .ok (.iload 6, 2) := by decide +kernel
theorem dX11_goAll_71 : decode cX11_goAll 71 = .ok (.iadd, 1) := by decide +kernel
theorem dX11_goAll_72 : decode cX11_goAll 72 = .ok (.iaload, 1) := by decide +kernel
theorem dX11_goAll_73 : decode cX11_goAll 73 = .ok (.istore 7, 2) := by decide +kernel
theorem dX11_goAll_75 : decode cX11_goAll 75 = .ok (.aload_n 0, 1) := by decide +kernel
theorem dX11_goAll_76 : decode cX11_goAll 76 = .ok (.iload 7, 2) := by decide +kernel
theorem dX11_goAll_78 : decode cX11_goAll 78 = .ok (.invokevirtual 280, 3) := by decide +kernel
theorem dX11_goAll_81 : decode cX11_goAll 81 = .ok (.ifCond .eq 30, 3) := by decide +kernel
theorem dX11_goAll_84 : decode cX11_goAll 84 = .ok (.aload_n 0, 1) := by decide +kernel
theorem dX11_goAll_85 : decode cX11_goAll 85 = .ok (.getfield 10, 3) := by decide +kernel
theorem dX11_goAll_88 : decode cX11_goAll 88 = .ok (.invokevirtual 136, 3) := by decide +kernel
theorem dX11_goAll_91 : decode cX11_goAll 91 = .ok (.ifCond .ne 20, 3) := by decide +kernel
theorem dX11_goAll_94 : decode cX11_goAll 94 = .ok (.iload 5, 2) := by decide +kernel
theorem dX11_goAll_96 : decode cX11_goAll 96 = .ok (.aload_n 0, 1) := by decide +kernel
theorem dX11_goAll_97 : decode cX11_goAll 97 = .ok (.getfield 10, 3) := by decide +kernel
theorem dX11_goAll_100 : decode cX11_goAll 100 = .ok (.iload 7, 2) := by decide +kernel
theorem dX11_goAll_102 : decode cX11_goAll 102 = .ok (.invokestatic 216, 3) := by decide +kernel
theorem dX11_goAll_105 : decode cX11_goAll 105 = .ok (.invokevirtual 165, 3) := by decide +kernel
theorem dX11_goAll_108 : decode cX11_goAll 108 = .ok (.iadd, 1) := by decide +kernel
theorem dX11_goAll_109 : decode cX11_goAll 109 = .ok (.istore 5, 2) := by decide +kernel
theorem dX11_goAll_111 : decode cX11_goAll 111 = .ok (.iinc 6 1, 3) := by decide +kernel
theorem dX11_goAll_114 : decode cX11_goAll 114 = .ok (.goto (-73), 3) := by decide +kernel
theorem dX11_goAll_117 : decode cX11_goAll 117 = .ok (.iload 5, 2) := by decide +kernel
theorem dX11_goAll_119 : decode cX11_goAll 119 = .ok (.ireturn, 1) := by decide +kernel
theorem dX11_wouldBe_0 : decode cX11_wouldBe 0 = .ok (.iload_n 1, 1) := by decide +kernel
theorem dX11_wouldBe_1 : decode cX11_wouldBe 1 = .ok (.invokestatic 283, 3) := by decide +kernel
theorem dX11_wouldBe_4 : decode cX11_wouldBe 4 = .ok (.ifCond .eq 13, 3) := by decide +kernel
theorem dX11_wouldBe_7 : decode cX11_wouldBe 7 = .ok (.iload_n 3, 1) := by decide +kernel
theorem dX11_wouldBe_8 : decode cX11_wouldBe 8 = .ok (.iconst 0, 1) := by decide +kernel
theorem dX11_wouldBe_9 : decode cX11_wouldBe 9 = .ok (.bipush 20, 2) := by decide +kernel
theorem dX11_wouldBe_11 : decode cX11_wouldBe 11 = .ok (.invokestatic 120, 3) := by decide +kernel
theorem dX11_wouldBe_14 : decode cX11_wouldBe 14 = .ok (.ifCond .ne 5, 3) := by decide +kernel
theorem dX11_wouldBe_17 : decode cX11_wouldBe 17 = .ok (.iconst (-1), 1) := by decide +kernel
theorem dX11_wouldBe_18 : decode cX11_wouldBe 18 = .ok (.ireturn, 1) := by decide +kernel
theorem dX11_wouldBe_19 : decode cX11_wouldBe 19 = .ok (.aload_n 0, 1) := by decide +kernel
theorem dX11_wouldBe_20 : decode cX11_wouldBe 20 = .ok (.iload_n 1, 1) := by decide +kernel
theorem dX11_wouldBe_21 : decode cX11_wouldBe 21 = .ok (.iconst 0, 1) := by decide +kernel
theorem dX11_wouldBe_22 : decode cX11_wouldBe 22 = .ok (.invokevirtual 292, 3) := by decide +kernel
theorem dX11_wouldBe_25 : decode cX11_wouldBe 25 = .ok (.istore 4, 2) := by decide +kernel
theorem dX11_wouldBe_27 : decode cX11_wouldBe 27 = .ok (.iload 4, 2) := by decide +kernel
theorem dX11_wouldBe_29 : decode cX11_wouldBe 29 = .ok (.ifCond .ge 6, 3) := by decide +kernel
theorem dX11_wouldBe_32 : decode cX11_wouldBe 32 = .ok (.iload 4, 2) := by decide +kernel
theorem dX11_wouldBe_34 : decode cX11_wouldBe 34 = .ok (.ireturn, 1) := by decide +kernel
theorem dX11_wouldBe_35 : decode cX11_wouldBe 35 = .ok (.aload_n 0, 1) := by decide +kernel
theorem dX11_wouldBe_36 : decode cX11_wouldBe 36 = .ok (.getfield 10, 3) := by decide +kernel
theorem dX11_wouldBe_39 : decode cX11_wouldBe 39 = .ok (.getfield 93, 3) := by decide +kernel
theorem dX11_wouldBe_42 : decode cX11_wouldBe 42 = .ok (.istore 5, 2) := by decide +kernel
theorem dX11_wouldBe_44 : decode cX11_wouldBe 44 = .ok (.iconst 0, 1) := by decide +kernel
theorem dX11_wouldBe_45 : decode cX11_wouldBe 45 = .ok (.istore 6, 2) := by decide +kernel
theorem dX11_wouldBe_47 : decode cX11_wouldBe 47 = .ok (.iconst 0, 1) := by decide +kernel
theorem dX11_wouldBe_48 : decode cX11_wouldBe 48 = .ok (.istore 7, 2) := by decide +kernel
theorem dX11_wouldBe_50 : decode cX11_wouldBe 50 = .ok (.iload 7, 2) := by decide +kernel
theorem dX11_wouldBe_52 : decode cX11_wouldBe 52 = .ok (.iload_n 3, 1) := by decide +kernel
theorem dX11_wouldBe_53 : decode cX11_wouldBe 53 = .ok (.if_icmp .ge 107, 3) := by decide +kernel
theorem dX11_wouldBe_56 : decode cX11_wouldBe 56 = .ok (.aload_n 0, 1) := by decide +kernel
theorem dX11_wouldBe_57 : decode cX11_wouldBe 57 = .ok (.iload_n 1, 1) := by decide +kernel
theorem dX11_wouldBe_58 : decode cX11_wouldBe 58 = .ok (.iload_n 2, 1) := by decide +kernel
theorem dX11_wouldBe_59 : decode cX11_wouldBe 59 = .ok (.iload 7, 2) := by decide +kernel
theorem dX11_wouldBe_61 : decode cX11_wouldBe 61 = .ok (.iadd, 1) := by decide +kernel
theorem dX11_wouldBe_62 : decode cX11_wouldBe 62 = .ok (.invokevirtual 286, 3) := by decide +kernel
theorem dX11_wouldBe_65 : decode cX11_wouldBe 65 = .ok (.ifCond .ne 6, 3) := by decide +kernel
theorem dX11_wouldBe_68 : decode cX11_wouldBe 68 = .ok (.bipush (-12), 2) := by decide +kernel
theorem dX11_wouldBe_70 : decode cX11_wouldBe 70 = .ok (.ireturn, 1) := by decide +kernel
theorem dX11_wouldBe_71 : decode cX11_wouldBe 71 = .ok (.aload_n 0, 1) := by decide +kernel
theorem dX11_wouldBe_72 : decode cX11_wouldBe 72 = .ok (.getfield 45, 3) := by decide +kernel
theorem dX11_wouldBe_75 : decode cX11_wouldBe 75 = .ok (.iload_n 1, 1) := by decide +kernel
theorem dX11_wouldBe_76 : decode cX11_wouldBe 76 = .ok (.aaload, 1) := by decide +kernel
theorem dX11_wouldBe_77 : decode cX11_wouldBe 77 = .ok (.iload_n 2, 1) := by decide +kernel
theorem dX11_wouldBe_78 : decode cX11_wouldBe 78 = .ok (.iload 7, 2) := by decide +kernel
theorem dX11_wouldBe_80 : decode cX11_wouldBe 80 = .ok (.iadd, 1) := by decide +kernel
theorem dX11_wouldBe_81 : decode cX11_wouldBe 81 = .ok (.iaload, 1) := by decide +kernel
theorem dX11_wouldBe_82 : decode cX11_wouldBe 82 = .ok (.istore 8, 2) := by decide +kernel
theorem dX11_wouldBe_84 : decode cX11_wouldBe 84 = .ok (.aload_n 0, 1) := by decide +kernel
theorem dX11_wouldBe_85 : decode cX11_wouldBe 85 = .ok (.getfield 10, 3) := by decide +kernel
theorem dX11_wouldBe_88 : decode cX11_wouldBe 88 = .ok (.getfield 100, 3) := by decide +kernel
theorem dX11_wouldBe_91 : decode cX11_wouldBe 91 = .ok (.iload 7, 2) := by decide +kernel
theorem dX11_wouldBe_93 : decode cX11_wouldBe 93 = .ok (.iadd, 1) := by decide +kernel
theorem dX11_wouldBe_94 : decode cX11_wouldBe 94 = .ok (.istore 9, 2) := by decide +kernel
theorem dX11_wouldBe_96 : decode cX11_wouldBe 96 = .ok (.aload_n 0, 1) := by decide +kernel
theorem dX11_wouldBe_97 : decode cX11_wouldBe 97 = .ok (.iload 8, 2) := by decide +kernel
theorem dX11_wouldBe_99 : decode cX11_wouldBe 99 = .ok (.invokevirtual 280, 3) := by decide +kernel
theorem dX11_wouldBe_102 : decode cX11_wouldBe 102 = .ok (.ifCond .eq 15, 3) := by decide +kernel
theorem dX11_wouldBe_105 : decode cX11_wouldBe 105 = .ok (.iload 9, 2) := by decide +kernel
theorem dX11_wouldBe_107 : decode cX11_wouldBe 107 = .ok (.aload_n 0, 1) := by decide +kernel
theorem dX11_wouldBe_108 : decode cX11_wouldBe 108 = .ok (.getfield 10, 3) := by decide +kernel
theorem dX11_wouldBe_111 : decode cX11_wouldBe 111 = .ok (.getfield 130, 3) := by decide +kernel
theorem dX11_wouldBe_114 : decode cX11_wouldBe 114 = .ok (.if_icmp .lt 6, 3) := by decide +kernel
theorem dX11_wouldBe_117 : decode cX11_wouldBe 117 = .ok (.bipush (-4), 2) := by decide +kernel
theorem dX11_wouldBe_119 : decode cX11_wouldBe 119 = .ok (.ireturn, 1) := by decide +kernel
theorem dX11_wouldBe_120 : decode cX11_wouldBe 120 = .ok (.aload_n 0, 1) := by decide +kernel
theorem dX11_wouldBe_121 : decode cX11_wouldBe 121 = .ok (.getfield 10, 3) := by decide +kernel
theorem dX11_wouldBe_124 : decode cX11_wouldBe 124 = .ok (.iload 5, 2) := by decide +kernel
theorem dX11_wouldBe_126 : decode cX11_wouldBe 126 = .ok (.iload 9, 2) := by decide +kernel
theorem dX11_wouldBe_128 : decode cX11_wouldBe 128 = .ok (.iload 8, 2) := by decide +kernel
theorem dX11_wouldBe_130 : decode cX11_wouldBe 130 = .ok (.invokestatic 216, 3) := by decide +kernel
theorem dX11_wouldBe_133 : decode cX11_wouldBe 133 = .ok (.invokevirtual 219, 3) := by decide +kernel
theorem dX11_wouldBe_136 : decode cX11_wouldBe 136 = .ok (.istore 5, 2) := by decide +kernel
theorem dX11_wouldBe_138 : decode cX11_wouldBe 138 = .ok (.iload 6, 2) := by decide +kernel
theorem dX11_wouldBe_140 : decode cX11_wouldBe 140 = .ok (.aload_n 0, 1) := by decide +kernel
theorem dX11_wouldBe_141 : decode cX11_wouldBe 141 = .ok (.getfield 10, 3) := by decide +kernel
theorem dX11_wouldBe_144 : decode cX11_wouldBe 144 = .ok (.iload 5, 2) := by decide +kernel
theorem dX11_wouldBe_146 : decode cX11_wouldBe 146 = .ok (.iload 9, 2) := by decide +kernel
theorem dX11_wouldBe_148 : decode cX11_wouldBe 148 = .ok (.invokevirtual 271, 3) := by decide +kernel
theorem dX11_wouldBe_151 : decode cX11_wouldBe 151 = .ok (.iadd, 1) := by decide +kernel
theorem dX11_wouldBe_152 : decode cX11_wouldBe 152 = .ok (.istore 6, 2) := by decide +kernel
theorem dX11_wouldBe_154 : decode cX11_wouldBe 154 = .ok (.iinc 7 1, 3) := by decide +kernel
theorem dX11_wouldBe_157 : decode cX11_wouldBe 157 = .ok (.goto (-107), 3) := by decide +kernel
theorem dX11_wouldBe_160 : decode cX11_wouldBe 160 = .ok (.iload 6, 2) := by decide +kernel
theorem dX11_wouldBe_162 : decode cX11_wouldBe 162 = .ok (.ireturn, 1) := by decide +kernel
theorem dX11_shelf_0 : decode cX11_shelf 0 = .ok (.iload_n 1, 1) := by decide +kernel
theorem dX11_shelf_1 : decode cX11_shelf 1 = .ok (.invokestatic 295, 3) := by decide +kernel
theorem dX11_shelf_4 : decode cX11_shelf 4 = .ok (.ifCond .ne 5, 3) := by decide +kernel
theorem dX11_shelf_7 : decode cX11_shelf 7 = .ok (.iconst (-1), 1) := by decide +kernel
theorem dX11_shelf_8 : decode cX11_shelf 8 = .ok (.ireturn, 1) := by decide +kernel
theorem dX11_shelf_9 : decode cX11_shelf 9 = .ok (.iload_n 2, 1) := by decide +kernel
theorem dX11_shelf_10 : decode cX11_shelf 10 = .ok (.ifCond .ne 20, 3) := by decide +kernel
theorem dX11_shelf_13 : decode cX11_shelf 13 = .ok (.aload_n 0, 1) := by decide +kernel
theorem dX11_shelf_14 : decode cX11_shelf 14 = .ok (.iload_n 3, 1) := by decide +kernel
theorem dX11_shelf_15 : decode cX11_shelf 15 = .ok (.invokevirtual 78, 3) := by decide +kernel
theorem dX11_shelf_18 : decode cX11_shelf 18 = .ok (.ifCond .eq 12, 3) := by decide +kernel
theorem dX11_shelf_21 : decode cX11_shelf 21 = .ok (.aload_n 0, 1) := by decide +kernel
theorem dX11_shelf_22 : decode cX11_shelf 22 = .ok (.iload_n 1, 1) := by decide +kernel
theorem dX11_shelf_23 : decode cX11_shelf 23 = .ok (.iconst 0, 1) := by decide +kernel
theorem dX11_shelf_24 : decode cX11_shelf 24 = .ok (.iload_n 3, 1) := by decide +kernel
theorem dX11_shelf_25 : decode cX11_shelf 25 = .ok (.iconst 0, 1) := by decide +kernel
theorem dX11_shelf_26 : decode cX11_shelf 26 = .ok (.invokevirtual 298, 3) := by decide +kernel
theorem dX11_shelf_29 : decode cX11_shelf 29 = .ok (.ireturn, 1) := by decide +kernel
theorem dX11_shelf_30 : decode cX11_shelf 30 = .ok (.iload_n 2, 1) := by decide +kernel
theorem dX11_shelf_31 : decode cX11_shelf 31 = .ok (.iconst 1, 1) := by decide +kernel
theorem dX11_shelf_32 : decode cX11_shelf 32 = .ok (.if_icmp .ne 55, 3) := by decide +kernel
theorem dX11_shelf_35 : decode cX11_shelf 35 = .ok (.iload_n 3, 1) := by decide +kernel
theorem dX11_shelf_36 : decode cX11_shelf 36 = .ok (.invokestatic 283, 3) := by decide +kernel
theorem dX11_shelf_39 : decode cX11_shelf 39 = .ok (.ifCond .eq 48, 3) := by decide +kernel
theorem dX11_shelf_42 : decode cX11_shelf 42 = .ok (.aload_n 0, 1) := by decide +kernel
theorem dX11_shelf_43 : decode cX11_shelf 43 = .ok (.getfield 37, 3) := by decide +kernel
theorem dX11_shelf_46 : decode cX11_shelf 46 = .ok (.iload_n 3, 1) := by decide +kernel
theorem dX11_shelf_47 : decode cX11_shelf 47 = .ok (.iaload, 1) := by decide +kernel
theorem dX11_shelf_48 : decode cX11_shelf 48 = .ok (.iconst (-1), 1) := by decide +kernel
theorem dX11_shelf_49 : decode cX11_shelf 49 = .ok (.if_icmp .ne 7, 3) := by decide +kernel
theorem dX11_shelf_52 : decode cX11_shelf 52 = .ok (.iconst 1, 1) := by decide +kernel
theorem dX11_shelf_53 : decode cX11_shelf 53 = .ok (.goto 4, 3) := by decide +kernel
theorem dX11_shelf_56 : decode cX11_shelf 56 = .ok (.iconst 0, 1) := by decide +kernel
theorem dX11_shelf_57 : decode cX11_shelf 57 = .ok (.istore 4, 2) := by decide +kernel
theorem dX11_shelf_59 : decode cX11_shelf 59 = .ok (.aload_n 0, 1) := by decide +kernel
theorem dX11_shelf_60 : decode cX11_shelf 60 = .ok (.iload_n 1, 1) := by decide +kernel
theorem dX11_shelf_61 : decode cX11_shelf 61 = .ok (.iload 4, 2) := by decide +kernel
theorem dX11_shelf_63 : decode cX11_shelf 63 = .ok (.ifCond .eq 7, 3) := by decide +kernel
theorem dX11_shelf_66 : decode cX11_shelf 66 = .ok (.iconst 2, 1) := by decide +kernel
theorem dX11_shelf_67 : decode cX11_shelf 67 = .ok (.goto 4, 3) := by decide +kernel
theorem dX11_shelf_70 : decode cX11_shelf 70 = .ok (.iconst 1, 1) := by decide +kernel
theorem dX11_shelf_71 : decode cX11_shelf 71 = .ok (.aload_n 0, 1) := by decide +kernel
theorem dX11_shelf_72 : decode cX11_shelf 72 = .ok (.getfield 37, 3) := by decide +kernel
theorem dX11_shelf_75 : decode cX11_shelf 75 = .ok (.iload_n 3, 1) := by decide +kernel
theorem dX11_shelf_76 : decode cX11_shelf 76 = .ok (.iaload, 1) := by decide +kernel
theorem dX11_shelf_77 : decode cX11_shelf 77 = .ok (.aload_n 0, 1) := by decide +kernel
theorem dX11_shelf_78 : decode cX11_shelf 78 = .ok (.getfield 40, 3) := by decide +kernel
theorem dX11_shelf_81 : decode cX11_shelf 81 = .ok (.iload_n 3, 1) := by decide +kernel
theorem dX11_shelf_82 : decode cX11_shelf 82 = .ok (.iaload, 1) := by decide +kernel
theorem dX11_shelf_83 : decode cX11_shelf 83 = .ok (.invokevirtual 298, 3) := by decide +kernel
theorem dX11_shelf_86 : decode cX11_shelf 86 = .ok (.ireturn, 1) := by decide +kernel
theorem dX11_shelf_87 : decode cX11_shelf 87 = .ok (.iload_n 2, 1) := by decide +kernel
theorem dX11_shelf_88 : decode cX11_shelf 88 = .ok (.iconst 2, 1) := by decide +kernel
theorem dX11_shelf_89 : decode cX11_shelf 89 = .ok (.if_icmp .ne 14, 3) := by decide +kernel
theorem dX11_shelf_92 : decode cX11_shelf 92 = .ok (.aload_n 0, 1) := by decide +kernel
theorem dX11_shelf_93 : decode cX11_shelf 93 = .ok (.iload_n 1, 1) := by decide +kernel
theorem dX11_shelf_94 : decode cX11_shelf 94 = .ok (.iconst 2, 1) := by decide +kernel
theorem dX11_shelf_95 : decode cX11_shelf 95 = .ok (.iconst 0, 1) := by decide +kernel
theorem dX11_shelf_96 : decode cX11_shelf 96 = .ok (.iconst 0, 1) := by decide +kernel
theorem dX11_shelf_97 : decode cX11_shelf 97 = .ok (.invokevirtual 298, 3) := by decide +kernel
theorem dX11_shelf_100 : decode cX11_shelf 100 = .ok (.goto 4, 3) := by decide +kernel
theorem dX11_shelf_103 : decode cX11_shelf 103 = .ok (.iconst (-1), 1) := by decide +kernel
theorem dX11_shelf_104 : decode cX11_shelf 104 = .ok (.ireturn, 1) := by decide +kernel
theorem dX11_taken_0 : decode cX11_taken 0 = .ok (.iload_n 2, 1) := by decide +kernel
theorem dX11_taken_1 : decode cX11_taken 1 = .ok (.bipush 10, 2) := by decide +kernel
theorem dX11_taken_3 : decode cX11_taken 3 = .ok (.bipush 14, 2) := by decide +kernel
theorem dX11_taken_5 : decode cX11_taken 5 = .ok (.invokestatic 120, 3) := by decide +kernel
theorem dX11_taken_8 : decode cX11_taken 8 = .ok (.istore_n 3, 1) := by decide +kernel
theorem dX11_taken_9 : decode cX11_taken 9 = .ok (.iload_n 1, 1) := by decide +kernel
theorem dX11_taken_10 : decode cX11_taken 10 = .ok (.invokestatic 295, 3) := by decide +kernel
theorem dX11_taken_13 : decode cX11_taken 13 = .ok (.ifCond .eq 16, 3) := by decide +kernel
theorem dX11_taken_16 : decode cX11_taken 16 = .ok (.iload_n 3, 1) := by decide +kernel
theorem dX11_taken_17 : decode cX11_taken 17 = .ok (.ifCond .ne 14, 3) := by decide +kernel
theorem dX11_taken_20 : decode cX11_taken 20 = .ok (.iload_n 2, 1) := by decide +kernel
theorem dX11_taken_21 : decode cX11_taken 21 = .ok (.iconst 0, 1) := by decide +kernel
theorem dX11_taken_22 : decode cX11_taken 22 = .ok (.iconst 5, 1) := by decide +kernel
theorem dX11_taken_23 : decode cX11_taken 23 = .ok (.invokestatic 120, 3) := by decide +kernel
theorem dX11_taken_26 : decode cX11_taken 26 = .ok (.ifCond .ne 5, 3) := by decide +kernel
theorem dX11_taken_29 : decode cX11_taken 29 = .ok (.iconst (-1), 1) := by decide +kernel
theorem dX11_taken_30 : decode cX11_taken 30 = .ok (.ireturn, 1) := by decide +kernel
theorem dX11_taken_31 : decode cX11_taken 31 = .ok (.aload_n 0, 1) := by decide +kernel
theorem dX11_taken_32 : decode cX11_taken 32 = .ok (.iload_n 1, 1) := by decide +kernel
theorem dX11_taken_33 : decode cX11_taken 33 = .ok (.invokevirtual 301, 3) := by decide +kernel
theorem dX11_taken_36 : decode cX11_taken 36 = .ok (.istore 4, 2) := by decide +kernel
theorem dX11_taken_38 : decode cX11_taken 38 = .ok (.iload 4, 2) := by decide +kernel
theorem dX11_taken_40 : decode cX11_taken 40 = .ok (.iconst 2, 1) := by decide +kernel
theorem dX11_taken_41 : decode cX11_taken 41 = .ok (.if_icmp .ne 6, 3) := by decide +kernel
theorem dX11_taken_44 : decode cX11_taken 44 = .ok (.bipush (-11), 2) := by decide +kernel
theorem dX11_taken_46 : decode cX11_taken 46 = .ok (.ireturn, 1) := by decide +kernel
theorem dX11_taken_47 : decode cX11_taken 47 = .ok (.aload_n 0, 1) := by decide +kernel
theorem dX11_taken_48 : decode cX11_taken 48 = .ok (.getfield 51, 3) := by decide +kernel
theorem dX11_taken_51 : decode cX11_taken 51 = .ok (.iload_n 1, 1) := by decide +kernel
theorem dX11_taken_52 : decode cX11_taken 52 = .ok (.iaload, 1) := by decide +kernel
theorem dX11_taken_53 : decode cX11_taken 53 = .ok (.istore 5, 2) := by decide +kernel
theorem dX11_taken_55 : decode cX11_taken 55 = .ok (.iload 4, 2) := by decide +kernel
theorem dX11_taken_57 : decode cX11_taken 57 = .ok (.iconst 1, 1) := by decide +kernel
theorem dX11_taken_58 : decode cX11_taken 58 = .ok (.if_icmp .ne 28, 3) := by decide +kernel
theorem dX11_taken_61 : decode cX11_taken 61 = .ok (.iload_n 3, 1) := by decide +kernel
theorem dX11_taken_62 : decode cX11_taken 62 = .ok (.ifCond .eq 21, 3) := by decide +kernel
theorem dX11_taken_65 : decode cX11_taken 65 = .ok (.iload 5, 2) := by decide +kernel
theorem dX11_taken_67 : decode cX11_taken 67 = .ok (.iload_n 2, 1) := by decide +kernel
theorem dX11_taken_68 : decode cX11_taken 68 = .ok (.bipush 10, 2) := by decide +kernel
theorem dX11_taken_70 : decode cX11_taken 70 = .ok (.isub, 1) := by decide +kernel
theorem dX11_taken_71 : decode cX11_taken 71 = .ok (.if_icmp .ne 12, 3) := by decide +kernel
theorem dX11_taken_74 : decode cX11_taken 74 = .ok (.aload_n 0, 1) := by decide +kernel
theorem dX11_taken_75 : decode cX11_taken 75 = .ok (.getfield 54, 3) := by decide +kernel
theorem dX11_taken_78 : decode cX11_taken 78 = .ok (.iload_n 1, 1) := by decide +kernel
theorem dX11_taken_79 : decode cX11_taken 79 = .ok (.iaload, 1) := by decide +kernel
theorem dX11_taken_80 : decode cX11_taken 80 = .ok (.goto 5, 3) := by decide +kernel
theorem dX11_taken_83 : decode cX11_taken 83 = .ok (.bipush (-13), 2) := by decide +kernel
theorem dX11_taken_85 : decode cX11_taken 85 = .ok (.ireturn, 1) := by decide +kernel
theorem dX11_taken_86 : decode cX11_taken 86 = .ok (.iload_n 3, 1) := by decide +kernel
theorem dX11_taken_87 : decode cX11_taken 87 = .ok (.ifCond .ne 25, 3) := by decide +kernel
theorem dX11_taken_90 : decode cX11_taken 90 = .ok (.aload_n 0, 1) := by decide +kernel
theorem dX11_taken_91 : decode cX11_taken 91 = .ok (.getfield 10, 3) := by decide +kernel
theorem dX11_taken_94 : decode cX11_taken 94 = .ok (.getfield 81, 3) := by decide +kernel
theorem dX11_taken_97 : decode cX11_taken 97 = .ok (.iload 5, 2) := by decide +kernel
theorem dX11_taken_99 : decode cX11_taken 99 = .ok (.iaload, 1) := by decide +kernel
theorem dX11_taken_100 : decode cX11_taken 100 = .ok (.iload_n 2, 1) := by decide +kernel
theorem dX11_taken_101 : decode cX11_taken 101 = .ok (.invokestatic 304, 3) := by decide +kernel
theorem dX11_taken_104 : decode cX11_taken 104 = .ok (.ifCond .eq 8, 3) := by decide +kernel
theorem dX11_taken_107 : decode cX11_taken 107 = .ok (.iload 5, 2) := by decide +kernel
theorem dX11_taken_109 : decode cX11_taken 109 = .ok (.goto 5, 3) := by decide +kernel
theorem dX11_taken_112 : decode cX11_taken 112 = .ok (.bipush (-13), 2) := by decide +kernel
theorem dX11_taken_114 : decode cX11_taken 114 = .ok (.ireturn, 1) := by decide +kernel
theorem dX11_act_0 : decode cX11_act 0 = .ok (.aload_n 0, 1) := by decide +kernel
theorem dX11_act_1 : decode cX11_act 1 = .ok (.getfield 29, 3) := by decide +kernel
theorem dX11_act_4 : decode cX11_act 4 = .ok (.invokevirtual 307, 3) := by decide +kernel
theorem dX11_act_7 : decode cX11_act 7 = .ok (.iload_n 1, 1) := by decide +kernel
theorem dX11_act_8 : decode cX11_act 8 = .ok (.invokestatic 295, 3) := by decide +kernel
theorem dX11_act_11 : decode cX11_act 11 = .ok (.ifCond .eq 20, 3) := by decide +kernel
theorem dX11_act_14 : decode cX11_act 14 = .ok (.iload_n 2, 1) := by decide +kernel
theorem dX11_act_15 : decode cX11_act 15 = .ok (.iconst 0, 1) := by decide +kernel
theorem dX11_act_16 : decode cX11_act 16 = .ok (.iconst 3, 1) := by decide +kernel
theorem dX11_act_17 : decode cX11_act 17 = .ok (.invokestatic 120, 3) := by decide +kernel
theorem dX11_act_20 : decode cX11_act 20 = .ok (.ifCond .eq 11, 3) := by decide +kernel
theorem dX11_act_23 : decode cX11_act 23 = .ok (.aload_n 0, 1) := by decide +kernel
theorem dX11_act_24 : decode cX11_act 24 = .ok (.iload_n 1, 1) := by decide +kernel
theorem dX11_act_25 : decode cX11_act 25 = .ok (.invokevirtual 301, 3) := by decide +kernel
theorem dX11_act_28 : decode cX11_act 28 = .ok (.ifCond .eq 5, 3) := by decide +kernel
theorem dX11_act_31 : decode cX11_act 31 = .ok (.iconst 0, 1) := by decide +kernel
theorem dX11_act_32 : decode cX11_act 32 = .ok (.ireturn, 1) := by decide +kernel
theorem dX11_act_33 : decode cX11_act 33 = .ok (.aload_n 0, 1) := by decide +kernel
theorem dX11_act_34 : decode cX11_act 34 = .ok (.getfield 51, 3) := by decide +kernel
theorem dX11_act_37 : decode cX11_act 37 = .ok (.iload_n 1, 1) := by decide +kernel
theorem dX11_act_38 : decode cX11_act 38 = .ok (.iaload, 1) := by decide +kernel
theorem dX11_act_39 : decode cX11_act 39 = .ok (.istore 4, 2) := by decide +kernel
theorem dX11_act_41 : decode cX11_act 41 = .ok (.aload_n 0, 1) := by decide +kernel
theorem dX11_act_42 : decode cX11_act 42 = .ok (.getfield 29, 3) := by decide +kernel
theorem dX11_act_45 : decode cX11_act 45 = .ok (.iload 4, 2) := by decide +kernel
theorem dX11_act_47 : decode cX11_act 47 = .ok (.putfield 310, 3) := by decide +kernel
theorem dX11_act_50 : decode cX11_act 50 = .ok (.aload_n 0, 1) := by decide +kernel
theorem dX11_act_51 : decode cX11_act 51 = .ok (.getfield 29, 3) := by decide +kernel
theorem dX11_act_54 : decode cX11_act 54 = .ok (.aload_n 0, 1) := by decide +kernel
theorem dX11_act_55 : decode cX11_act 55 = .ok (.getfield 10, 3) := by decide +kernel
theorem dX11_act_58 : decode cX11_act 58 = .ok (.getfield 90, 3) := by decide +kernel
theorem dX11_act_61 : decode cX11_act 61 = .ok (.iload 4, 2) := by decide +kernel
theorem dX11_act_63 : decode cX11_act 63 = .ok (.iaload, 1) := by decide +kernel
theorem dX11_act_64 : decode cX11_act 64 = .ok (.putfield 313, 3) := by decide +kernel
theorem dX11_act_67 : decode cX11_act 67 = .ok (.aload_n 0, 1) := by decide +kernel
theorem dX11_act_68 : decode cX11_act 68 = .ok (.getfield 10, 3) := by decide +kernel
theorem dX11_act_71 : decode cX11_act 71 = .ok (.getfield 315, 3) := by decide +kernel
theorem dX11_act_74 : decode cX11_act 74 = .ok (.aload_n 0, 1) := by decide +kernel
theorem dX11_act_75 : decode cX11_act 75 = .ok (.getfield 10, 3) := by decide +kernel
theorem dX11_act_78 : decode cX11_act 78 = .ok (.getfield 81, 3) := by decide +kernel
theorem dX11_act_81 : decode cX11_act 81 = .ok (.iload 4, 2) := by decide +kernel
theorem dX11_act_83 : decode cX11_act 83 = .ok (.iaload, 1) := by decide +kernel
theorem dX11_act_84 : decode cX11_act 84 = .ok (.aaload, 1) := by decide +kernel
theorem dX11_act_85 : decode cX11_act 85 = .ok (.astore 5, 2) := by decide +kernel
theorem dX11_act_87 : decode cX11_act 87 = .ok (.iload_n 2, 1) := by decide +kernel
theorem dX11_act_88 : decode cX11_act 88 = .ok (.tableswitch 73 0 2 #[28, 43, 58], 28) := by decide +kernel
theorem dX11_act_116 : decode cX11_act 116 = .ok (.aload 5, 2) := by decide +kernel
theorem dX11_act_118 : decode cX11_act 118 = .ok (.aload_n 0, 1) := by decide +kernel
theorem dX11_act_119 : decode cX11_act 119 = .ok (.getfield 29, 3) := by decide +kernel
theorem dX11_act_122 : decode cX11_act 122 = .ok (.iload_n 3, 1) := by decide +kernel
theorem dX11_act_123 : decode cX11_act 123 = .ok (.invokevirtual 319, 3) := by decide +kernel
theorem dX11_act_126 : decode cX11_act 126 = .ok (.istore 6, 2) := by decide +kernel
theorem dX11_act_128 : decode cX11_act 128 = .ok (.goto 45, 3) := by decide +kernel
theorem dX11_act_131 : decode cX11_act 131 = .ok (.aload 5, 2) := by decide +kernel
theorem dX11_act_133 : decode cX11_act 133 = .ok (.aload_n 0, 1) := by decide +kernel
theorem dX11_act_134 : decode cX11_act 134 = .ok (.getfield 29, 3) := by decide +kernel
theorem dX11_act_137 : decode cX11_act 137 = .ok (.iload_n 3, 1) := by decide +kernel
theorem dX11_act_138 : decode cX11_act 138 = .ok (.invokevirtual 325, 3) := by decide +kernel
theorem dX11_act_141 : decode cX11_act 141 = .ok (.istore 6, 2) := by decide +kernel
theorem dX11_act_143 : decode cX11_act 143 = .ok (.goto 30, 3) := by decide +kernel
theorem dX11_act_146 : decode cX11_act 146 = .ok (.aload 5, 2) := by decide +kernel
theorem dX11_act_148 : decode cX11_act 148 = .ok (.aload_n 0, 1) := by decide +kernel
theorem dX11_act_149 : decode cX11_act 149 = .ok (.getfield 29, 3) := by decide +kernel
theorem dX11_act_152 : decode cX11_act 152 = .ok (.iload_n 3, 1) := by decide +kernel
theorem dX11_act_153 : decode cX11_act 153 = .ok (.invokevirtual 328, 3) := by decide +kernel
theorem dX11_act_156 : decode cX11_act 156 = .ok (.istore 6, 2) := by decide +kernel
theorem dX11_act_158 : decode cX11_act 158 = .ok (.goto 15, 3) := by decide +kernel
theorem dX11_act_161 : decode cX11_act 161 = .ok (.aload 5, 2) := by decide +kernel
theorem dX11_act_163 : decode cX11_act 163 = .ok (.aload_n 0, 1) := by decide +kernel
theorem dX11_act_164 : decode cX11_act 164 = .ok (.getfield 29, 3) := by decide +kernel
theorem dX11_act_167 : decode cX11_act 167 = .ok (.iload_n 3, 1) := by decide +kernel
theorem dX11_act_168 : decode cX11_act 168 = .ok (.invokevirtual 331, 3) := by decide +kernel
theorem dX11_act_171 : decode cX11_act 171 = .ok (.istore 6, 2) := by decide +kernel
theorem dX11_act_173 : decode cX11_act 173 = .ok (.aload_n 0, 1) := by decide +kernel
theorem dX11_act_174 : decode cX11_act 174 = .ok (.getfield 29, 3) := by decide +kernel
theorem dX11_act_177 : decode cX11_act 177 = .ok (.getfield 334, 3) := by decide +kernel
theorem dX11_act_180 : decode cX11_act 180 = .ok (.ifCond .eq 8, 3) := by decide +kernel
theorem dX11_act_183 : decode cX11_act 183 = .ok (.bipush (-15), 2) := by decide +kernel
theorem dX11_act_185 : decode cX11_act 185 = .ok (.goto 5, 3) := by decide +kernel
theorem dX11_act_188 : decode cX11_act 188 = .ok (.iload 6, 2) := by decide +kernel
theorem dX11_act_190 : decode cX11_act 190 = .ok (.ireturn, 1) := by decide +kernel
theorem dX11_trace_0 : decode cX11_trace 0 = .ok (.iload_n 1, 1) := by decide +kernel
theorem dX11_trace_1 : decode cX11_trace 1 = .ok (.iconst 0, 1) := by decide +kernel
theorem dX11_trace_2 : decode cX11_trace 2 = .ok (.aload_n 0, 1) := by decide +kernel
theorem dX11_trace_3 : decode cX11_trace 3 = .ok (.getfield 29, 3) := by decide +kernel
theorem dX11_trace_6 : decode cX11_trace 6 = .ok (.getfield 338, 3) := by decide +kernel
theorem dX11_trace_9 : decode cX11_trace 9 = .ok (.iconst 1, 1) := by decide +kernel
theorem dX11_trace_10 : decode cX11_trace 10 = .ok (.isub, 1) := by decide +kernel
theorem dX11_trace_11 : decode cX11_trace 11 = .ok (.invokestatic 120, 3) := by decide +kernel
theorem dX11_trace_14 : decode cX11_trace 14 = .ok (.ifCond .eq 15, 3) := by decide +kernel
theorem dX11_trace_17 : decode cX11_trace 17 = .ok (.aload_n 0, 1) := by decide +kernel
theorem dX11_trace_18 : decode cX11_trace 18 = .ok (.getfield 29, 3) := by decide +kernel
theorem dX11_trace_21 : decode cX11_trace 21 = .ok (.getfield 339, 3) := by decide +kernel
theorem dX11_trace_24 : decode cX11_trace 24 = .ok (.iload_n 1, 1) := by decide +kernel
theorem dX11_trace_25 : decode cX11_trace 25 = .ok (.iaload, 1) := by decide +kernel
theorem dX11_trace_26 : decode cX11_trace 26 = .ok (.goto 5, 3) := by decide +kernel
theorem dX11_trace_29 : decode cX11_trace 29 = .ok (.bipush (-3), 2) := by decide +kernel
theorem dX11_trace_31 : decode cX11_trace 31 = .ok (.ireturn, 1) := by decide +kernel
theorem dX11_many_0 : decode cX11_many 0 = .ok (.iload_n 1, 1) := by decide +kernel
theorem dX11_many_1 : decode cX11_many 1 = .ok (.tableswitch 109 0 6 #[43, 51, 62, 80, 88, 93, 101], 43) := by decide +kernel
theorem dX11_many_44 : decode cX11_many 44 = .ok (.aload_n 0, 1) := by decide +kernel
theorem dX11_many_45 : decode cX11_many 45 = .ok (.getfield 10, 3) := by decide +kernel
theorem dX11_many_48 : decode cX11_many 48 = .ok (.getfield 70, 3) := by decide +kernel
theorem dX11_many_51 : decode cX11_many 51 = .ok (.ireturn, 1) := by decide +kernel
theorem dX11_many_52 : decode cX11_many 52 = .ok (.aload_n 0, 1) := by decide +kernel
theorem dX11_many_53 : decode cX11_many 53 = .ok (.getfield 10, 3) := by decide +kernel
theorem dX11_many_56 : decode cX11_many 56 = .ok (.getfield 342, 3) := by decide +kernel
theorem dX11_many_59 : decode cX11_many 59 = .ok (.getfield 162, 3) := by decide +kernel
theorem dX11_many_62 : decode cX11_many 62 = .ok (.ireturn, 1) := by decide +kernel
theorem dX11_many_63 : decode cX11_many 63 = .ok (.aload_n 0, 1) := by decide +kernel
theorem dX11_many_64 : decode cX11_many 64 = .ok (.getfield 10, 3) := by decide +kernel
theorem dX11_many_67 : decode cX11_many 67 = .ok (.aload_n 0, 1) := by decide +kernel
theorem dX11_many_68 : decode cX11_many 68 = .ok (.getfield 10, 3) := by decide +kernel
theorem dX11_many_71 : decode cX11_many 71 = .ok (.getfield 93, 3) := by decide +kernel
theorem dX11_many_74 : decode cX11_many 74 = .ok (.invokevirtual 140, 3) := by decide +kernel
theorem dX11_many_77 : decode cX11_many 77 = .ok (.invokestatic 198, 3) := by decide +kernel
theorem dX11_many_80 : decode cX11_many 80 = .ok (.ireturn, 1) := by decide +kernel
theorem dX11_many_81 : decode cX11_many 81 = .ok (.aload_n 0, 1) := by decide +kernel
theorem dX11_many_82 : decode cX11_many 82 = .ok (.getfield 10, 3) := by decide +kernel
theorem dX11_many_85 : decode cX11_many 85 = .ok (.getfield 250, 3) := by decide +kernel
theorem dX11_many_88 : decode cX11_many 88 = .ok (.ireturn, 1) := by decide +kernel
theorem dX11_many_89 : decode cX11_many 89 = .ok (.aload_n 0, 1) := by decide +kernel
theorem dX11_many_90 : decode cX11_many 90 = .ok (.getfield 274, 3) := by decide +kernel
theorem dX11_many_93 : decode cX11_many 93 = .ok (.ireturn, 1) := by decide +kernel
theorem dX11_many_94 : decode cX11_many 94 = .ok (.aload_n 0, 1) := by decide +kernel
theorem dX11_many_95 : decode cX11_many 95 = .ok (.getfield 22, 3) := by decide +kernel
theorem dX11_many_98 : decode cX11_many 98 = .ok (.getfield 144, 3) := by decide +kernel
theorem dX11_many_101 : decode cX11_many 101 = .ok (.ireturn, 1) := by decide +kernel
theorem dX11_many_102 : decode cX11_many 102 = .ok (.aload_n 0, 1) := by decide +kernel
theorem dX11_many_103 : decode cX11_many 103 = .ok (.getfield 29, 3) := by decide +kernel
theorem dX11_many_106 : decode cX11_many 106 = .ok (.getfield 338, 3) := by decide +kernel
theorem dX11_many_109 : decode cX11_many 109 = .ok (.ireturn, 1) := by decide +kernel
theorem dX11_many_110 : decode cX11_many 110 = .ok (.iconst (-1), 1) := by decide +kernel
theorem dX11_many_111 : decode cX11_many 111 = .ok (.ireturn, 1) := by decide +kernel
theorem dX11_keep_0 : decode cX11_keep 0 = .ok (.aload_n 0, 1) := by decide +kernel
theorem dX11_keep_1 : decode cX11_keep 1 = .ok (.getfield 16, 3) := by decide +kernel
theorem dX11_keep_4 : decode cX11_keep 4 = .ok (.aload_n 0, 1) := by decide +kernel
theorem dX11_keep_5 : decode cX11_keep 5 = .ok (.getfield 10, 3) := by decide +kernel
theorem dX11_keep_8 : decode cX11_keep 8 = .ok (.invokevirtual 346, 3) := by decide +kernel
theorem dX11_keep_11 : decode cX11_keep 11 = .ok (.aload_n 0, 1) := by decide +kernel
theorem dX11_keep_12 : decode cX11_keep 12 = .ok (.iconst 1, 1) := by decide +kernel
theorem dX11_keep_13 : decode cX11_keep 13 = .ok (.putfield 350, 3) := by decide +kernel
theorem dX11_keep_16 : decode cX11_keep 16 = .ok (.iconst 1, 1) := by decide +kernel
theorem dX11_keep_17 : decode cX11_keep 17 = .ok (.ireturn, 1) := by decide +kernel
theorem dX11_again_0 : decode cX11_again 0 = .ok (.aload_n 0, 1) := by decide +kernel
theorem dX11_again_1 : decode cX11_again 1 = .ok (.getfield 350, 3) := by decide +kernel
theorem dX11_again_4 : decode cX11_again 4 = .ok (.ifCond .ne 6, 3) := by decide +kernel
theorem dX11_again_7 : decode cX11_again 7 = .ok (.bipush (-3), 2) := by decide +kernel
theorem dX11_again_9 : decode cX11_again 9 = .ok (.ireturn, 1) := by decide +kernel
theorem dX11_again_10 : decode cX11_again 10 = .ok (.aload_n 0, 1) := by decide +kernel
theorem dX11_again_11 : decode cX11_again 11 = .ok (.getfield 10, 3) := by decide +kernel
theorem dX11_again_14 : decode cX11_again 14 = .ok (.aload_n 0, 1) := by decide +kernel
theorem dX11_again_15 : decode cX11_again 15 = .ok (.getfield 16, 3) := by decide +kernel
theorem dX11_again_18 : decode cX11_again 18 = .ok (.invokevirtual 346, 3) := by decide +kernel
theorem dX11_again_21 : decode cX11_again 21 = .ok (.aload_n 0, 1) := by decide +kernel
theorem dX11_again_22 : decode cX11_again 22 = .ok (.getfield 10, 3) := by decide +kernel
theorem dX11_again_25 : decode cX11_again 25 = .ok (.getfield 70, 3) := by decide +kernel
theorem dX11_again_28 : decode cX11_again 28 = .ok (.ireturn, 1) := by decide +kernel
theorem dX11_isBetween_0 : decode cX11_isBetween 0 = .ok (.iload_n 0, 1) := by decide +kernel
theorem dX11_isBetween_1 : decode cX11_isBetween 1 = .ok (.iload_n 1, 1) := by decide +kernel
theorem dX11_isBetween_2 : decode cX11_isBetween 2 = .ok (.if_icmp .lt 12, 3) := by decide +kernel
theorem dX11_isBetween_5 : decode cX11_isBetween 5 = .ok (.iload_n 0, 1) := by decide +kernel
theorem dX11_isBetween_6 : decode cX11_isBetween 6 = .ok (.iload_n 2, 1) := by decide +kernel
theorem dX11_isBetween_7 : decode cX11_isBetween 7 = .ok (.if_icmp .gt 7, 3) := by decide +kernel
theorem dX11_isBetween_10 : decode cX11_isBetween 10 = .ok (.iconst 1, 1) := by decide +kernel
theorem dX11_isBetween_11 : decode cX11_isBetween 11 = .ok (.goto 4, 3) := by decide +kernel
theorem dX11_isBetween_14 : decode cX11_isBetween 14 = .ok (.iconst 0, 1) := by decide +kernel
theorem dX11_isBetween_15 : decode cX11_isBetween 15 = .ok (.ireturn, 1) := by decide +kernel
theorem dX11_isKind_0 : decode cX11_isKind 0 = .ok (.iload_n 0, 1) := by decide +kernel
theorem dX11_isKind_1 : decode cX11_isKind 1 = .ok (.iconst 1, 1) := by decide +kernel
theorem dX11_isKind_2 : decode cX11_isKind 2 = .ok (.iconst 5, 1) := by decide +kernel
theorem dX11_isKind_3 : decode cX11_isKind 3 = .ok (.invokestatic 120, 3) := by decide +kernel
theorem dX11_isKind_6 : decode cX11_isKind 6 = .ok (.ireturn, 1) := by decide +kernel
theorem dX11_isWarm_0 : decode cX11_isWarm 0 = .ok (.iload_n 0, 1) := by decide +kernel
theorem dX11_isWarm_1 : decode cX11_isWarm 1 = .ok (.iconst 0, 1) := by decide +kernel
theorem dX11_isWarm_2 : decode cX11_isWarm 2 = .ok (.bipush 9, 2) := by decide +kernel
theorem dX11_isWarm_4 : decode cX11_isWarm 4 = .ok (.invokestatic 120, 3) := by decide +kernel
theorem dX11_isWarm_7 : decode cX11_isWarm 7 = .ok (.ireturn, 1) := by decide +kernel
theorem dX11_isPlace_0 : decode cX11_isPlace 0 = .ok (.iload_n 0, 1) := by decide +kernel
theorem dX11_isPlace_1 : decode cX11_isPlace 1 = .ok (.iconst 0, 1) := by decide +kernel
theorem dX11_isPlace_2 : decode cX11_isPlace 2 = .ok (.bipush 15, 2) := by decide +kernel
theorem dX11_isPlace_4 : decode cX11_isPlace 4 = .ok (.invokestatic 120, 3) := by decide +kernel
theorem dX11_isPlace_7 : decode cX11_isPlace 7 = .ok (.ireturn, 1) := by decide +kernel
theorem dX11_isFire_0 : decode cX11_isFire 0 = .ok (.iload_n 0, 1) := by decide +kernel
theorem dX11_isFire_1 : decode cX11_isFire 1 = .ok (.iconst 1, 1) := by decide +kernel
theorem dX11_isFire_2 : decode cX11_isFire 2 = .ok (.bipush 9, 2) := by decide +kernel
theorem dX11_isFire_4 : decode cX11_isFire 4 = .ok (.invokestatic 120, 3) := by decide +kernel
theorem dX11_isFire_7 : decode cX11_isFire 7 = .ok (.ireturn, 1) := by decide +kernel
theorem dX11_isPlan_0 : decode cX11_isPlan 0 = .ok (.iload_n 0, 1) := by decide +kernel
theorem dX11_isPlan_1 : decode cX11_isPlan 1 = .ok (.iconst 0, 1) := by decide +kernel
theorem dX11_isPlan_2 : decode cX11_isPlan 2 = .ok (.iconst 4, 1) := by decide +kernel
theorem dX11_isPlan_3 : decode cX11_isPlan 3 = .ok (.invokestatic 120, 3) := by decide +kernel
theorem dX11_isPlan_6 : decode cX11_isPlan 6 = .ok (.ireturn, 1) := by decide +kernel
theorem dX11_isGame_0 : decode cX11_isGame 0 = .ok (.iload_n 0, 1) := by decide +kernel
theorem dX11_isGame_1 : decode cX11_isGame 1 = .ok (.iconst 1, 1) := by decide +kernel
theorem dX11_isGame_2 : decode cX11_isGame 2 = .ok (.iconst 4, 1) := by decide +kernel
theorem dX11_isGame_3 : decode cX11_isGame 3 = .ok (.invokestatic 120, 3) := by decide +kernel
theorem dX11_isGame_6 : decode cX11_isGame 6 = .ok (.ireturn, 1) := by decide +kernel
theorem dX11_isFelt_0 : decode cX11_isFelt 0 = .ok (.iload_n 0, 1) := by decide +kernel
theorem dX11_isFelt_1 : decode cX11_isFelt 1 = .ok (.bipush (-20), 2) := by decide +kernel
theorem dX11_isFelt_3 : decode cX11_isFelt 3 = .ok (.bipush 20, 2) := by decide +kernel
theorem dX11_isFelt_5 : decode cX11_isFelt 5 = .ok (.invokestatic 120, 3) := by decide +kernel
theorem dX11_isFelt_8 : decode cX11_isFelt 8 = .ok (.ireturn, 1) := by decide +kernel
theorem dX11_isSheet_0 : decode cX11_isSheet 0 = .ok (.iload_n 0, 1) := by decide +kernel
theorem dX11_isSheet_1 : decode cX11_isSheet 1 = .ok (.iconst 0, 1) := by decide +kernel
theorem dX11_isSheet_2 : decode cX11_isSheet 2 = .ok (.iconst 3, 1) := by decide +kernel
theorem dX11_isSheet_3 : decode cX11_isSheet 3 = .ok (.invokestatic 120, 3) := by decide +kernel
theorem dX11_isSheet_6 : decode cX11_isSheet 6 = .ok (.ireturn, 1) := by decide +kernel
theorem dX11_isShelf_0 : decode cX11_isShelf 0 = .ok (.iload_n 0, 1) := by decide +kernel
theorem dX11_isShelf_1 : decode cX11_isShelf 1 = .ok (.iconst 0, 1) := by decide +kernel
theorem dX11_isShelf_2 : decode cX11_isShelf 2 = .ok (.iconst 3, 1) := by decide +kernel
theorem dX11_isShelf_3 : decode cX11_isShelf 3 = .ok (.invokestatic 120, 3) := by decide +kernel
theorem dX11_isShelf_6 : decode cX11_isShelf 6 = .ok (.ireturn, 1) := by decide +kernel
theorem dX11_isOven_0 : decode cX11_isOven 0 = .ok (.iload_n 1, 1) := by decide +kernel
theorem dX11_isOven_1 : decode cX11_isOven 1 = .ok (.iconst 0, 1) := by decide +kernel
theorem dX11_isOven_2 : decode cX11_isOven 2 = .ok (.aload_n 0, 1) := by decide +kernel
theorem dX11_isOven_3 : decode cX11_isOven 3 = .ok (.getfield 10, 3) := by decide +kernel
theorem dX11_isOven_6 : decode cX11_isOven 6 = .ok (.getfield 70, 3) := by decide +kernel
theorem dX11_isOven_9 : decode cX11_isOven 9 = .ok (.iconst 1, 1) := by decide +kernel
theorem dX11_isOven_10 : decode cX11_isOven 10 = .ok (.isub, 1) := by decide +kernel
theorem dX11_isOven_11 : decode cX11_isOven 11 = .ok (.invokestatic 120, 3) := by decide +kernel
theorem dX11_isOven_14 : decode cX11_isOven 14 = .ok (.ireturn, 1) := by decide +kernel
theorem dX11_isAct_0 : decode cX11_isAct 0 = .ok (.iload_n 1, 1) := by decide +kernel
theorem dX11_isAct_1 : decode cX11_isAct 1 = .ok (.iconst 0, 1) := by decide +kernel
theorem dX11_isAct_2 : decode cX11_isAct 2 = .ok (.aload_n 0, 1) := by decide +kernel
theorem dX11_isAct_3 : decode cX11_isAct 3 = .ok (.getfield 10, 3) := by decide +kernel
theorem dX11_isAct_6 : decode cX11_isAct 6 = .ok (.getfield 70, 3) := by decide +kernel
theorem dX11_isAct_9 : decode cX11_isAct 9 = .ok (.invokestatic 120, 3) := by decide +kernel
theorem dX11_isAct_12 : decode cX11_isAct 12 = .ok (.ireturn, 1) := by decide +kernel
theorem dX11_isOvenSet_0 : decode cX11_isOvenSet 0 = .ok (.iload_n 1, 1) := by decide +kernel
theorem dX11_isOvenSet_1 : decode cX11_isOvenSet 1 = .ok (.aload_n 0, 1) := by decide +kernel
theorem dX11_isOvenSet_2 : decode cX11_isOvenSet 2 = .ok (.getfield 10, 3) := by decide +kernel
theorem dX11_isOvenSet_5 : decode cX11_isOvenSet 5 = .ok (.invokevirtual 353, 3) := by decide +kernel
theorem dX11_isOvenSet_8 : decode cX11_isOvenSet 8 = .ok (.iconst (-1), 1) := by decide +kernel
theorem dX11_isOvenSet_9 : decode cX11_isOvenSet 9 = .ok (.ixor, 1) := by decide +kernel
theorem dX11_isOvenSet_10 : decode cX11_isOvenSet 10 = .ok (.iand, 1) := by decide +kernel
theorem dX11_isOvenSet_11 : decode cX11_isOvenSet 11 = .ok (.ifCond .ne 7, 3) := by decide +kernel
theorem dX11_isOvenSet_14 : decode cX11_isOvenSet 14 = .ok (.iconst 1, 1) := by decide +kernel
theorem dX11_isOvenSet_15 : decode cX11_isOvenSet 15 = .ok (.goto 4, 3) := by decide +kernel
theorem dX11_isOvenSet_18 : decode cX11_isOvenSet 18 = .ok (.iconst 0, 1) := by decide +kernel
theorem dX11_isOvenSet_19 : decode cX11_isOvenSet 19 = .ok (.ireturn, 1) := by decide +kernel
theorem dX11_isRow_0 : decode cX11_isRow 0 = .ok (.iload_n 1, 1) := by decide +kernel
theorem dX11_isRow_1 : decode cX11_isRow 1 = .ok (.iconst 0, 1) := by decide +kernel
theorem dX11_isRow_2 : decode cX11_isRow 2 = .ok (.aload_n 0, 1) := by decide +kernel
theorem dX11_isRow_3 : decode cX11_isRow 3 = .ok (.getfield 274, 3) := by decide +kernel
theorem dX11_isRow_6 : decode cX11_isRow 6 = .ok (.iconst 1, 1) := by decide +kernel
theorem dX11_isRow_7 : decode cX11_isRow 7 = .ok (.isub, 1) := by decide +kernel
theorem dX11_isRow_8 : decode cX11_isRow 8 = .ok (.invokestatic 120, 3) := by decide +kernel
theorem dX11_isRow_11 : decode cX11_isRow 11 = .ok (.ifCond .eq 16, 3) := by decide +kernel
theorem dX11_isRow_14 : decode cX11_isRow 14 = .ok (.iload_n 2, 1) := by decide +kernel
theorem dX11_isRow_15 : decode cX11_isRow 15 = .ok (.iconst 0, 1) := by decide +kernel
theorem dX11_isRow_16 : decode cX11_isRow 16 = .ok (.iconst 2, 1) := by decide +kernel
theorem dX11_isRow_17 : decode cX11_isRow 17 = .ok (.invokestatic 120, 3) := by decide +kernel
theorem dX11_isRow_20 : decode cX11_isRow 20 = .ok (.ifCond .eq 7, 3) := by decide +kernel
theorem dX11_isRow_23 : decode cX11_isRow 23 = .ok (.iconst 1, 1) := by decide +kernel
theorem dX11_isRow_24 : decode cX11_isRow 24 = .ok (.goto 4, 3) := by decide +kernel
theorem dX11_isRow_27 : decode cX11_isRow 27 = .ok (.iconst 0, 1) := by decide +kernel
theorem dX11_isRow_28 : decode cX11_isRow 28 = .ok (.ireturn, 1) := by decide +kernel
theorem dX11_isItem_0 : decode cX11_isItem 0 = .ok (.iload_n 2, 1) := by decide +kernel
theorem dX11_isItem_1 : decode cX11_isItem 1 = .ok (.iconst 0, 1) := by decide +kernel
theorem dX11_isItem_2 : decode cX11_isItem 2 = .ok (.aload_n 0, 1) := by decide +kernel
theorem dX11_isItem_3 : decode cX11_isItem 3 = .ok (.getfield 40, 3) := by decide +kernel
theorem dX11_isItem_6 : decode cX11_isItem 6 = .ok (.iload_n 1, 1) := by decide +kernel
theorem dX11_isItem_7 : decode cX11_isItem 7 = .ok (.iaload, 1) := by decide +kernel
theorem dX11_isItem_8 : decode cX11_isItem 8 = .ok (.iconst 1, 1) := by decide +kernel
theorem dX11_isItem_9 : decode cX11_isItem 9 = .ok (.isub, 1) := by decide +kernel
theorem dX11_isItem_10 : decode cX11_isItem 10 = .ok (.invokestatic 120, 3) := by decide +kernel
theorem dX11_isItem_13 : decode cX11_isItem 13 = .ok (.ireturn, 1) := by decide +kernel
theorem dX11_isUnder_0 : decode cX11_isUnder 0 = .ok (.iload_n 0, 1) := by decide +kernel
theorem dX11_isUnder_1 : decode cX11_isUnder 1 = .ok (.iconst 0, 1) := by decide +kernel
theorem dX11_isUnder_2 : decode cX11_isUnder 2 = .ok (.iconst 5, 1) := by decide +kernel
theorem dX11_isUnder_3 : decode cX11_isUnder 3 = .ok (.invokestatic 120, 3) := by decide +kernel
theorem dX11_isUnder_6 : decode cX11_isUnder 6 = .ok (.ifCond .eq 19, 3) := by decide +kernel
theorem dX11_isUnder_9 : decode cX11_isUnder 9 = .ok (.getstatic 357, 3) := by decide +kernel
theorem dX11_isUnder_12 : decode cX11_isUnder 12 = .ok (.iload_n 0, 1) := by decide +kernel
theorem dX11_isUnder_13 : decode cX11_isUnder 13 = .ok (.iaload, 1) := by decide +kernel
theorem dX11_isUnder_14 : decode cX11_isUnder 14 = .ok (.iload_n 1, 1) := by decide +kernel
theorem dX11_isUnder_15 : decode cX11_isUnder 15 = .ok (.ishr, 1) := by decide +kernel
theorem dX11_isUnder_16 : decode cX11_isUnder 16 = .ok (.iconst 1, 1) := by decide +kernel
theorem dX11_isUnder_17 : decode cX11_isUnder 17 = .ok (.iand, 1) := by decide +kernel
theorem dX11_isUnder_18 : decode cX11_isUnder 18 = .ok (.ifCond .eq 7, 3) := by decide +kernel
theorem dX11_isUnder_21 : decode cX11_isUnder 21 = .ok (.iconst 1, 1) := by decide +kernel
theorem dX11_isUnder_22 : decode cX11_isUnder 22 = .ok (.goto 4, 3) := by decide +kernel
theorem dX11_isUnder_25 : decode cX11_isUnder 25 = .ok (.iconst 0, 1) := by decide +kernel
theorem dX11_isUnder_26 : decode cX11_isUnder 26 = .ok (.ireturn, 1) := by decide +kernel
theorem dX11_chainOf_0 : decode cX11_chainOf 0 = .ok (.iload_n 0, 1) := by decide +kernel
theorem dX11_chainOf_1 : decode cX11_chainOf 1 = .ok (.ifCond .gt 7, 3) := by decide +kernel
theorem dX11_chainOf_4 : decode cX11_chainOf 4 = .ok (.iconst 0, 1) := by decide +kernel
theorem dX11_chainOf_5 : decode cX11_chainOf 5 = .ok (.goto 8, 3) := by decide +kernel
theorem dX11_chainOf_8 : decode cX11_chainOf 8 = .ok (.iconst 1, 1) := by decide +kernel
theorem dX11_chainOf_9 : decode cX11_chainOf 9 = .ok (.iload_n 0, 1) := by decide +kernel
theorem dX11_chainOf_10 : decode cX11_chainOf 10 = .ok (.iconst 1, 1) := by decide +kernel
theorem dX11_chainOf_11 : decode cX11_chainOf 11 = .ok (.isub, 1) := by decide +kernel
theorem dX11_chainOf_12 : decode cX11_chainOf 12 = .ok (.ishl, 1) := by decide +kernel
theorem dX11_chainOf_13 : decode cX11_chainOf 13 = .ok (.ireturn, 1) := by decide +kernel
theorem dX11_nextLot_0 : decode cX11_nextLot 0 = .ok (.iload_n 0, 1) := by decide +kernel
theorem dX11_nextLot_1 : decode cX11_nextLot 1 = .ok (.ldc_w 360, 3) := by decide +kernel
theorem dX11_nextLot_4 : decode cX11_nextLot 4 = .ok (.imul, 1) := by decide +kernel
theorem dX11_nextLot_5 : decode cX11_nextLot 5 = .ok (.sipush 12345, 3) := by decide +kernel
theorem dX11_nextLot_8 : decode cX11_nextLot 8 = .ok (.iadd, 1) := by decide +kernel
theorem dX11_nextLot_9 : decode cX11_nextLot 9 = .ok (.ireturn, 1) := by decide +kernel
theorem dX11_narrowed_0 : decode cX11_narrowed 0 = .ok (.iload_n 1, 1) := by decide +kernel
theorem dX11_narrowed_1 : decode cX11_narrowed 1 = .ok (.tableswitch 51 0 4 #[35, 38, 51, 51, 41], 35) := by decide +kernel
theorem dX11_narrowed_36 : decode cX11_narrowed 36 = .ok (.iload_n 0, 1) := by decide +kernel
theorem dX11_narrowed_37 : decode cX11_narrowed 37 = .ok (.i2b, 1) := by decide +kernel
theorem dX11_narrowed_38 : decode cX11_narrowed 38 = .ok (.ireturn, 1) := by decide +kernel
theorem dX11_narrowed_39 : decode cX11_narrowed 39 = .ok (.iload_n 0, 1) := by decide +kernel
theorem dX11_narrowed_40 : decode cX11_narrowed 40 = .ok (.i2s, 1) := by decide +kernel
theorem dX11_narrowed_41 : decode cX11_narrowed 41 = .ok (.ireturn, 1) := by decide +kernel
theorem dX11_narrowed_42 : decode cX11_narrowed 42 = .ok (.iload_n 0, 1) := by decide +kernel
theorem dX11_narrowed_43 : decode cX11_narrowed 43 = .ok (.ifCond .eq 7, 3) := by decide +kernel
theorem dX11_narrowed_46 : decode cX11_narrowed 46 = .ok (.iconst 1, 1) := by decide +kernel
theorem dX11_narrowed_47 : decode cX11_narrowed 47 = .ok (.goto 4, 3) := by decide +kernel
theorem dX11_narrowed_50 : decode cX11_narrowed 50 = .ok (.iconst 0, 1) := by decide +kernel
theorem dX11_narrowed_51 : decode cX11_narrowed 51 = .ok (.ireturn, 1) := by decide +kernel
theorem dX11_narrowed_52 : decode cX11_narrowed 52 = .ok (.iload_n 0, 1) := by decide +kernel
theorem dX11_narrowed_53 : decode cX11_narrowed 53 = .ok (.ireturn, 1) := by decide +kernel
theorem dX11_refusalAs_0 : decode cX11_refusalAs 0 = .ok (.aload_n 0, 1) := by decide +kernel
theorem dX11_refusalAs_1 : decode cX11_refusalAs 1 = .ok (.getfield 37, 3) := by decide +kernel
theorem dX11_refusalAs_4 : decode cX11_refusalAs 4 = .ok (.iload_n 1, 1) := by decide +kernel
theorem dX11_refusalAs_5 : decode cX11_refusalAs 5 = .ok (.iaload, 1) := by decide +kernel
theorem dX11_refusalAs_6 : decode cX11_refusalAs 6 = .ok (.iconst (-1), 1) := by decide +kernel
theorem dX11_refusalAs_7 : decode cX11_refusalAs 7 = .ok (.if_icmp .ne 6, 3) := by decide +kernel
theorem dX11_refusalAs_10 : decode cX11_refusalAs 10 = .ok (.bipush (-11), 2) := by decide +kernel
theorem dX11_refusalAs_12 : decode cX11_refusalAs 12 = .ok (.ireturn, 1) := by decide +kernel
theorem dX11_refusalAs_13 : decode cX11_refusalAs 13 = .ok (.aload_n 0, 1) := by decide +kernel
theorem dX11_refusalAs_14 : decode cX11_refusalAs 14 = .ok (.getfield 37, 3) := by decide +kernel
theorem dX11_refusalAs_17 : decode cX11_refusalAs 17 = .ok (.iload_n 1, 1) := by decide +kernel
theorem dX11_refusalAs_18 : decode cX11_refusalAs 18 = .ok (.iaload, 1) := by decide +kernel
theorem dX11_refusalAs_19 : decode cX11_refusalAs 19 = .ok (.iload_n 2, 1) := by decide +kernel
theorem dX11_refusalAs_20 : decode cX11_refusalAs 20 = .ok (.if_icmp .ne 7, 3) := by decide +kernel
theorem dX11_refusalAs_23 : decode cX11_refusalAs 23 = .ok (.iconst 0, 1) := by decide +kernel
theorem dX11_refusalAs_24 : decode cX11_refusalAs 24 = .ok (.goto 5, 3) := by decide +kernel
theorem dX11_refusalAs_27 : decode cX11_refusalAs 27 = .ok (.bipush (-13), 2) := by decide +kernel
theorem dX11_refusalAs_29 : decode cX11_refusalAs 29 = .ok (.ireturn, 1) := by decide +kernel
theorem dX11_putOn_0 : decode cX11_putOn 0 = .ok (.aload_n 0, 1) := by decide +kernel
theorem dX11_putOn_1 : decode cX11_putOn 1 = .ok (.getfield 48, 3) := by decide +kernel
theorem dX11_putOn_4 : decode cX11_putOn 4 = .ok (.iload_n 1, 1) := by decide +kernel
theorem dX11_putOn_5 : decode cX11_putOn 5 = .ok (.iload_n 2, 1) := by decide +kernel
theorem dX11_putOn_6 : decode cX11_putOn 6 = .ok (.iastore, 1) := by decide +kernel
theorem dX11_putOn_7 : decode cX11_putOn 7 = .ok (.aload_n 0, 1) := by decide +kernel
theorem dX11_putOn_8 : decode cX11_putOn 8 = .ok (.getfield 51, 3) := by decide +kernel
theorem dX11_putOn_11 : decode cX11_putOn 11 = .ok (.iload_n 1, 1) := by decide +kernel
theorem dX11_putOn_12 : decode cX11_putOn 12 = .ok (.iload_n 3, 1) := by decide +kernel
theorem dX11_putOn_13 : decode cX11_putOn 13 = .ok (.iastore, 1) := by decide +kernel
theorem dX11_putOn_14 : decode cX11_putOn 14 = .ok (.aload_n 0, 1) := by decide +kernel
theorem dX11_putOn_15 : decode cX11_putOn 15 = .ok (.getfield 54, 3) := by decide +kernel
theorem dX11_putOn_18 : decode cX11_putOn 18 = .ok (.iload_n 1, 1) := by decide +kernel
theorem dX11_putOn_19 : decode cX11_putOn 19 = .ok (.iload 4, 2) := by decide +kernel
theorem dX11_putOn_21 : decode cX11_putOn 21 = .ok (.iastore, 1) := by decide +kernel
theorem dX11_putOn_22 : decode cX11_putOn 22 = .ok (.iconst 1, 1) := by decide +kernel
theorem dX11_putOn_23 : decode cX11_putOn 23 = .ok (.ireturn, 1) := by decide +kernel
theorem dX11_heldOn_0 : decode cX11_heldOn 0 = .ok (.aload_n 0, 1) := by decide +kernel
theorem dX11_heldOn_1 : decode cX11_heldOn 1 = .ok (.getfield 48, 3) := by decide +kernel
theorem dX11_heldOn_4 : decode cX11_heldOn 4 = .ok (.iload_n 1, 1) := by decide +kernel
theorem dX11_heldOn_5 : decode cX11_heldOn 5 = .ok (.iaload, 1) := by decide +kernel
theorem dX11_heldOn_6 : decode cX11_heldOn 6 = .ok (.ifCond .ne 20, 3) := by decide +kernel
theorem dX11_heldOn_9 : decode cX11_heldOn 9 = .ok (.aload_n 0, 1) := by decide +kernel
theorem dX11_heldOn_10 : decode cX11_heldOn 10 = .ok (.aload_n 0, 1) := by decide +kernel
theorem dX11_heldOn_11 : decode cX11_heldOn 11 = .ok (.getfield 51, 3) := by decide +kernel
theorem dX11_heldOn_14 : decode cX11_heldOn 14 = .ok (.iload_n 1, 1) := by decide +kernel
theorem dX11_heldOn_15 : decode cX11_heldOn 15 = .ok (.iaload, 1) := by decide +kernel
theorem dX11_heldOn_16 : decode cX11_heldOn 16 = .ok (.invokevirtual 78, 3) := by decide +kernel
theorem dX11_heldOn_19 : decode cX11_heldOn 19 = .ok (.ifCond .ne 7, 3) := by decide +kernel
theorem dX11_heldOn_22 : decode cX11_heldOn 22 = .ok (.iconst 1, 1) := by decide +kernel
theorem dX11_heldOn_23 : decode cX11_heldOn 23 = .ok (.goto 4, 3) := by decide +kernel
theorem dX11_heldOn_26 : decode cX11_heldOn 26 = .ok (.iconst 0, 1) := by decide +kernel
theorem dX11_heldOn_27 : decode cX11_heldOn 27 = .ok (.istore_n 2, 1) := by decide +kernel
theorem dX11_heldOn_28 : decode cX11_heldOn 28 = .ok (.iload_n 2, 1) := by decide +kernel
theorem dX11_heldOn_29 : decode cX11_heldOn 29 = .ok (.ifCond .eq 7, 3) := by decide +kernel
theorem dX11_heldOn_32 : decode cX11_heldOn 32 = .ok (.iconst 2, 1) := by decide +kernel
theorem dX11_heldOn_33 : decode cX11_heldOn 33 = .ok (.goto 9, 3) := by decide +kernel
theorem dX11_heldOn_36 : decode cX11_heldOn 36 = .ok (.aload_n 0, 1) := by decide +kernel
theorem dX11_heldOn_37 : decode cX11_heldOn 37 = .ok (.getfield 48, 3) := by decide +kernel
theorem dX11_heldOn_40 : decode cX11_heldOn 40 = .ok (.iload_n 1, 1) := by decide +kernel
theorem dX11_heldOn_41 : decode cX11_heldOn 41 = .ok (.iaload, 1) := by decide +kernel
theorem dX11_heldOn_42 : decode cX11_heldOn 42 = .ok (.ireturn, 1) := by decide +kernel
theorem dJ6_numberOfTrailingZeros_0f7a4_0 : decode cJ6_numberOfTrailingZeros_0f7a4 0 = .ok (.iload_n 0, 1) := by decide +kernel
theorem dJ6_numberOfTrailingZeros_0f7a4_1 : decode cJ6_numberOfTrailingZeros_0f7a4 1 = .ok (.iconst (-1), 1) := by decide +kernel
theorem dJ6_numberOfTrailingZeros_0f7a4_2 : decode cJ6_numberOfTrailingZeros_0f7a4 2 = .ok (.ixor, 1) := by decide +kernel
theorem dJ6_numberOfTrailingZeros_0f7a4_3 : decode cJ6_numberOfTrailingZeros_0f7a4 3 = .ok (.iload_n 0, 1) := by decide +kernel
theorem dJ6_numberOfTrailingZeros_0f7a4_4 : decode cJ6_numberOfTrailingZeros_0f7a4 4 = .ok (.iconst 1, 1) := by decide +kernel
theorem dJ6_numberOfTrailingZeros_0f7a4_5 : decode cJ6_numberOfTrailingZeros_0f7a4 5 = .ok (.isub, 1) := by decide +kernel
theorem dJ6_numberOfTrailingZeros_0f7a4_6 : decode cJ6_numberOfTrailingZeros_0f7a4 6 = .ok (.iand, 1) := by decide +kernel
theorem dJ6_numberOfTrailingZeros_0f7a4_7 : decode cJ6_numberOfTrailingZeros_0f7a4 7 = .ok (.istore_n 0, 1) := by decide +kernel
theorem dJ6_numberOfTrailingZeros_0f7a4_8 : decode cJ6_numberOfTrailingZeros_0f7a4 8 = .ok (.iload_n 0, 1) := by decide +kernel
theorem dJ6_numberOfTrailingZeros_0f7a4_9 : decode cJ6_numberOfTrailingZeros_0f7a4 9 = .ok (.ifCond .gt 8, 3) := by decide +kernel
theorem dJ6_numberOfTrailingZeros_0f7a4_12 : decode cJ6_numberOfTrailingZeros_0f7a4 12 = .ok (.iload_n 0, 1) := by decide +kernel
theorem dJ6_numberOfTrailingZeros_0f7a4_13 : decode cJ6_numberOfTrailingZeros_0f7a4 13 = .ok (.bipush 32, 2) := by decide +kernel
theorem dJ6_numberOfTrailingZeros_0f7a4_15 : decode cJ6_numberOfTrailingZeros_0f7a4 15 = .ok (.iand, 1) := by decide +kernel
theorem dJ6_numberOfTrailingZeros_0f7a4_16 : decode cJ6_numberOfTrailingZeros_0f7a4 16 = .ok (.ireturn, 1) := by decide +kernel
theorem dJ6_numberOfTrailingZeros_0f7a4_17 : decode cJ6_numberOfTrailingZeros_0f7a4 17 = .ok (.iconst 1, 1) := by decide +kernel
theorem dJ6_numberOfTrailingZeros_0f7a4_18 : decode cJ6_numberOfTrailingZeros_0f7a4 18 = .ok (.istore_n 1, 1) := by decide +kernel
theorem dJ6_numberOfTrailingZeros_0f7a4_19 : decode cJ6_numberOfTrailingZeros_0f7a4 19 = .ok (.iload_n 0, 1) := by decide +kernel
theorem dJ6_numberOfTrailingZeros_0f7a4_20 : decode cJ6_numberOfTrailingZeros_0f7a4 20 = .ok (.ldc_w 264, 3) := by decide +kernel
theorem dJ6_numberOfTrailingZeros_0f7a4_23 : decode cJ6_numberOfTrailingZeros_0f7a4 23 = .ok (.if_icmp .le 11, 3) := by decide +kernel
theorem dJ6_numberOfTrailingZeros_0f7a4_26 : decode cJ6_numberOfTrailingZeros_0f7a4 26 = .ok (.iinc 1 16, 3) := by decide +kernel
theorem dJ6_numberOfTrailingZeros_0f7a4_29 : decode cJ6_numberOfTrailingZeros_0f7a4 29 = .ok (.iload_n 0, 1) := by decide +kernel
theorem dJ6_numberOfTrailingZeros_0f7a4_30 : decode cJ6_numberOfTrailingZeros_0f7a4 30 = .ok (.bipush 16, 2) := by decide +kernel
theorem dJ6_numberOfTrailingZeros_0f7a4_32 : decode cJ6_numberOfTrailingZeros_0f7a4 32 = .ok (.iushr, 1) := by decide +kernel
theorem dJ6_numberOfTrailingZeros_0f7a4_33 : decode cJ6_numberOfTrailingZeros_0f7a4 33 = .ok (.istore_n 0, 1) := by decide +kernel
theorem dJ6_numberOfTrailingZeros_0f7a4_34 : decode cJ6_numberOfTrailingZeros_0f7a4 34 = .ok (.iload_n 0, 1) := by decide +kernel
theorem dJ6_numberOfTrailingZeros_0f7a4_35 : decode cJ6_numberOfTrailingZeros_0f7a4 35 = .ok (.sipush 256, 3) := by decide +kernel
theorem dJ6_numberOfTrailingZeros_0f7a4_38 : decode cJ6_numberOfTrailingZeros_0f7a4 38 = .ok (.if_icmp .le 11, 3) := by decide +kernel
theorem dJ6_numberOfTrailingZeros_0f7a4_41 : decode cJ6_numberOfTrailingZeros_0f7a4 41 = .ok (.iinc 1 8, 3) := by decide +kernel
theorem dJ6_numberOfTrailingZeros_0f7a4_44 : decode cJ6_numberOfTrailingZeros_0f7a4 44 = .ok (.iload_n 0, 1) := by decide +kernel
theorem dJ6_numberOfTrailingZeros_0f7a4_45 : decode cJ6_numberOfTrailingZeros_0f7a4 45 = .ok (.bipush 8, 2) := by decide +kernel
theorem dJ6_numberOfTrailingZeros_0f7a4_47 : decode cJ6_numberOfTrailingZeros_0f7a4 47 = .ok (.iushr, 1) := by decide +kernel
theorem dJ6_numberOfTrailingZeros_0f7a4_48 : decode cJ6_numberOfTrailingZeros_0f7a4 48 = .ok (.istore_n 0, 1) := by decide +kernel
theorem dJ6_numberOfTrailingZeros_0f7a4_49 : decode cJ6_numberOfTrailingZeros_0f7a4 49 = .ok (.iload_n 0, 1) := by decide +kernel
theorem dJ6_numberOfTrailingZeros_0f7a4_50 : decode cJ6_numberOfTrailingZeros_0f7a4 50 = .ok (.bipush 16, 2) := by decide +kernel
theorem dJ6_numberOfTrailingZeros_0f7a4_52 : decode cJ6_numberOfTrailingZeros_0f7a4 52 = .ok (.if_icmp .le 10, 3) := by decide +kernel
theorem dJ6_numberOfTrailingZeros_0f7a4_55 : decode cJ6_numberOfTrailingZeros_0f7a4 55 = .ok (.iinc 1 4, 3) := by decide +kernel
theorem dJ6_numberOfTrailingZeros_0f7a4_58 : decode cJ6_numberOfTrailingZeros_0f7a4 58 = .ok (.iload_n 0, 1) := by decide +kernel
theorem dJ6_numberOfTrailingZeros_0f7a4_59 : decode cJ6_numberOfTrailingZeros_0f7a4 59 = .ok (.iconst 4, 1) := by decide +kernel
theorem dJ6_numberOfTrailingZeros_0f7a4_60 : decode cJ6_numberOfTrailingZeros_0f7a4 60 = .ok (.iushr, 1) := by decide +kernel
theorem dJ6_numberOfTrailingZeros_0f7a4_61 : decode cJ6_numberOfTrailingZeros_0f7a4 61 = .ok (.istore_n 0, 1) := by decide +kernel
theorem dJ6_numberOfTrailingZeros_0f7a4_62 : decode cJ6_numberOfTrailingZeros_0f7a4 62 = .ok (.iload_n 0, 1) := by decide +kernel
theorem dJ6_numberOfTrailingZeros_0f7a4_63 : decode cJ6_numberOfTrailingZeros_0f7a4 63 = .ok (.iconst 4, 1) := by decide +kernel
theorem dJ6_numberOfTrailingZeros_0f7a4_64 : decode cJ6_numberOfTrailingZeros_0f7a4 64 = .ok (.if_icmp .le 10, 3) := by decide +kernel
theorem dJ6_numberOfTrailingZeros_0f7a4_67 : decode cJ6_numberOfTrailingZeros_0f7a4 67 = .ok (.iinc 1 2, 3) := by decide +kernel
theorem dJ6_numberOfTrailingZeros_0f7a4_70 : decode cJ6_numberOfTrailingZeros_0f7a4 70 = .ok (.iload_n 0, 1) := by decide +kernel
theorem dJ6_numberOfTrailingZeros_0f7a4_71 : decode cJ6_numberOfTrailingZeros_0f7a4 71 = .ok (.iconst 2, 1) := by decide +kernel
theorem dJ6_numberOfTrailingZeros_0f7a4_72 : decode cJ6_numberOfTrailingZeros_0f7a4 72 = .ok (.iushr, 1) := by decide +kernel
theorem dJ6_numberOfTrailingZeros_0f7a4_73 : decode cJ6_numberOfTrailingZeros_0f7a4 73 = .ok (.istore_n 0, 1) := by decide +kernel
theorem dJ6_numberOfTrailingZeros_0f7a4_74 : decode cJ6_numberOfTrailingZeros_0f7a4 74 = .ok (.iload_n 1, 1) := by decide +kernel
theorem dJ6_numberOfTrailingZeros_0f7a4_75 : decode cJ6_numberOfTrailingZeros_0f7a4 75 = .ok (.iload_n 0, 1) := by decide +kernel
theorem dJ6_numberOfTrailingZeros_0f7a4_76 : decode cJ6_numberOfTrailingZeros_0f7a4 76 = .ok (.iconst 1, 1) := by decide +kernel
theorem dJ6_numberOfTrailingZeros_0f7a4_77 : decode cJ6_numberOfTrailingZeros_0f7a4 77 = .ok (.iushr, 1) := by decide +kernel
theorem dJ6_numberOfTrailingZeros_0f7a4_78 : decode cJ6_numberOfTrailingZeros_0f7a4 78 = .ok (.iadd, 1) := by decide +kernel
theorem dJ6_numberOfTrailingZeros_0f7a4_79 : decode cJ6_numberOfTrailingZeros_0f7a4 79 = .ok (.ireturn, 1) := by decide +kernel
theorem dJ6_bitCount_0f7a4_0 : decode cJ6_bitCount_0f7a4 0 = .ok (.iload_n 0, 1) := by decide +kernel
theorem dJ6_bitCount_0f7a4_1 : decode cJ6_bitCount_0f7a4 1 = .ok (.iload_n 0, 1) := by decide +kernel
theorem dJ6_bitCount_0f7a4_2 : decode cJ6_bitCount_0f7a4 2 = .ok (.iconst 1, 1) := by decide +kernel
theorem dJ6_bitCount_0f7a4_3 : decode cJ6_bitCount_0f7a4 3 = .ok (.iushr, 1) := by decide +kernel
theorem dJ6_bitCount_0f7a4_4 : decode cJ6_bitCount_0f7a4 4 = .ok (.ldc_w 265, 3) := by decide +kernel
theorem dJ6_bitCount_0f7a4_7 : decode cJ6_bitCount_0f7a4 7 = .ok (.iand, 1) := by decide +kernel
theorem dJ6_bitCount_0f7a4_8 : decode cJ6_bitCount_0f7a4 8 = .ok (.isub, 1) := by decide +kernel
theorem dJ6_bitCount_0f7a4_9 : decode cJ6_bitCount_0f7a4 9 = .ok (.istore_n 0, 1) := by decide +kernel
theorem dJ6_bitCount_0f7a4_10 : decode cJ6_bitCount_0f7a4 10 = .ok (.iload_n 0, 1) := by decide +kernel
theorem dJ6_bitCount_0f7a4_11 : decode cJ6_bitCount_0f7a4 11 = .ok (.ldc_w 266, 3) := by decide +kernel
theorem dJ6_bitCount_0f7a4_14 : decode cJ6_bitCount_0f7a4 14 = .ok (.iand, 1) := by decide +kernel
theorem dJ6_bitCount_0f7a4_15 : decode cJ6_bitCount_0f7a4 15 = .ok (.iload_n 0, 1) := by decide +kernel
theorem dJ6_bitCount_0f7a4_16 : decode cJ6_bitCount_0f7a4 16 = .ok (.iconst 2, 1) := by decide +kernel
theorem dJ6_bitCount_0f7a4_17 : decode cJ6_bitCount_0f7a4 17 = .ok (.iushr, 1) := by decide +kernel
theorem dJ6_bitCount_0f7a4_18 : decode cJ6_bitCount_0f7a4 18 = .ok (.ldc_w 266, 3) := by decide +kernel
theorem dJ6_bitCount_0f7a4_21 : decode cJ6_bitCount_0f7a4 21 = .ok (.iand, 1) := by decide +kernel
theorem dJ6_bitCount_0f7a4_22 : decode cJ6_bitCount_0f7a4 22 = .ok (.iadd, 1) := by decide +kernel
theorem dJ6_bitCount_0f7a4_23 : decode cJ6_bitCount_0f7a4 23 = .ok (.istore_n 0, 1) := by decide +kernel
theorem dJ6_bitCount_0f7a4_24 : decode cJ6_bitCount_0f7a4 24 = .ok (.iload_n 0, 1) := by decide +kernel
theorem dJ6_bitCount_0f7a4_25 : decode cJ6_bitCount_0f7a4 25 = .ok (.iload_n 0, 1) := by decide +kernel
theorem dJ6_bitCount_0f7a4_26 : decode cJ6_bitCount_0f7a4 26 = .ok (.iconst 4, 1) := by decide +kernel
theorem dJ6_bitCount_0f7a4_27 : decode cJ6_bitCount_0f7a4 27 = .ok (.iushr, 1) := by decide +kernel
theorem dJ6_bitCount_0f7a4_28 : decode cJ6_bitCount_0f7a4 28 = .ok (.iadd, 1) := by decide +kernel
theorem dJ6_bitCount_0f7a4_29 : decode cJ6_bitCount_0f7a4 29 = .ok (.ldc_w 267, 3) := by decide +kernel
theorem dJ6_bitCount_0f7a4_32 : decode cJ6_bitCount_0f7a4 32 = .ok (.iand, 1) := by decide +kernel
theorem dJ6_bitCount_0f7a4_33 : decode cJ6_bitCount_0f7a4 33 = .ok (.istore_n 0, 1) := by decide +kernel
theorem dJ6_bitCount_0f7a4_34 : decode cJ6_bitCount_0f7a4 34 = .ok (.iload_n 0, 1) := by decide +kernel
theorem dJ6_bitCount_0f7a4_35 : decode cJ6_bitCount_0f7a4 35 = .ok (.iload_n 0, 1) := by decide +kernel
theorem dJ6_bitCount_0f7a4_36 : decode cJ6_bitCount_0f7a4 36 = .ok (.bipush 8, 2) := by decide +kernel
theorem dJ6_bitCount_0f7a4_38 : decode cJ6_bitCount_0f7a4 38 = .ok (.iushr, 1) := by decide +kernel
theorem dJ6_bitCount_0f7a4_39 : decode cJ6_bitCount_0f7a4 39 = .ok (.iadd, 1) := by decide +kernel
theorem dJ6_bitCount_0f7a4_40 : decode cJ6_bitCount_0f7a4 40 = .ok (.istore_n 0, 1) := by decide +kernel
theorem dJ6_bitCount_0f7a4_41 : decode cJ6_bitCount_0f7a4 41 = .ok (.iload_n 0, 1) := by decide +kernel
theorem dJ6_bitCount_0f7a4_42 : decode cJ6_bitCount_0f7a4 42 = .ok (.iload_n 0, 1) := by decide +kernel
theorem dJ6_bitCount_0f7a4_43 : decode cJ6_bitCount_0f7a4 43 = .ok (.bipush 16, 2) := by decide +kernel
theorem dJ6_bitCount_0f7a4_45 : decode cJ6_bitCount_0f7a4 45 = .ok (.iushr, 1) := by decide +kernel
theorem dJ6_bitCount_0f7a4_46 : decode cJ6_bitCount_0f7a4 46 = .ok (.iadd, 1) := by decide +kernel
theorem dJ6_bitCount_0f7a4_47 : decode cJ6_bitCount_0f7a4 47 = .ok (.istore_n 0, 1) := by decide +kernel
theorem dJ6_bitCount_0f7a4_48 : decode cJ6_bitCount_0f7a4 48 = .ok (.iload_n 0, 1) := by decide +kernel
theorem dJ6_bitCount_0f7a4_49 : decode cJ6_bitCount_0f7a4 49 = .ok (.bipush 63, 2) := by decide +kernel
theorem dJ6_bitCount_0f7a4_51 : decode cJ6_bitCount_0f7a4 51 = .ok (.iand, 1) := by decide +kernel
theorem dJ6_bitCount_0f7a4_52 : decode cJ6_bitCount_0f7a4 52 = .ok (.ireturn, 1) := by decide +kernel
theorem dJ9_abs_0f7a4_0 : decode cJ9_abs_0f7a4 0 = .ok (.iload_n 0, 1) := by decide +kernel
theorem dJ9_abs_0f7a4_1 : decode cJ9_abs_0f7a4 1 = .ok (.ifCond .ge 8, 3) := by decide +kernel
theorem dJ9_abs_0f7a4_4 : decode cJ9_abs_0f7a4 4 = .ok (.iload_n 0, 1) := by decide +kernel
theorem dJ9_abs_0f7a4_5 : decode cJ9_abs_0f7a4 5 = .ok (.ineg, 1) := by decide +kernel
theorem dJ9_abs_0f7a4_6 : decode cJ9_abs_0f7a4 6 = .ok (.goto 4, 3) := by decide +kernel
theorem dJ9_abs_0f7a4_9 : decode cJ9_abs_0f7a4 9 = .ok (.iload_n 0, 1) := by decide +kernel
theorem dJ9_abs_0f7a4_10 : decode cJ9_abs_0f7a4 10 = .ok (.ireturn, 1) := by decide +kernel
theorem dJ9_max_7cf53_0 : decode cJ9_max_7cf53 0 = .ok (.iload_n 0, 1) := by decide +kernel
theorem dJ9_max_7cf53_1 : decode cJ9_max_7cf53 1 = .ok (.iload_n 1, 1) := by decide +kernel
theorem dJ9_max_7cf53_2 : decode cJ9_max_7cf53 2 = .ok (.if_icmp .lt 7, 3) := by decide +kernel
theorem dJ9_max_7cf53_5 : decode cJ9_max_7cf53 5 = .ok (.iload_n 0, 1) := by decide +kernel
theorem dJ9_max_7cf53_6 : decode cJ9_max_7cf53 6 = .ok (.goto 4, 3) := by decide +kernel
theorem dJ9_max_7cf53_9 : decode cJ9_max_7cf53 9 = .ok (.iload_n 1, 1) := by decide +kernel
theorem dJ9_max_7cf53_10 : decode cJ9_max_7cf53 10 = .ok (.ireturn, 1) := by decide +kernel
theorem dJ9_min_7cf53_0 : decode cJ9_min_7cf53 0 = .ok (.iload_n 0, 1) := by decide +kernel
theorem dJ9_min_7cf53_1 : decode cJ9_min_7cf53 1 = .ok (.iload_n 1, 1) := by decide +kernel
theorem dJ9_min_7cf53_2 : decode cJ9_min_7cf53 2 = .ok (.if_icmp .gt 7, 3) := by decide +kernel
theorem dJ9_min_7cf53_5 : decode cJ9_min_7cf53 5 = .ok (.iload_n 0, 1) := by decide +kernel
theorem dJ9_min_7cf53_6 : decode cJ9_min_7cf53 6 = .ok (.goto 4, 3) := by decide +kernel
theorem dJ9_min_7cf53_9 : decode cJ9_min_7cf53 9 = .ok (.iload_n 1, 1) := by decide +kernel
theorem dJ9_min_7cf53_10 : decode cJ9_min_7cf53 10 = .ok (.ireturn, 1) := by decide +kernel
theorem dJ0_charAt_5068e_0 : decode cJ0_charAt_5068e 0 = .ok (.aload_n 0, 1) := by decide +kernel
theorem dJ0_charAt_5068e_1 : decode cJ0_charAt_5068e 1 = .ok (.invokevirtual 492, 3) := by decide +kernel
theorem dJ0_charAt_5068e_4 : decode cJ0_charAt_5068e 4 = .ok (.ifCond .eq 12, 3) := by decide +kernel
theorem dJ0_charAt_5068e_7 : decode cJ0_charAt_5068e 7 = .ok (.aload_n 0, 1) := by decide +kernel
theorem dJ0_charAt_5068e_8 : decode cJ0_charAt_5068e 8 = .ok (.getfield 9, 3) := by decide +kernel
theorem dJ0_charAt_5068e_11 : decode cJ0_charAt_5068e 11 = .ok (.iload_n 1, 1) := by decide +kernel
theorem dJ0_charAt_5068e_12 : decode cJ0_charAt_5068e 12 = .ok (.invokestatic 495, 3) := by decide +kernel
theorem dJ0_charAt_5068e_15 : decode cJ0_charAt_5068e 15 = .ok (.ireturn, 1) := by decide +kernel
theorem dJ0_charAt_5068e_16 : decode cJ0_charAt_5068e 16 = .ok (.aload_n 0, 1) := by decide +kernel
theorem dJ0_charAt_5068e_17 : decode cJ0_charAt_5068e 17 = .ok (.getfield 9, 3) := by decide +kernel
theorem dJ0_charAt_5068e_20 : decode cJ0_charAt_5068e 20 = .ok (.iload_n 1, 1) := by decide +kernel
theorem dJ0_charAt_5068e_21 : decode cJ0_charAt_5068e 21 = .ok (.invokestatic 498, 3) := by decide +kernel
theorem dJ0_charAt_5068e_24 : decode cJ0_charAt_5068e 24 = .ok (.ireturn, 1) := by decide +kernel
theorem dJ0_isLatin1_aae02_0 : decode cJ0_isLatin1_aae02 0 = .ok (.getstatic 38, 3) := by decide +kernel
theorem dJ0_isLatin1_aae02_3 : decode cJ0_isLatin1_aae02 3 = .ok (.ifCond .eq 14, 3) := by decide +kernel
theorem dJ0_isLatin1_aae02_6 : decode cJ0_isLatin1_aae02 6 = .ok (.aload_n 0, 1) := by decide +kernel
theorem dJ0_isLatin1_aae02_7 : decode cJ0_isLatin1_aae02 7 = .ok (.getfield 15, 3) := by decide +kernel
theorem dJ0_isLatin1_aae02_10 : decode cJ0_isLatin1_aae02 10 = .ok (.ifCond .ne 7, 3) := by decide +kernel
theorem dJ0_isLatin1_aae02_13 : decode cJ0_isLatin1_aae02 13 = .ok (.iconst 1, 1) := by decide +kernel
theorem dJ0_isLatin1_aae02_14 : decode cJ0_isLatin1_aae02 14 = .ok (.goto 4, 3) := by decide +kernel
theorem dJ0_isLatin1_aae02_17 : decode cJ0_isLatin1_aae02 17 = .ok (.iconst 0, 1) := by decide +kernel
theorem dJ0_isLatin1_aae02_18 : decode cJ0_isLatin1_aae02 18 = .ok (.ireturn, 1) := by decide +kernel
theorem dJ0_checkIndex_df160_0 : decode cJ0_checkIndex_df160 0 = .ok (.iload_n 0, 1) := by decide +kernel
theorem dJ0_checkIndex_df160_1 : decode cJ0_checkIndex_df160 1 = .ok (.iload_n 1, 1) := by decide +kernel
theorem dJ0_checkIndex_df160_2 : decode cJ0_checkIndex_df160 2 = .ok (.getstatic 1053, 3) := by decide +kernel
theorem dJ0_checkIndex_df160_5 : decode cJ0_checkIndex_df160 5 = .ok (.invokestatic 1059, 3) := by decide +kernel
theorem dJ0_checkIndex_df160_8 : decode cJ0_checkIndex_df160 8 = .ok (.pop, 1) := by decide +kernel
theorem dJ0_checkIndex_df160_9 : decode cJ0_checkIndex_df160 9 = .ok (.return_, 1) := by decide +kernel
theorem dJ1_charAt_3b067_0 : decode cJ1_charAt_3b067 0 = .ok (.iload_n 1, 1) := by decide +kernel
theorem dJ1_charAt_3b067_1 : decode cJ1_charAt_3b067 1 = .ok (.aload_n 0, 1) := by decide +kernel
theorem dJ1_charAt_3b067_2 : decode cJ1_charAt_3b067 2 = .ok (.arraylength, 1) := by decide +kernel
theorem dJ1_charAt_3b067_3 : decode cJ1_charAt_3b067 3 = .ok (.invokestatic 9, 3) := by decide +kernel
theorem dJ1_charAt_3b067_6 : decode cJ1_charAt_3b067 6 = .ok (.aload_n 0, 1) := by decide +kernel
theorem dJ1_charAt_3b067_7 : decode cJ1_charAt_3b067 7 = .ok (.iload_n 1, 1) := by decide +kernel
theorem dJ1_charAt_3b067_8 : decode cJ1_charAt_3b067 8 = .ok (.baload, 1) := by decide +kernel
theorem dJ1_charAt_3b067_9 : decode cJ1_charAt_3b067 9 = .ok (.sipush 255, 3) := by decide +kernel
theorem dJ1_charAt_3b067_12 : decode cJ1_charAt_3b067 12 = .ok (.iand, 1) := by decide +kernel
theorem dJ1_charAt_3b067_13 : decode cJ1_charAt_3b067 13 = .ok (.i2c, 1) := by decide +kernel
theorem dJ1_charAt_3b067_14 : decode cJ1_charAt_3b067 14 = .ok (.ireturn, 1) := by decide +kernel
theorem dJ2_getChar_3b067_0 : decode cJ2_getChar_3b067 0 = .ok (.getstatic 44, 3) := by decide +kernel
theorem dJ2_getChar_3b067_3 : decode cJ2_getChar_3b067 3 = .ok (.ifCond .ne 25, 3) := by decide +kernel
theorem dJ2_getChar_3b067_6 : decode cJ2_getChar_3b067 6 = .ok (.iload_n 1, 1) := by decide +kernel
theorem dJ2_getChar_3b067_7 : decode cJ2_getChar_3b067 7 = .ok (.ifCond .lt 11, 3) := by decide +kernel
theorem dJ2_getChar_3b067_10 : decode cJ2_getChar_3b067 10 = .ok (.iload_n 1, 1) := by decide +kernel
theorem dJ2_getChar_3b067_11 : decode cJ2_getChar_3b067 11 = .ok (.aload_n 0, 1) := by decide +kernel
theorem dJ2_getChar_3b067_12 : decode cJ2_getChar_3b067 12 = .ok (.invokestatic 48, 3) := by decide +kernel
theorem dJ2_getChar_3b067_15 : decode cJ2_getChar_3b067 15 = .ok (.if_icmp .lt 13, 3) := by decide +kernel
theorem dJ2_getChar_3b067_18 : decode cJ2_getChar_3b067 18 = .ok (.new 52, 3) := by decide +kernel
theorem dJ2_getChar_3b067_21 : decode cJ2_getChar_3b067 21 = .ok (.dup, 1) := by decide +kernel
theorem dJ2_getChar_3b067_22 : decode cJ2_getChar_3b067 22 = .ok (.ldc 54, 2) := by decide +kernel
theorem dJ2_getChar_3b067_24 : decode cJ2_getChar_3b067 24 = .ok (.invokespecial 56, 3) := by decide +kernel
theorem dJ2_getChar_3b067_27 : decode cJ2_getChar_3b067 27 = .ok (.athrow, 1) := by decide +kernel
theorem dJ2_getChar_3b067_28 : decode cJ2_getChar_3b067 28 = .ok (.iload_n 1, 1) := by decide +kernel
theorem dJ2_getChar_3b067_29 : decode cJ2_getChar_3b067 29 = .ok (.iconst 1, 1) := by decide +kernel
theorem dJ2_getChar_3b067_30 : decode cJ2_getChar_3b067 30 = .ok (.ishl, 1) := by decide +kernel
theorem dJ2_getChar_3b067_31 : decode cJ2_getChar_3b067 31 = .ok (.istore_n 1, 1) := by decide +kernel
theorem dJ2_getChar_3b067_32 : decode cJ2_getChar_3b067 32 = .ok (.aload_n 0, 1) := by decide +kernel
theorem dJ2_getChar_3b067_33 : decode cJ2_getChar_3b067 33 = .ok (.iload_n 1, 1) := by decide +kernel
theorem dJ2_getChar_3b067_34 : decode cJ2_getChar_3b067 34 = .ok (.iinc 1 1, 3) := by decide +kernel
theorem dJ2_getChar_3b067_37 : decode cJ2_getChar_3b067 37 = .ok (.baload, 1) := by decide +kernel
theorem dJ2_getChar_3b067_38 : decode cJ2_getChar_3b067 38 = .ok (.sipush 255, 3) := by decide +kernel
theorem dJ2_getChar_3b067_41 : decode cJ2_getChar_3b067 41 = .ok (.iand, 1) := by decide +kernel
theorem dJ2_getChar_3b067_42 : decode cJ2_getChar_3b067 42 = .ok (.getstatic 59, 3) := by decide +kernel
theorem dJ2_getChar_3b067_45 : decode cJ2_getChar_3b067 45 = .ok (.ishl, 1) := by decide +kernel
theorem dJ2_getChar_3b067_46 : decode cJ2_getChar_3b067 46 = .ok (.aload_n 0, 1) := by decide +kernel
theorem dJ2_getChar_3b067_47 : decode cJ2_getChar_3b067 47 = .ok (.iload_n 1, 1) := by decide +kernel
theorem dJ2_getChar_3b067_48 : decode cJ2_getChar_3b067 48 = .ok (.baload, 1) := by decide +kernel
theorem dJ2_getChar_3b067_49 : decode cJ2_getChar_3b067 49 = .ok (.sipush 255, 3) := by decide +kernel
theorem dJ2_getChar_3b067_52 : decode cJ2_getChar_3b067 52 = .ok (.iand, 1) := by decide +kernel
theorem dJ2_getChar_3b067_53 : decode cJ2_getChar_3b067 53 = .ok (.getstatic 63, 3) := by decide +kernel
theorem dJ2_getChar_3b067_56 : decode cJ2_getChar_3b067 56 = .ok (.ishl, 1) := by decide +kernel
theorem dJ2_getChar_3b067_57 : decode cJ2_getChar_3b067 57 = .ok (.ior, 1) := by decide +kernel
theorem dJ2_getChar_3b067_58 : decode cJ2_getChar_3b067 58 = .ok (.i2c, 1) := by decide +kernel
theorem dJ2_getChar_3b067_59 : decode cJ2_getChar_3b067 59 = .ok (.ireturn, 1) := by decide +kernel
theorem dJ2_length_9d52b_0 : decode cJ2_length_9d52b 0 = .ok (.aload_n 0, 1) := by decide +kernel
theorem dJ2_length_9d52b_1 : decode cJ2_length_9d52b 1 = .ok (.arraylength, 1) := by decide +kernel
theorem dJ2_length_9d52b_2 : decode cJ2_length_9d52b 2 = .ok (.iconst 1, 1) := by decide +kernel
theorem dJ2_length_9d52b_3 : decode cJ2_length_9d52b 3 = .ok (.ishr, 1) := by decide +kernel
theorem dJ2_length_9d52b_4 : decode cJ2_length_9d52b 4 = .ok (.ireturn, 1) := by decide +kernel
theorem dJ2_charAt_3b067_0 : decode cJ2_charAt_3b067 0 = .ok (.iload_n 1, 1) := by decide +kernel
theorem dJ2_charAt_3b067_1 : decode cJ2_charAt_3b067 1 = .ok (.aload_n 0, 1) := by decide +kernel
theorem dJ2_charAt_3b067_2 : decode cJ2_charAt_3b067 2 = .ok (.invokestatic 67, 3) := by decide +kernel
theorem dJ2_charAt_3b067_5 : decode cJ2_charAt_3b067 5 = .ok (.aload_n 0, 1) := by decide +kernel
theorem dJ2_charAt_3b067_6 : decode cJ2_charAt_3b067 6 = .ok (.iload_n 1, 1) := by decide +kernel
theorem dJ2_charAt_3b067_7 : decode cJ2_charAt_3b067 7 = .ok (.invokestatic 71, 3) := by decide +kernel
theorem dJ2_charAt_3b067_10 : decode cJ2_charAt_3b067 10 = .ok (.ireturn, 1) := by decide +kernel
theorem dJ2_checkIndex_2214a_0 : decode cJ2_checkIndex_2214a 0 = .ok (.iload_n 0, 1) := by decide +kernel
theorem dJ2_checkIndex_2214a_1 : decode cJ2_checkIndex_2214a 1 = .ok (.aload_n 1, 1) := by decide +kernel
theorem dJ2_checkIndex_2214a_2 : decode cJ2_checkIndex_2214a 2 = .ok (.invokestatic 48, 3) := by decide +kernel
theorem dJ2_checkIndex_2214a_5 : decode cJ2_checkIndex_2214a 5 = .ok (.invokestatic 414, 3) := by decide +kernel
theorem dJ2_checkIndex_2214a_8 : decode cJ2_checkIndex_2214a 8 = .ok (.return_, 1) := by decide +kernel
theorem dJ3_checkIndex_8e157_0 : decode cJ3_checkIndex_8e157 0 = .ok (.iload_n 0, 1) := by decide +kernel
theorem dJ3_checkIndex_8e157_1 : decode cJ3_checkIndex_8e157 1 = .ok (.ifCond .lt 8, 3) := by decide +kernel
theorem dJ3_checkIndex_8e157_4 : decode cJ3_checkIndex_8e157 4 = .ok (.iload_n 0, 1) := by decide +kernel
theorem dJ3_checkIndex_8e157_5 : decode cJ3_checkIndex_8e157 5 = .ok (.iload_n 1, 1) := by decide +kernel
theorem dJ3_checkIndex_8e157_6 : decode cJ3_checkIndex_8e157 6 = .ok (.if_icmp .lt 10, 3) := by decide +kernel
theorem dJ3_checkIndex_8e157_9 : decode cJ3_checkIndex_8e157 9 = .ok (.aload_n 2, 1) := by decide +kernel
theorem dJ3_checkIndex_8e157_10 : decode cJ3_checkIndex_8e157 10 = .ok (.iload_n 0, 1) := by decide +kernel
theorem dJ3_checkIndex_8e157_11 : decode cJ3_checkIndex_8e157 11 = .ok (.iload_n 1, 1) := by decide +kernel
theorem dJ3_checkIndex_8e157_12 : decode cJ3_checkIndex_8e157 12 = .ok (.invokestatic 95, 3) := by decide +kernel
theorem dJ3_checkIndex_8e157_15 : decode cJ3_checkIndex_8e157 15 = .ok (.athrow, 1) := by decide +kernel
theorem dJ3_checkIndex_8e157_16 : decode cJ3_checkIndex_8e157 16 = .ok (.iload_n 0, 1) := by decide +kernel
theorem dJ3_checkIndex_8e157_17 : decode cJ3_checkIndex_8e157 17 = .ok (.ireturn, 1) := by decide +kernel
