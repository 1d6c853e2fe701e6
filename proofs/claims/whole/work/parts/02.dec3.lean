theorem dX12_valueFrom_39 : decode cX12_valueFrom 39 = .ok (.iload 5, 2) := by decide +kernel
theorem dX12_valueFrom_41 : decode cX12_valueFrom 41 = .ok (.invokevirtual 287, 3) := by decide +kernel
theorem dX12_valueFrom_44 : decode cX12_valueFrom 44 = .ok (.istore 6, 2) := by decide +kernel
theorem dX12_valueFrom_46 : decode cX12_valueFrom 46 = .ok (.iload 6, 2) := by decide +kernel
theorem dX12_valueFrom_48 : decode cX12_valueFrom 48 = .ok (.aload_n 0, 1) := by decide +kernel
theorem dX12_valueFrom_49 : decode cX12_valueFrom 49 = .ok (.iload_n 1, 1) := by decide +kernel
theorem dX12_valueFrom_50 : decode cX12_valueFrom 50 = .ok (.iconst 1, 1) := by decide +kernel
theorem dX12_valueFrom_51 : decode cX12_valueFrom 51 = .ok (.iadd, 1) := by decide +kernel
theorem dX12_valueFrom_52 : decode cX12_valueFrom 52 = .ok (.iload_n 2, 1) := by decide +kernel
theorem dX12_valueFrom_53 : decode cX12_valueFrom 53 = .ok (.invokevirtual 305, 3) := by decide +kernel
theorem dX12_valueFrom_56 : decode cX12_valueFrom 56 = .ok (.iadd, 1) := by decide +kernel
theorem dX12_valueFrom_57 : decode cX12_valueFrom 57 = .ok (.istore 7, 2) := by decide +kernel
theorem dX12_valueFrom_59 : decode cX12_valueFrom 59 = .ok (.aload_n 0, 1) := by decide +kernel
theorem dX12_valueFrom_60 : decode cX12_valueFrom 60 = .ok (.iload_n 1, 1) := by decide +kernel
theorem dX12_valueFrom_61 : decode cX12_valueFrom 61 = .ok (.invokevirtual 237, 3) := by decide +kernel
theorem dX12_valueFrom_64 : decode cX12_valueFrom 64 = .ok (.iload 4, 2) := by decide +kernel
theorem dX12_valueFrom_66 : decode cX12_valueFrom 66 = .ok (.ifCond .lt 24, 3) := by decide +kernel
theorem dX12_valueFrom_69 : decode cX12_valueFrom 69 = .ok (.iload_n 1, 1) := by decide +kernel
theorem dX12_valueFrom_70 : decode cX12_valueFrom 70 = .ok (.iconst 2, 1) := by decide +kernel
theorem dX12_valueFrom_71 : decode cX12_valueFrom 71 = .ok (.irem, 1) := by decide +kernel
theorem dX12_valueFrom_72 : decode cX12_valueFrom 72 = .ok (.ifCond .ne 12, 3) := by decide +kernel
theorem dX12_valueFrom_75 : decode cX12_valueFrom 75 = .ok (.iload 7, 2) := by decide +kernel
theorem dX12_valueFrom_77 : decode cX12_valueFrom 77 = .ok (.iload_n 3, 1) := by decide +kernel
theorem dX12_valueFrom_78 : decode cX12_valueFrom 78 = .ok (.if_icmp .le 19, 3) := by decide +kernel
theorem dX12_valueFrom_81 : decode cX12_valueFrom 81 = .ok (.goto 9, 3) := by decide +kernel
theorem dX12_valueFrom_84 : decode cX12_valueFrom 84 = .ok (.iload 7, 2) := by decide +kernel
theorem dX12_valueFrom_86 : decode cX12_valueFrom 86 = .ok (.iload_n 3, 1) := by decide +kernel
theorem dX12_valueFrom_87 : decode cX12_valueFrom 87 = .ok (.if_icmp .ge 10, 3) := by decide +kernel
theorem dX12_valueFrom_90 : decode cX12_valueFrom 90 = .ok (.iload 7, 2) := by decide +kernel
theorem dX12_valueFrom_92 : decode cX12_valueFrom 92 = .ok (.istore_n 3, 1) := by decide +kernel
theorem dX12_valueFrom_93 : decode cX12_valueFrom 93 = .ok (.iload 5, 2) := by decide +kernel
theorem dX12_valueFrom_95 : decode cX12_valueFrom 95 = .ok (.istore 4, 2) := by decide +kernel
theorem dX12_valueFrom_97 : decode cX12_valueFrom 97 = .ok (.iinc 5 1, 3) := by decide +kernel
theorem dX12_valueFrom_100 : decode cX12_valueFrom 100 = .ok (.goto (-73), 3) := by decide +kernel
theorem dX12_valueFrom_103 : decode cX12_valueFrom 103 = .ok (.aload_n 0, 1) := by decide +kernel
theorem dX12_valueFrom_104 : decode cX12_valueFrom 104 = .ok (.iload 4, 2) := by decide +kernel
theorem dX12_valueFrom_106 : decode cX12_valueFrom 106 = .ok (.putfield 308, 3) := by decide +kernel
theorem dX12_valueFrom_109 : decode cX12_valueFrom 109 = .ok (.iload_n 3, 1) := by decide +kernel
theorem dX12_valueFrom_110 : decode cX12_valueFrom 110 = .ok (.ireturn, 1) := by decide +kernel
theorem dX12_game_0 : decode cX12_game 0 = .ok (.iload_n 1, 1) := by decide +kernel
theorem dX12_game_1 : decode cX12_game 1 = .ok (.i2l, 1) := by decide +kernel
theorem dX12_game_2 : decode cX12_game 2 = .ok (.lconst 1, 1) := by decide +kernel
theorem dX12_game_3 : decode cX12_game 3 = .ok (.ldc2_w 126, 3) := by decide +kernel
theorem dX12_game_6 : decode cX12_game 6 = .ok (.invokestatic 66, 3) := by decide +kernel
theorem dX12_game_9 : decode cX12_game 9 = .ok (.ifCond .eq 12, 3) := by decide +kernel
theorem dX12_game_12 : decode cX12_game 12 = .ok (.aload_n 0, 1) := by decide +kernel
theorem dX12_game_13 : decode cX12_game 13 = .ok (.iconst 0, 1) := by decide +kernel
theorem dX12_game_14 : decode cX12_game 14 = .ok (.iload_n 1, 1) := by decide +kernel
theorem dX12_game_15 : decode cX12_game 15 = .ok (.invokevirtual 305, 3) := by decide +kernel
theorem dX12_game_18 : decode cX12_game 18 = .ok (.goto 4, 3) := by decide +kernel
theorem dX12_game_21 : decode cX12_game 21 = .ok (.iconst (-1), 1) := by decide +kernel
theorem dX12_game_22 : decode cX12_game 22 = .ok (.ireturn, 1) := by decide +kernel
theorem dX12_play_0 : decode cX12_play 0 = .ok (.iload_n 1, 1) := by decide +kernel
theorem dX12_play_1 : decode cX12_play 1 = .ok (.i2l, 1) := by decide +kernel
theorem dX12_play_2 : decode cX12_play 2 = .ok (.lconst 1, 1) := by decide +kernel
theorem dX12_play_3 : decode cX12_play 3 = .ok (.ldc2_w 126, 3) := by decide +kernel
theorem dX12_play_6 : decode cX12_play 6 = .ok (.invokestatic 66, 3) := by decide +kernel
theorem dX12_play_9 : decode cX12_play 9 = .ok (.ifCond .ne 5, 3) := by decide +kernel
theorem dX12_play_12 : decode cX12_play 12 = .ok (.iconst (-1), 1) := by decide +kernel
theorem dX12_play_13 : decode cX12_play 13 = .ok (.ireturn, 1) := by decide +kernel
theorem dX12_play_14 : decode cX12_play 14 = .ok (.aload_n 0, 1) := by decide +kernel
theorem dX12_play_15 : decode cX12_play 15 = .ok (.invokevirtual 133, 3) := by decide +kernel
theorem dX12_play_18 : decode cX12_play 18 = .ok (.ifCond .eq 6, 3) := by decide +kernel
theorem dX12_play_21 : decode cX12_play 21 = .ok (.bipush (-3), 2) := by decide +kernel
theorem dX12_play_23 : decode cX12_play 23 = .ok (.ireturn, 1) := by decide +kernel
theorem dX12_play_24 : decode cX12_play 24 = .ok (.aload_n 0, 1) := by decide +kernel
theorem dX12_play_25 : decode cX12_play 25 = .ok (.iconst 0, 1) := by decide +kernel
theorem dX12_play_26 : decode cX12_play 26 = .ok (.iload_n 1, 1) := by decide +kernel
theorem dX12_play_27 : decode cX12_play 27 = .ok (.invokevirtual 305, 3) := by decide +kernel
theorem dX12_play_30 : decode cX12_play 30 = .ok (.istore_n 2, 1) := by decide +kernel
theorem dX12_play_31 : decode cX12_play 31 = .ok (.aload_n 0, 1) := by decide +kernel
theorem dX12_play_32 : decode cX12_play 32 = .ok (.getfield 308, 3) := by decide +kernel
theorem dX12_play_35 : decode cX12_play 35 = .ok (.ireturn, 1) := by decide +kernel
theorem dX12_report_0 : decode cX12_report 0 = .ok (.iload_n 1, 1) := by decide +kernel
theorem dX12_report_1 : decode cX12_report 1 = .ok (.i2l, 1) := by decide +kernel
theorem dX12_report_2 : decode cX12_report 2 = .ok (.lconst 1, 1) := by decide +kernel
theorem dX12_report_3 : decode cX12_report 3 = .ok (.ldc2_w 64, 3) := by decide +kernel
theorem dX12_report_6 : decode cX12_report 6 = .ok (.invokestatic 66, 3) := by decide +kernel
theorem dX12_report_9 : decode cX12_report 9 = .ok (.ifCond .eq 43, 3) := by decide +kernel
theorem dX12_report_12 : decode cX12_report 12 = .ok (.iload_n 2, 1) := by decide +kernel
theorem dX12_report_13 : decode cX12_report 13 = .ok (.i2l, 1) := by decide +kernel
theorem dX12_report_14 : decode cX12_report 14 = .ok (.lconst 0, 1) := by decide +kernel
theorem dX12_report_15 : decode cX12_report 15 = .ok (.ldc2_w 72, 3) := by decide +kernel
theorem dX12_report_18 : decode cX12_report 18 = .ok (.invokestatic 66, 3) := by decide +kernel
theorem dX12_report_21 : decode cX12_report 21 = .ok (.ifCond .eq 31, 3) := by decide +kernel
theorem dX12_report_24 : decode cX12_report 24 = .ok (.iload_n 3, 1) := by decide +kernel
theorem dX12_report_25 : decode cX12_report 25 = .ok (.i2l, 1) := by decide +kernel
theorem dX12_report_26 : decode cX12_report 26 = .ok (.ldc2_w 311, 3) := by decide +kernel
theorem dX12_report_29 : decode cX12_report 29 = .ok (.ldc2_w 313, 3) := by decide +kernel
theorem dX12_report_32 : decode cX12_report 32 = .ok (.invokestatic 66, 3) := by decide +kernel
theorem dX12_report_35 : decode cX12_report 35 = .ok (.ifCond .eq 17, 3) := by decide +kernel
theorem dX12_report_38 : decode cX12_report 38 = .ok (.iload 4, 2) := by decide +kernel
theorem dX12_report_40 : decode cX12_report 40 = .ok (.i2l, 1) := by decide +kernel
theorem dX12_report_41 : decode cX12_report 41 = .ok (.iload_n 3, 1) := by decide +kernel
theorem dX12_report_42 : decode cX12_report 42 = .ok (.i2l, 1) := by decide +kernel
theorem dX12_report_43 : decode cX12_report 43 = .ok (.ldc2_w 313, 3) := by decide +kernel
theorem dX12_report_46 : decode cX12_report 46 = .ok (.invokestatic 66, 3) := by decide +kernel
theorem dX12_report_49 : decode cX12_report 49 = .ok (.ifCond .ne 5, 3) := by decide +kernel
theorem dX12_report_52 : decode cX12_report 52 = .ok (.iconst (-1), 1) := by decide +kernel
theorem dX12_report_53 : decode cX12_report 53 = .ok (.ireturn, 1) := by decide +kernel
theorem dX12_report_54 : decode cX12_report 54 = .ok (.aload_n 0, 1) := by decide +kernel
theorem dX12_report_55 : decode cX12_report 55 = .ok (.getfield 7, 3) := by decide +kernel
theorem dX12_report_58 : decode cX12_report 58 = .ok (.bipush 6, 2) := by decide +kernel
theorem dX12_report_60 : decode cX12_report 60 = .ok (.iaload, 1) := by decide +kernel
theorem dX12_report_61 : decode cX12_report 61 = .ok (.bipush 6, 2) := by decide +kernel
theorem dX12_report_63 : decode cX12_report 63 = .ok (.if_icmp .ne 6, 3) := by decide +kernel
theorem dX12_report_66 : decode cX12_report 66 = .ok (.bipush (-2), 2) := by decide +kernel
theorem dX12_report_68 : decode cX12_report 68 = .ok (.ireturn, 1) := by decide +kernel
theorem dX12_report_69 : decode cX12_report 69 = .ok (.bipush 70, 2) := by decide +kernel
theorem dX12_report_71 : decode cX12_report 71 = .ok (.iconst 4, 1) := by decide +kernel
theorem dX12_report_72 : decode cX12_report 72 = .ok (.aload_n 0, 1) := by decide +kernel
theorem dX12_report_73 : decode cX12_report 73 = .ok (.getfield 7, 3) := by decide +kernel
theorem dX12_report_76 : decode cX12_report 76 = .ok (.bipush 6, 2) := by decide +kernel
theorem dX12_report_78 : decode cX12_report 78 = .ok (.iaload, 1) := by decide +kernel
theorem dX12_report_79 : decode cX12_report 79 = .ok (.imul, 1) := by decide +kernel
theorem dX12_report_80 : decode cX12_report 80 = .ok (.iadd, 1) := by decide +kernel
theorem dX12_report_81 : decode cX12_report 81 = .ok (.istore 5, 2) := by decide +kernel
theorem dX12_report_83 : decode cX12_report 83 = .ok (.aload_n 0, 1) := by decide +kernel
theorem dX12_report_84 : decode cX12_report 84 = .ok (.getfield 7, 3) := by decide +kernel
theorem dX12_report_87 : decode cX12_report 87 = .ok (.iload 5, 2) := by decide +kernel
theorem dX12_report_89 : decode cX12_report 89 = .ok (.iload_n 1, 1) := by decide +kernel
theorem dX12_report_90 : decode cX12_report 90 = .ok (.iastore, 1) := by decide +kernel
theorem dX12_report_91 : decode cX12_report 91 = .ok (.aload_n 0, 1) := by decide +kernel
theorem dX12_report_92 : decode cX12_report 92 = .ok (.getfield 7, 3) := by decide +kernel
theorem dX12_report_95 : decode cX12_report 95 = .ok (.iload 5, 2) := by decide +kernel
theorem dX12_report_97 : decode cX12_report 97 = .ok (.iconst 1, 1) := by decide +kernel
theorem dX12_report_98 : decode cX12_report 98 = .ok (.iadd, 1) := by decide +kernel
theorem dX12_report_99 : decode cX12_report 99 = .ok (.iload_n 2, 1) := by decide +kernel
theorem dX12_report_100 : decode cX12_report 100 = .ok (.iastore, 1) := by decide +kernel
theorem dX12_report_101 : decode cX12_report 101 = .ok (.aload_n 0, 1) := by decide +kernel
theorem dX12_report_102 : decode cX12_report 102 = .ok (.getfield 7, 3) := by decide +kernel
theorem dX12_report_105 : decode cX12_report 105 = .ok (.iload 5, 2) := by decide +kernel
theorem dX12_report_107 : decode cX12_report 107 = .ok (.iconst 2, 1) := by decide +kernel
theorem dX12_report_108 : decode cX12_report 108 = .ok (.iadd, 1) := by decide +kernel
theorem dX12_report_109 : decode cX12_report 109 = .ok (.iload_n 3, 1) := by decide +kernel
theorem dX12_report_110 : decode cX12_report 110 = .ok (.iastore, 1) := by decide +kernel
theorem dX12_report_111 : decode cX12_report 111 = .ok (.aload_n 0, 1) := by decide +kernel
theorem dX12_report_112 : decode cX12_report 112 = .ok (.getfield 7, 3) := by decide +kernel
theorem dX12_report_115 : decode cX12_report 115 = .ok (.iload 5, 2) := by decide +kernel
theorem dX12_report_117 : decode cX12_report 117 = .ok (.iconst 3, 1) := by decide +kernel
theorem dX12_report_118 : decode cX12_report 118 = .ok (.iadd, 1) := by decide +kernel
theorem dX12_report_119 : decode cX12_report 119 = .ok (.iload 4, 2) := by decide +kernel
theorem dX12_report_121 : decode cX12_report 121 = .ok (.iastore, 1) := by decide +kernel
theorem dX12_report_122 : decode cX12_report 122 = .ok (.aload_n 0, 1) := by decide +kernel
theorem dX12_report_123 : decode cX12_report 123 = .ok (.getfield 7, 3) := by decide +kernel
theorem dX12_report_126 : decode cX12_report 126 = .ok (.bipush 6, 2) := by decide +kernel
theorem dX12_report_128 : decode cX12_report 128 = .ok (.dup2, 1) := by decide +kernel
theorem dX12_report_129 : decode cX12_report 129 = .ok (.iaload, 1) := by decide +kernel
theorem dX12_report_130 : decode cX12_report 130 = .ok (.iconst 1, 1) := by decide +kernel
theorem dX12_report_131 : decode cX12_report 131 = .ok (.iadd, 1) := by decide +kernel
theorem dX12_report_132 : decode cX12_report 132 = .ok (.iastore, 1) := by decide +kernel
theorem dX12_report_133 : decode cX12_report 133 = .ok (.aload_n 0, 1) := by decide +kernel
theorem dX12_report_134 : decode cX12_report 134 = .ok (.getfield 7, 3) := by decide +kernel
theorem dX12_report_137 : decode cX12_report 137 = .ok (.bipush 6, 2) := by decide +kernel
theorem dX12_report_139 : decode cX12_report 139 = .ok (.iaload, 1) := by decide +kernel
theorem dX12_report_140 : decode cX12_report 140 = .ok (.iconst 1, 1) := by decide +kernel
theorem dX12_report_141 : decode cX12_report 141 = .ok (.isub, 1) := by decide +kernel
theorem dX12_report_142 : decode cX12_report 142 = .ok (.ireturn, 1) := by decide +kernel
theorem dX12_forget_0 : decode cX12_forget 0 = .ok (.aload_n 0, 1) := by decide +kernel
theorem dX12_forget_1 : decode cX12_forget 1 = .ok (.bipush 6, 2) := by decide +kernel
theorem dX12_forget_3 : decode cX12_forget 3 = .ok (.iconst 0, 1) := by decide +kernel
theorem dX12_forget_4 : decode cX12_forget 4 = .ok (.invokevirtual 128, 3) := by decide +kernel
theorem dX12_forget_7 : decode cX12_forget 7 = .ok (.ireturn, 1) := by decide +kernel
theorem dX12_isFit_0 : decode cX12_isFit 0 = .ok (.iconst 1, 1) := by decide +kernel
theorem dX12_isFit_1 : decode cX12_isFit 1 = .ok (.istore 4, 2) := by decide +kernel
theorem dX12_isFit_3 : decode cX12_isFit 3 = .ok (.iconst 0, 1) := by decide +kernel
theorem dX12_isFit_4 : decode cX12_isFit 4 = .ok (.istore 5, 2) := by decide +kernel
theorem dX12_isFit_6 : decode cX12_isFit 6 = .ok (.iload 5, 2) := by decide +kernel
theorem dX12_isFit_8 : decode cX12_isFit 8 = .ok (.aload_n 0, 1) := by decide +kernel
theorem dX12_isFit_9 : decode cX12_isFit 9 = .ok (.getfield 7, 3) := by decide +kernel
theorem dX12_isFit_12 : decode cX12_isFit 12 = .ok (.bipush 6, 2) := by decide +kernel
theorem dX12_isFit_14 : decode cX12_isFit 14 = .ok (.iaload, 1) := by decide +kernel
theorem dX12_isFit_15 : decode cX12_isFit 15 = .ok (.if_icmp .ge 84, 3) := by decide +kernel
theorem dX12_isFit_18 : decode cX12_isFit 18 = .ok (.bipush 70, 2) := by decide +kernel
theorem dX12_isFit_20 : decode cX12_isFit 20 = .ok (.iconst 4, 1) := by decide +kernel
theorem dX12_isFit_21 : decode cX12_isFit 21 = .ok (.iload 5, 2) := by decide +kernel
theorem dX12_isFit_23 : decode cX12_isFit 23 = .ok (.imul, 1) := by decide +kernel
theorem dX12_isFit_24 : decode cX12_isFit 24 = .ok (.iadd, 1) := by decide +kernel
theorem dX12_isFit_25 : decode cX12_isFit 25 = .ok (.istore 6, 2) := by decide +kernel
theorem dX12_isFit_27 : decode cX12_isFit 27 = .ok (.iload 4, 2) := by decide +kernel
theorem dX12_isFit_29 : decode cX12_isFit 29 = .ok (.iload 5, 2) := by decide +kernel
theorem dX12_isFit_31 : decode cX12_isFit 31 = .ok (.iload_n 3, 1) := by decide +kernel
theorem dX12_isFit_32 : decode cX12_isFit 32 = .ok (.if_icmp .eq 53, 3) := by decide +kernel
theorem dX12_isFit_35 : decode cX12_isFit 35 = .ok (.aload_n 0, 1) := by decide +kernel
theorem dX12_isFit_36 : decode cX12_isFit 36 = .ok (.getfield 7, 3) := by decide +kernel
theorem dX12_isFit_39 : decode cX12_isFit 39 = .ok (.iload 6, 2) := by decide +kernel
theorem dX12_isFit_41 : decode cX12_isFit 41 = .ok (.iaload, 1) := by decide +kernel
theorem dX12_isFit_42 : decode cX12_isFit 42 = .ok (.iconst 5, 1) := by decide +kernel
theorem dX12_isFit_43 : decode cX12_isFit 43 = .ok (.aload_n 0, 1) := by decide +kernel
theorem dX12_isFit_44 : decode cX12_isFit 44 = .ok (.getfield 7, 3) := by decide +kernel
theorem dX12_isFit_47 : decode cX12_isFit 47 = .ok (.iload 6, 2) := by decide +kernel
theorem dX12_isFit_49 : decode cX12_isFit 49 = .ok (.iconst 1, 1) := by decide +kernel
theorem dX12_isFit_50 : decode cX12_isFit 50 = .ok (.iadd, 1) := by decide +kernel
theorem dX12_isFit_51 : decode cX12_isFit 51 = .ok (.iaload, 1) := by decide +kernel
theorem dX12_isFit_52 : decode cX12_isFit 52 = .ok (.iload_n 2, 1) := by decide +kernel
theorem dX12_isFit_53 : decode cX12_isFit 53 = .ok (.iload_n 1, 1) := by decide +kernel
theorem dX12_isFit_54 : decode cX12_isFit 54 = .ok (.iconst 0, 1) := by decide +kernel
theorem dX12_isFit_55 : decode cX12_isFit 55 = .ok (.invokestatic 81, 3) := by decide +kernel
theorem dX12_isFit_58 : decode cX12_isFit 58 = .ok (.i2l, 1) := by decide +kernel
theorem dX12_isFit_59 : decode cX12_isFit 59 = .ok (.aload_n 0, 1) := by decide +kernel
theorem dX12_isFit_60 : decode cX12_isFit 60 = .ok (.getfield 7, 3) := by decide +kernel
theorem dX12_isFit_63 : decode cX12_isFit 63 = .ok (.iload 6, 2) := by decide +kernel
theorem dX12_isFit_65 : decode cX12_isFit 65 = .ok (.iconst 2, 1) := by decide +kernel
theorem dX12_isFit_66 : decode cX12_isFit 66 = .ok (.iadd, 1) := by decide +kernel
theorem dX12_isFit_67 : decode cX12_isFit 67 = .ok (.iaload, 1) := by decide +kernel
theorem dX12_isFit_68 : decode cX12_isFit 68 = .ok (.i2l, 1) := by decide +kernel
theorem dX12_isFit_69 : decode cX12_isFit 69 = .ok (.aload_n 0, 1) := by decide +kernel
theorem dX12_isFit_70 : decode cX12_isFit 70 = .ok (.getfield 7, 3) := by decide +kernel
theorem dX12_isFit_73 : decode cX12_isFit 73 = .ok (.iload 6, 2) := by decide +kernel
theorem dX12_isFit_75 : decode cX12_isFit 75 = .ok (.iconst 3, 1) := by decide +kernel
theorem dX12_isFit_76 : decode cX12_isFit 76 = .ok (.iadd, 1) := by decide +kernel
theorem dX12_isFit_77 : decode cX12_isFit 77 = .ok (.iaload, 1) := by decide +kernel
theorem dX12_isFit_78 : decode cX12_isFit 78 = .ok (.i2l, 1) := by decide +kernel
theorem dX12_isFit_79 : decode cX12_isFit 79 = .ok (.invokestatic 66, 3) := by decide +kernel
theorem dX12_isFit_82 : decode cX12_isFit 82 = .ok (.ifCond .eq 7, 3) := by decide +kernel
theorem dX12_isFit_85 : decode cX12_isFit 85 = .ok (.iconst 1, 1) := by decide +kernel
theorem dX12_isFit_86 : decode cX12_isFit 86 = .ok (.goto 4, 3) := by decide +kernel
theorem dX12_isFit_89 : decode cX12_isFit 89 = .ok (.iconst 0, 1) := by decide +kernel
theorem dX12_isFit_90 : decode cX12_isFit 90 = .ok (.iand, 1) := by decide +kernel
theorem dX12_isFit_91 : decode cX12_isFit 91 = .ok (.istore 4, 2) := by decide +kernel
theorem dX12_isFit_93 : decode cX12_isFit 93 = .ok (.iinc 5 1, 3) := by decide +kernel
theorem dX12_isFit_96 : decode cX12_isFit 96 = .ok (.goto (-90), 3) := by decide +kernel
theorem dX12_isFit_99 : decode cX12_isFit 99 = .ok (.iload 4, 2) := by decide +kernel
theorem dX12_isFit_101 : decode cX12_isFit 101 = .ok (.ireturn, 1) := by decide +kernel
theorem dX12_findsFits_0 : decode cX12_findsFits 0 = .ok (.aload_n 0, 1) := by decide +kernel
theorem dX12_findsFits_1 : decode cX12_findsFits 1 = .ok (.iconst 0, 1) := by decide +kernel
theorem dX12_findsFits_2 : decode cX12_findsFits 2 = .ok (.putfield 315, 3) := by decide +kernel
theorem dX12_findsFits_5 : decode cX12_findsFits 5 = .ok (.aload_n 0, 1) := by decide +kernel
theorem dX12_findsFits_6 : decode cX12_findsFits 6 = .ok (.bipush (-3), 2) := by decide +kernel
theorem dX12_findsFits_8 : decode cX12_findsFits 8 = .ok (.putfield 318, 3) := by decide +kernel
theorem dX12_findsFits_11 : decode cX12_findsFits 11 = .ok (.iconst 0, 1) := by decide +kernel
theorem dX12_findsFits_12 : decode cX12_findsFits 12 = .ok (.istore_n 2, 1) := by decide +kernel
theorem dX12_findsFits_13 : decode cX12_findsFits 13 = .ok (.iload_n 2, 1) := by decide +kernel
theorem dX12_findsFits_14 : decode cX12_findsFits 14 = .ok (.sipush 160, 3) := by decide +kernel
theorem dX12_findsFits_17 : decode cX12_findsFits 17 = .ok (.if_icmp .ge 54, 3) := by decide +kernel
theorem dX12_findsFits_20 : decode cX12_findsFits 20 = .ok (.aload_n 0, 1) := by decide +kernel
theorem dX12_findsFits_21 : decode cX12_findsFits 21 = .ok (.iload_n 2, 1) := by decide +kernel
theorem dX12_findsFits_22 : decode cX12_findsFits 22 = .ok (.bipush 10, 2) := by decide +kernel
theorem dX12_findsFits_24 : decode cX12_findsFits 24 = .ok (.idiv, 1) := by decide +kernel
theorem dX12_findsFits_25 : decode cX12_findsFits 25 = .ok (.iload_n 2, 1) := by decide +kernel
theorem dX12_findsFits_26 : decode cX12_findsFits 26 = .ok (.bipush 10, 2) := by decide +kernel
theorem dX12_findsFits_28 : decode cX12_findsFits 28 = .ok (.irem, 1) := by decide +kernel
theorem dX12_findsFits_29 : decode cX12_findsFits 29 = .ok (.iload_n 1, 1) := by decide +kernel
theorem dX12_findsFits_30 : decode cX12_findsFits 30 = .ok (.invokevirtual 321, 3) := by decide +kernel
theorem dX12_findsFits_33 : decode cX12_findsFits 33 = .ok (.ifCond .eq 32, 3) := by decide +kernel
theorem dX12_findsFits_36 : decode cX12_findsFits 36 = .ok (.aload_n 0, 1) := by decide +kernel
theorem dX12_findsFits_37 : decode cX12_findsFits 37 = .ok (.aload_n 0, 1) := by decide +kernel
theorem dX12_findsFits_38 : decode cX12_findsFits 38 = .ok (.getfield 315, 3) := by decide +kernel
theorem dX12_findsFits_41 : decode cX12_findsFits 41 = .ok (.ifCond .ne 7, 3) := by decide +kernel
theorem dX12_findsFits_44 : decode cX12_findsFits 44 = .ok (.iload_n 2, 1) := by decide +kernel
theorem dX12_findsFits_45 : decode cX12_findsFits 45 = .ok (.goto 7, 3) := by decide +kernel
theorem dX12_findsFits_48 : decode cX12_findsFits 48 = .ok (.aload_n 0, 1) := by decide +kernel
theorem dX12_findsFits_49 : decode cX12_findsFits 49 = .ok (.getfield 318, 3) := by decide +kernel
theorem dX12_findsFits_52 : decode cX12_findsFits 52 = .ok (.putfield 318, 3) := by decide +kernel
theorem dX12_findsFits_55 : decode cX12_findsFits 55 = .ok (.aload_n 0, 1) := by decide +kernel
theorem dX12_findsFits_56 : decode cX12_findsFits 56 = .ok (.dup, 1) := by decide +kernel
theorem dX12_findsFits_57 : decode cX12_findsFits 57 = .ok (.getfield 315, 3) := by decide +kernel
theorem dX12_findsFits_60 : decode cX12_findsFits 60 = .ok (.iconst 1, 1) := by decide +kernel
theorem dX12_findsFits_61 : decode cX12_findsFits 61 = .ok (.iadd, 1) := by decide +kernel
theorem dX12_findsFits_62 : decode cX12_findsFits 62 = .ok (.putfield 315, 3) := by decide +kernel
theorem dX12_findsFits_65 : decode cX12_findsFits 65 = .ok (.iinc 2 1, 3) := by decide +kernel
theorem dX12_findsFits_68 : decode cX12_findsFits 68 = .ok (.goto (-55), 3) := by decide +kernel
theorem dX12_findsFits_71 : decode cX12_findsFits 71 = .ok (.return_, 1) := by decide +kernel
theorem dX12_span_0 : decode cX12_span 0 = .ok (.iload_n 1, 1) := by decide +kernel
theorem dX12_span_1 : decode cX12_span 1 = .ok (.i2l, 1) := by decide +kernel
theorem dX12_span_2 : decode cX12_span 2 = .ok (.lconst 0, 1) := by decide +kernel
theorem dX12_span_3 : decode cX12_span 3 = .ok (.ldc2_w 88, 3) := by decide +kernel
theorem dX12_span_6 : decode cX12_span 6 = .ok (.invokestatic 66, 3) := by decide +kernel
theorem dX12_span_9 : decode cX12_span 9 = .ok (.ifCond .ne 5, 3) := by decide +kernel
theorem dX12_span_12 : decode cX12_span 12 = .ok (.iconst (-1), 1) := by decide +kernel
theorem dX12_span_13 : decode cX12_span 13 = .ok (.ireturn, 1) := by decide +kernel
theorem dX12_span_14 : decode cX12_span 14 = .ok (.aload_n 0, 1) := by decide +kernel
theorem dX12_span_15 : decode cX12_span 15 = .ok (.iconst (-1), 1) := by decide +kernel
theorem dX12_span_16 : decode cX12_span 16 = .ok (.invokevirtual 325, 3) := by decide +kernel
theorem dX12_span_19 : decode cX12_span 19 = .ok (.iload_n 1, 1) := by decide +kernel
theorem dX12_span_20 : decode cX12_span 20 = .ok (.ifCond .ne 10, 3) := by decide +kernel
theorem dX12_span_23 : decode cX12_span 23 = .ok (.aload_n 0, 1) := by decide +kernel
theorem dX12_span_24 : decode cX12_span 24 = .ok (.getfield 315, 3) := by decide +kernel
theorem dX12_span_27 : decode cX12_span 27 = .ok (.goto 37, 3) := by decide +kernel
theorem dX12_span_30 : decode cX12_span 30 = .ok (.aload_n 0, 1) := by decide +kernel
theorem dX12_span_31 : decode cX12_span 31 = .ok (.getfield 315, 3) := by decide +kernel
theorem dX12_span_34 : decode cX12_span 34 = .ok (.ifCond .ne 8, 3) := by decide +kernel
theorem dX12_span_37 : decode cX12_span 37 = .ok (.bipush (-3), 2) := by decide +kernel
theorem dX12_span_39 : decode cX12_span 39 = .ok (.goto 25, 3) := by decide +kernel
theorem dX12_span_42 : decode cX12_span 42 = .ok (.iload_n 1, 1) := by decide +kernel
theorem dX12_span_43 : decode cX12_span 43 = .ok (.iconst 1, 1) := by decide +kernel
theorem dX12_span_44 : decode cX12_span 44 = .ok (.if_icmp .ne 13, 3) := by decide +kernel
theorem dX12_span_47 : decode cX12_span 47 = .ok (.aload_n 0, 1) := by decide +kernel
theorem dX12_span_48 : decode cX12_span 48 = .ok (.getfield 318, 3) := by decide +kernel
theorem dX12_span_51 : decode cX12_span 51 = .ok (.bipush 10, 2) := by decide +kernel
theorem dX12_span_53 : decode cX12_span 53 = .ok (.idiv, 1) := by decide +kernel
theorem dX12_span_54 : decode cX12_span 54 = .ok (.goto 10, 3) := by decide +kernel
theorem dX12_span_57 : decode cX12_span 57 = .ok (.aload_n 0, 1) := by decide +kernel
theorem dX12_span_58 : decode cX12_span 58 = .ok (.getfield 318, 3) := by decide +kernel
theorem dX12_span_61 : decode cX12_span 61 = .ok (.bipush 10, 2) := by decide +kernel
theorem dX12_span_63 : decode cX12_span 63 = .ok (.irem, 1) := by decide +kernel
theorem dX12_span_64 : decode cX12_span 64 = .ok (.ireturn, 1) := by decide +kernel
theorem dX12_liar_0 : decode cX12_liar 0 = .ok (.aload_n 0, 1) := by decide +kernel
theorem dX12_liar_1 : decode cX12_liar 1 = .ok (.iconst (-1), 1) := by decide +kernel
theorem dX12_liar_2 : decode cX12_liar 2 = .ok (.invokevirtual 325, 3) := by decide +kernel
theorem dX12_liar_5 : decode cX12_liar 5 = .ok (.bipush (-3), 2) := by decide +kernel
theorem dX12_liar_7 : decode cX12_liar 7 = .ok (.istore_n 1, 1) := by decide +kernel
theorem dX12_liar_8 : decode cX12_liar 8 = .ok (.aload_n 0, 1) := by decide +kernel
theorem dX12_liar_9 : decode cX12_liar 9 = .ok (.getfield 315, 3) := by decide +kernel
theorem dX12_liar_12 : decode cX12_liar 12 = .ok (.ifCond .ne 7, 3) := by decide +kernel
theorem dX12_liar_15 : decode cX12_liar 15 = .ok (.iconst 1, 1) := by decide +kernel
theorem dX12_liar_16 : decode cX12_liar 16 = .ok (.goto 4, 3) := by decide +kernel
theorem dX12_liar_19 : decode cX12_liar 19 = .ok (.iconst 0, 1) := by decide +kernel
theorem dX12_liar_20 : decode cX12_liar 20 = .ok (.istore_n 2, 1) := by decide +kernel
theorem dX12_liar_21 : decode cX12_liar 21 = .ok (.iconst 0, 1) := by decide +kernel
theorem dX12_liar_22 : decode cX12_liar 22 = .ok (.istore_n 3, 1) := by decide +kernel
theorem dX12_liar_23 : decode cX12_liar 23 = .ok (.iload_n 3, 1) := by decide +kernel
theorem dX12_liar_24 : decode cX12_liar 24 = .ok (.aload_n 0, 1) := by decide +kernel
theorem dX12_liar_25 : decode cX12_liar 25 = .ok (.getfield 7, 3) := by decide +kernel
theorem dX12_liar_28 : decode cX12_liar 28 = .ok (.bipush 6, 2) := by decide +kernel
theorem dX12_liar_30 : decode cX12_liar 30 = .ok (.iaload, 1) := by decide +kernel
theorem dX12_liar_31 : decode cX12_liar 31 = .ok (.if_icmp .ge 36, 3) := by decide +kernel
theorem dX12_liar_34 : decode cX12_liar 34 = .ok (.iload_n 2, 1) := by decide +kernel
theorem dX12_liar_35 : decode cX12_liar 35 = .ok (.ifCond .eq 32, 3) := by decide +kernel
theorem dX12_liar_38 : decode cX12_liar 38 = .ok (.iload_n 1, 1) := by decide +kernel
theorem dX12_liar_39 : decode cX12_liar 39 = .ok (.ifCond .ge 28, 3) := by decide +kernel
theorem dX12_liar_42 : decode cX12_liar 42 = .ok (.aload_n 0, 1) := by decide +kernel
theorem dX12_liar_43 : decode cX12_liar 43 = .ok (.iload_n 3, 1) := by decide +kernel
theorem dX12_liar_44 : decode cX12_liar 44 = .ok (.invokevirtual 325, 3) := by decide +kernel
theorem dX12_liar_47 : decode cX12_liar 47 = .ok (.aload_n 0, 1) := by decide +kernel
theorem dX12_liar_48 : decode cX12_liar 48 = .ok (.getfield 315, 3) := by decide +kernel
theorem dX12_liar_51 : decode cX12_liar 51 = .ok (.ifCond .le 7, 3) := by decide +kernel
theorem dX12_liar_54 : decode cX12_liar 54 = .ok (.iload_n 3, 1) := by decide +kernel
theorem dX12_liar_55 : decode cX12_liar 55 = .ok (.goto 5, 3) := by decide +kernel
theorem dX12_liar_58 : decode cX12_liar 58 = .ok (.bipush (-3), 2) := by decide +kernel
theorem dX12_liar_60 : decode cX12_liar 60 = .ok (.istore_n 1, 1) := by decide +kernel
theorem dX12_liar_61 : decode cX12_liar 61 = .ok (.iinc 3 1, 3) := by decide +kernel
theorem dX12_liar_64 : decode cX12_liar 64 = .ok (.goto (-41), 3) := by decide +kernel
theorem dX12_liar_67 : decode cX12_liar 67 = .ok (.iload_n 1, 1) := by decide +kernel
theorem dX12_liar_68 : decode cX12_liar 68 = .ok (.ireturn, 1) := by decide +kernel
theorem dX12_seed_0 : decode cX12_seed 0 = .ok (.aload_n 0, 1) := by decide +kernel
theorem dX12_seed_1 : decode cX12_seed 1 = .ok (.iconst 4, 1) := by decide +kernel
theorem dX12_seed_2 : decode cX12_seed 2 = .ok (.iload_n 1, 1) := by decide +kernel
theorem dX12_seed_3 : decode cX12_seed 3 = .ok (.invokevirtual 128, 3) := by decide +kernel
theorem dX12_seed_6 : decode cX12_seed 6 = .ok (.ireturn, 1) := by decide +kernel
theorem dX12_goesByLot_0 : decode cX12_goesByLot 0 = .ok (.aload_n 0, 1) := by decide +kernel
theorem dX12_goesByLot_1 : decode cX12_goesByLot 1 = .ok (.getfield 7, 3) := by decide +kernel
theorem dX12_goesByLot_4 : decode cX12_goesByLot 4 = .ok (.iconst 4, 1) := by decide +kernel
theorem dX12_goesByLot_5 : decode cX12_goesByLot 5 = .ok (.aload_n 0, 1) := by decide +kernel
theorem dX12_goesByLot_6 : decode cX12_goesByLot 6 = .ok (.getfield 7, 3) := by decide +kernel
theorem dX12_goesByLot_9 : decode cX12_goesByLot 9 = .ok (.iconst 4, 1) := by decide +kernel
theorem dX12_goesByLot_10 : decode cX12_goesByLot 10 = .ok (.iaload, 1) := by decide +kernel
theorem dX12_goesByLot_11 : decode cX12_goesByLot 11 = .ok (.ldc_w 328, 3) := by decide +kernel
theorem dX12_goesByLot_14 : decode cX12_goesByLot 14 = .ok (.imul, 1) := by decide +kernel
theorem dX12_goesByLot_15 : decode cX12_goesByLot 15 = .ok (.sipush 12345, 3) := by decide +kernel
theorem dX12_goesByLot_18 : decode cX12_goesByLot 18 = .ok (.iadd, 1) := by decide +kernel
theorem dX12_goesByLot_19 : decode cX12_goesByLot 19 = .ok (.iastore, 1) := by decide +kernel
theorem dX12_goesByLot_20 : decode cX12_goesByLot 20 = .ok (.aload_n 0, 1) := by decide +kernel
theorem dX12_goesByLot_21 : decode cX12_goesByLot 21 = .ok (.aload_n 0, 1) := by decide +kernel
theorem dX12_goesByLot_22 : decode cX12_goesByLot 22 = .ok (.getfield 7, 3) := by decide +kernel
theorem dX12_goesByLot_25 : decode cX12_goesByLot 25 = .ok (.iconst 4, 1) := by decide +kernel
theorem dX12_goesByLot_26 : decode cX12_goesByLot 26 = .ok (.iaload, 1) := by decide +kernel
theorem dX12_goesByLot_27 : decode cX12_goesByLot 27 = .ok (.bipush 16, 2) := by decide +kernel
theorem dX12_goesByLot_29 : decode cX12_goesByLot 29 = .ok (.iushr, 1) := by decide +kernel
theorem dX12_goesByLot_30 : decode cX12_goesByLot 30 = .ok (.aload_n 0, 1) := by decide +kernel
theorem dX12_goesByLot_31 : decode cX12_goesByLot 31 = .ok (.getfield 7, 3) := by decide +kernel
theorem dX12_goesByLot_34 : decode cX12_goesByLot 34 = .ok (.iconst 0, 1) := by decide +kernel
theorem dX12_goesByLot_35 : decode cX12_goesByLot 35 = .ok (.iaload, 1) := by decide +kernel
theorem dX12_goesByLot_36 : decode cX12_goesByLot 36 = .ok (.iconst 1, 1) := by decide +kernel
theorem dX12_goesByLot_37 : decode cX12_goesByLot 37 = .ok (.iadd, 1) := by decide +kernel
theorem dX12_goesByLot_38 : decode cX12_goesByLot 38 = .ok (.irem, 1) := by decide +kernel
theorem dX12_goesByLot_39 : decode cX12_goesByLot 39 = .ok (.invokevirtual 287, 3) := by decide +kernel
theorem dX12_goesByLot_42 : decode cX12_goesByLot 42 = .ok (.ireturn, 1) := by decide +kernel
theorem dX12_lot_0 : decode cX12_lot 0 = .ok (.aload_n 0, 1) := by decide +kernel
theorem dX12_lot_1 : decode cX12_lot 1 = .ok (.invokevirtual 133, 3) := by decide +kernel
theorem dX12_lot_4 : decode cX12_lot 4 = .ok (.ifCond .eq 8, 3) := by decide +kernel
theorem dX12_lot_7 : decode cX12_lot 7 = .ok (.bipush (-4), 2) := by decide +kernel
theorem dX12_lot_9 : decode cX12_lot 9 = .ok (.goto 7, 3) := by decide +kernel
theorem dX12_lot_12 : decode cX12_lot 12 = .ok (.aload_n 0, 1) := by decide +kernel
theorem dX12_lot_13 : decode cX12_lot 13 = .ok (.invokevirtual 329, 3) := by decide +kernel
theorem dX12_lot_16 : decode cX12_lot 16 = .ok (.ireturn, 1) := by decide +kernel
theorem dX12_times_0 : decode cX12_times 0 = .ok (.iload_n 1, 1) := by decide +kernel
theorem dX12_times_1 : decode cX12_times 1 = .ok (.i2l, 1) := by decide +kernel
theorem dX12_times_2 : decode cX12_times 2 = .ok (.lconst 1, 1) := by decide +kernel
theorem dX12_times_3 : decode cX12_times 3 = .ok (.ldc2_w 332, 3) := by decide +kernel
theorem dX12_times_6 : decode cX12_times 6 = .ok (.invokestatic 66, 3) := by decide +kernel
theorem dX12_times_9 : decode cX12_times 9 = .ok (.ifCond .eq 15, 3) := by decide +kernel
theorem dX12_times_12 : decode cX12_times 12 = .ok (.iload_n 2, 1) := by decide +kernel
theorem dX12_times_13 : decode cX12_times 13 = .ok (.i2l, 1) := by decide +kernel
theorem dX12_times_14 : decode cX12_times 14 = .ok (.lconst 0, 1) := by decide +kernel
theorem dX12_times_15 : decode cX12_times 15 = .ok (.ldc2_w 334, 3) := by decide +kernel
theorem dX12_times_18 : decode cX12_times 18 = .ok (.invokestatic 66, 3) := by decide +kernel
theorem dX12_times_21 : decode cX12_times 21 = .ok (.ifCond .ne 5, 3) := by decide +kernel
theorem dX12_times_24 : decode cX12_times 24 = .ok (.iconst (-1), 1) := by decide +kernel
theorem dX12_times_25 : decode cX12_times 25 = .ok (.ireturn, 1) := by decide +kernel
theorem dX12_times_26 : decode cX12_times 26 = .ok (.aload_n 0, 1) := by decide +kernel
theorem dX12_times_27 : decode cX12_times 27 = .ok (.iconst 0, 1) := by decide +kernel
theorem dX12_times_28 : decode cX12_times 28 = .ok (.invokevirtual 234, 3) := by decide +kernel
theorem dX12_times_31 : decode cX12_times 31 = .ok (.iconst 0, 1) := by decide +kernel
theorem dX12_times_32 : decode cX12_times 32 = .ok (.istore_n 3, 1) := by decide +kernel
theorem dX12_times_33 : decode cX12_times 33 = .ok (.iconst 0, 1) := by decide +kernel
theorem dX12_times_34 : decode cX12_times 34 = .ok (.istore 4, 2) := by decide +kernel
theorem dX12_times_36 : decode cX12_times 36 = .ok (.iload 4, 2) := by decide +kernel
theorem dX12_times_38 : decode cX12_times 38 = .ok (.iload_n 1, 1) := by decide +kernel
theorem dX12_times_39 : decode cX12_times 39 = .ok (.if_icmp .ge 80, 3) := by decide +kernel
theorem dX12_times_42 : decode cX12_times 42 = .ok (.aload_n 0, 1) := by decide +kernel
theorem dX12_times_43 : decode cX12_times 43 = .ok (.getfield 7, 3) := by decide +kernel
theorem dX12_times_46 : decode cX12_times 46 = .ok (.iconst 4, 1) := by decide +kernel
theorem dX12_times_47 : decode cX12_times 47 = .ok (.iaload, 1) := by decide +kernel
theorem dX12_times_48 : decode cX12_times 48 = .ok (.istore 5, 2) := by decide +kernel
theorem dX12_times_50 : decode cX12_times 50 = .ok (.aload_n 0, 1) := by decide +kernel
theorem dX12_times_51 : decode cX12_times 51 = .ok (.iconst 0, 1) := by decide +kernel
theorem dX12_times_52 : decode cX12_times 52 = .ok (.invokevirtual 237, 3) := by decide +kernel
theorem dX12_times_55 : decode cX12_times 55 = .ok (.aload_n 0, 1) := by decide +kernel
theorem dX12_times_56 : decode cX12_times 56 = .ok (.getfield 7, 3) := by decide +kernel
theorem dX12_times_59 : decode cX12_times 59 = .ok (.iconst 4, 1) := by decide +kernel
theorem dX12_times_60 : decode cX12_times 60 = .ok (.iload 4, 2) := by decide +kernel
theorem dX12_times_62 : decode cX12_times 62 = .ok (.ifCond .ne 12, 3) := by decide +kernel
theorem dX12_times_65 : decode cX12_times 65 = .ok (.aload_n 0, 1) := by decide +kernel
theorem dX12_times_66 : decode cX12_times 66 = .ok (.getfield 7, 3) := by decide +kernel
theorem dX12_times_69 : decode cX12_times 69 = .ok (.iconst 4, 1) := by decide +kernel
theorem dX12_times_70 : decode cX12_times 70 = .ok (.iaload, 1) := by decide +kernel
theorem dX12_times_71 : decode cX12_times 71 = .ok (.goto 5, 3) := by decide +kernel
theorem dX12_times_74 : decode cX12_times 74 = .ok (.iload 5, 2) := by decide +kernel
theorem dX12_times_76 : decode cX12_times 76 = .ok (.iastore, 1) := by decide +kernel
theorem dX12_times_77 : decode cX12_times 77 = .ok (.iconst 0, 1) := by decide +kernel
theorem dX12_times_78 : decode cX12_times 78 = .ok (.istore 6, 2) := by decide +kernel
theorem dX12_times_80 : decode cX12_times 80 = .ok (.aload_n 0, 1) := by decide +kernel
theorem dX12_times_81 : decode cX12_times 81 = .ok (.invokevirtual 133, 3) := by decide +kernel
theorem dX12_times_84 : decode cX12_times 84 = .ok (.ifCond .ne 15, 3) := by decide +kernel
theorem dX12_times_87 : decode cX12_times 87 = .ok (.iload 6, 2) := by decide +kernel
theorem dX12_times_89 : decode cX12_times 89 = .ok (.aload_n 0, 1) := by decide +kernel
theorem dX12_times_90 : decode cX12_times 90 = .ok (.invokevirtual 329, 3) := by decide +kernel
theorem dX12_times_93 : decode cX12_times 93 = .ok (.iadd, 1) := by decide +kernel
theorem dX12_times_94 : decode cX12_times 94 = .ok (.istore 6, 2) := by decide +kernel
theorem dX12_times_96 : decode cX12_times 96 = .ok (.goto (-16), 3) := by decide +kernel
theorem dX12_times_99 : decode cX12_times 99 = .ok (.iload_n 3, 1) := by decide +kernel
theorem dX12_times_100 : decode cX12_times 100 = .ok (.iload 6, 2) := by decide +kernel
theorem dX12_times_102 : decode cX12_times 102 = .ok (.iload_n 2, 1) := by decide +kernel
theorem dX12_times_103 : decode cX12_times 103 = .ok (.if_icmp .lt 7, 3) := by decide +kernel
theorem dX12_times_106 : decode cX12_times 106 = .ok (.iconst 1, 1) := by decide +kernel
theorem dX12_times_107 : decode cX12_times 107 = .ok (.goto 4, 3) := by decide +kernel
theorem dX12_times_110 : decode cX12_times 110 = .ok (.iconst 0, 1) := by decide +kernel
theorem dX12_times_111 : decode cX12_times 111 = .ok (.iadd, 1) := by decide +kernel
theorem dX12_times_112 : decode cX12_times 112 = .ok (.istore_n 3, 1) := by decide +kernel
theorem dX12_times_113 : decode cX12_times 113 = .ok (.iinc 4 1, 3) := by decide +kernel
theorem dX12_times_116 : decode cX12_times 116 = .ok (.goto (-80), 3) := by decide +kernel
theorem dX12_times_119 : decode cX12_times 119 = .ok (.aload_n 0, 1) := by decide +kernel
theorem dX12_times_120 : decode cX12_times 120 = .ok (.iconst 0, 1) := by decide +kernel
theorem dX12_times_121 : decode cX12_times 121 = .ok (.invokevirtual 237, 3) := by decide +kernel
theorem dX12_times_124 : decode cX12_times 124 = .ok (.iload_n 3, 1) := by decide +kernel
theorem dX12_times_125 : decode cX12_times 125 = .ok (.ireturn, 1) := by decide +kernel
theorem dX12_prove_0 : decode cX12_prove 0 = .ok (.iload_n 1, 1) := by decide +kernel
theorem dX12_prove_1 : decode cX12_prove 1 = .ok (.invokestatic 293, 3) := by decide +kernel
theorem dX12_prove_4 : decode cX12_prove 4 = .ok (.ifCond .ne 5, 3) := by decide +kernel
theorem dX12_prove_7 : decode cX12_prove 7 = .ok (.iconst (-1), 1) := by decide +kernel
theorem dX12_prove_8 : decode cX12_prove 8 = .ok (.ireturn, 1) := by decide +kernel
theorem dX12_prove_9 : decode cX12_prove 9 = .ok (.aload_n 0, 1) := by decide +kernel
theorem dX12_prove_10 : decode cX12_prove 10 = .ok (.iload_n 1, 1) := by decide +kernel
theorem dX12_prove_11 : decode cX12_prove 11 = .ok (.iconst 0, 1) := by decide +kernel
theorem dX12_prove_12 : decode cX12_prove 12 = .ok (.invokevirtual 296, 3) := by decide +kernel
theorem dX12_prove_15 : decode cX12_prove 15 = .ok (.aload_n 0, 1) := by decide +kernel
theorem dX12_prove_16 : decode cX12_prove 16 = .ok (.iconst 0, 1) := by decide +kernel
theorem dX12_prove_17 : decode cX12_prove 17 = .ok (.invokevirtual 234, 3) := by decide +kernel
theorem dX12_prove_20 : decode cX12_prove 20 = .ok (.iconst 0, 1) := by decide +kernel
theorem dX12_prove_21 : decode cX12_prove 21 = .ok (.istore_n 2, 1) := by decide +kernel
theorem dX12_prove_22 : decode cX12_prove 22 = .ok (.iload_n 2, 1) := by decide +kernel
theorem dX12_prove_23 : decode cX12_prove 23 = .ok (.aload_n 0, 1) := by decide +kernel
theorem dX12_prove_24 : decode cX12_prove 24 = .ok (.getfield 275, 3) := by decide +kernel
theorem dX12_prove_27 : decode cX12_prove 27 = .ok (.if_icmp .ge 57, 3) := by decide +kernel
theorem dX12_prove_30 : decode cX12_prove 30 = .ok (.aload_n 0, 1) := by decide +kernel
theorem dX12_prove_31 : decode cX12_prove 31 = .ok (.getfield 40, 3) := by decide +kernel
theorem dX12_prove_34 : decode cX12_prove 34 = .ok (.iconst 3, 1) := by decide +kernel
theorem dX12_prove_35 : decode cX12_prove 35 = .ok (.iload_n 2, 1) := by decide +kernel
theorem dX12_prove_36 : decode cX12_prove 36 = .ok (.imul, 1) := by decide +kernel
theorem dX12_prove_37 : decode cX12_prove 37 = .ok (.aload_n 0, 1) := by decide +kernel
theorem dX12_prove_38 : decode cX12_prove 38 = .ok (.getfield 37, 3) := by decide +kernel
theorem dX12_prove_41 : decode cX12_prove 41 = .ok (.iload_n 2, 1) := by decide +kernel
theorem dX12_prove_42 : decode cX12_prove 42 = .ok (.iaload, 1) := by decide +kernel
theorem dX12_prove_43 : decode cX12_prove 43 = .ok (.iastore, 1) := by decide +kernel
theorem dX12_prove_44 : decode cX12_prove 44 = .ok (.aload_n 0, 1) := by decide +kernel
theorem dX12_prove_45 : decode cX12_prove 45 = .ok (.getfield 40, 3) := by decide +kernel
theorem dX12_prove_48 : decode cX12_prove 48 = .ok (.iconst 3, 1) := by decide +kernel
theorem dX12_prove_49 : decode cX12_prove 49 = .ok (.iload_n 2, 1) := by decide +kernel
theorem dX12_prove_50 : decode cX12_prove 50 = .ok (.imul, 1) := by decide +kernel
theorem dX12_prove_51 : decode cX12_prove 51 = .ok (.iconst 1, 1) := by decide +kernel
theorem dX12_prove_52 : decode cX12_prove 52 = .ok (.iadd, 1) := by decide +kernel
theorem dX12_prove_53 : decode cX12_prove 53 = .ok (.aload_n 0, 1) := by decide +kernel
theorem dX12_prove_54 : decode cX12_prove 54 = .ok (.aload_n 0, 1) := by decide +kernel
theorem dX12_prove_55 : decode cX12_prove 55 = .ok (.getfield 37, 3) := by decide +kernel
theorem dX12_prove_58 : decode cX12_prove 58 = .ok (.iload_n 2, 1) := by decide +kernel
theorem dX12_prove_59 : decode cX12_prove 59 = .ok (.iaload, 1) := by decide +kernel
theorem dX12_prove_60 : decode cX12_prove 60 = .ok (.invokevirtual 287, 3) := by decide +kernel
theorem dX12_prove_63 : decode cX12_prove 63 = .ok (.iastore, 1) := by decide +kernel
theorem dX12_prove_64 : decode cX12_prove 64 = .ok (.aload_n 0, 1) := by decide +kernel
theorem dX12_prove_65 : decode cX12_prove 65 = .ok (.getfield 40, 3) := by decide +kernel
theorem dX12_prove_68 : decode cX12_prove 68 = .ok (.iconst 3, 1) := by decide +kernel
theorem dX12_prove_69 : decode cX12_prove 69 = .ok (.iload_n 2, 1) := by decide +kernel
theorem dX12_prove_70 : decode cX12_prove 70 = .ok (.imul, 1) := by decide +kernel
theorem dX12_prove_71 : decode cX12_prove 71 = .ok (.iconst 2, 1) := by decide +kernel
theorem dX12_prove_72 : decode cX12_prove 72 = .ok (.iadd, 1) := by decide +kernel
theorem dX12_prove_73 : decode cX12_prove 73 = .ok (.aload_n 0, 1) := by decide +kernel
theorem dX12_prove_74 : decode cX12_prove 74 = .ok (.invokevirtual 137, 3) := by decide +kernel
theorem dX12_prove_77 : decode cX12_prove 77 = .ok (.iastore, 1) := by decide +kernel
theorem dX12_prove_78 : decode cX12_prove 78 = .ok (.iinc 2 1, 3) := by decide +kernel
theorem dX12_prove_81 : decode cX12_prove 81 = .ok (.goto (-59), 3) := by decide +kernel
theorem dX12_prove_84 : decode cX12_prove 84 = .ok (.aload_n 0, 1) := by decide +kernel
theorem dX12_prove_85 : decode cX12_prove 85 = .ok (.iconst 0, 1) := by decide +kernel
theorem dX12_prove_86 : decode cX12_prove 86 = .ok (.invokevirtual 237, 3) := by decide +kernel
theorem dX12_prove_89 : decode cX12_prove 89 = .ok (.aload_n 0, 1) := by decide +kernel
theorem dX12_prove_90 : decode cX12_prove 90 = .ok (.aload_n 0, 1) := by decide +kernel
theorem dX12_prove_91 : decode cX12_prove 91 = .ok (.getfield 275, 3) := by decide +kernel
theorem dX12_prove_94 : decode cX12_prove 94 = .ok (.putfield 336, 3) := by decide +kernel
theorem dX12_prove_97 : decode cX12_prove 97 = .ok (.aload_n 0, 1) := by decide +kernel
theorem dX12_prove_98 : decode cX12_prove 98 = .ok (.getfield 336, 3) := by decide +kernel
theorem dX12_prove_101 : decode cX12_prove 101 = .ok (.ireturn, 1) := by decide +kernel
theorem dX12_isRow_0 : decode cX12_isRow 0 = .ok (.iload_n 1, 1) := by decide +kernel
theorem dX12_isRow_1 : decode cX12_isRow 1 = .ok (.i2l, 1) := by decide +kernel
theorem dX12_isRow_2 : decode cX12_isRow 2 = .ok (.lconst 0, 1) := by decide +kernel
theorem dX12_isRow_3 : decode cX12_isRow 3 = .ok (.aload_n 0, 1) := by decide +kernel
theorem dX12_isRow_4 : decode cX12_isRow 4 = .ok (.getfield 336, 3) := by decide +kernel
theorem dX12_isRow_7 : decode cX12_isRow 7 = .ok (.iconst 1, 1) := by decide +kernel
theorem dX12_isRow_8 : decode cX12_isRow 8 = .ok (.isub, 1) := by decide +kernel
theorem dX12_isRow_9 : decode cX12_isRow 9 = .ok (.i2l, 1) := by decide +kernel
theorem dX12_isRow_10 : decode cX12_isRow 10 = .ok (.invokestatic 66, 3) := by decide +kernel
theorem dX12_isRow_13 : decode cX12_isRow 13 = .ok (.ifCond .eq 19, 3) := by decide +kernel
theorem dX12_isRow_16 : decode cX12_isRow 16 = .ok (.iload_n 2, 1) := by decide +kernel
theorem dX12_isRow_17 : decode cX12_isRow 17 = .ok (.i2l, 1) := by decide +kernel
theorem dX12_isRow_18 : decode cX12_isRow 18 = .ok (.lconst 0, 1) := by decide +kernel
theorem dX12_isRow_19 : decode cX12_isRow 19 = .ok (.ldc2_w 88, 3) := by decide +kernel
theorem dX12_isRow_22 : decode cX12_isRow 22 = .ok (.invokestatic 66, 3) := by decide +kernel
theorem dX12_isRow_25 : decode cX12_isRow 25 = .ok (.ifCond .eq 7, 3) := by decide +kernel
theorem dX12_isRow_28 : decode cX12_isRow 28 = .ok (.iconst 1, 1) := by decide +kernel
theorem dX12_isRow_29 : decode cX12_isRow 29 = .ok (.goto 4, 3) := by decide +kernel
theorem dX12_isRow_32 : decode cX12_isRow 32 = .ok (.iconst 0, 1) := by decide +kernel
theorem dX12_isRow_33 : decode cX12_isRow 33 = .ok (.ireturn, 1) := by decide +kernel
theorem dX12_row_0 : decode cX12_row 0 = .ok (.aload_n 0, 1) := by decide +kernel
theorem dX12_row_1 : decode cX12_row 1 = .ok (.iload_n 1, 1) := by decide +kernel
theorem dX12_row_2 : decode cX12_row 2 = .ok (.iload_n 2, 1) := by decide +kernel
theorem dX12_row_3 : decode cX12_row 3 = .ok (.invokevirtual 339, 3) := by decide +kernel
theorem dX12_row_6 : decode cX12_row 6 = .ok (.ifCond .eq 16, 3) := by decide +kernel
theorem dX12_row_9 : decode cX12_row 9 = .ok (.aload_n 0, 1) := by decide +kernel
theorem dX12_row_10 : decode cX12_row 10 = .ok (.getfield 40, 3) := by decide +kernel
theorem dX12_row_13 : decode cX12_row 13 = .ok (.iconst 3, 1) := by decide +kernel
theorem dX12_row_14 : decode cX12_row 14 = .ok (.iload_n 1, 1) := by decide +kernel
theorem dX12_row_15 : decode cX12_row 15 = .ok (.imul, 1) := by decide +kernel
theorem dX12_row_16 : decode cX12_row 16 = .ok (.iload_n 2, 1) := by decide +kernel
theorem dX12_row_17 : decode cX12_row 17 = .ok (.iadd, 1) := by decide +kernel
theorem dX12_row_18 : decode cX12_row 18 = .ok (.iaload, 1) := by decide +kernel
theorem dX12_row_19 : decode cX12_row 19 = .ok (.goto 5, 3) := by decide +kernel
theorem dX12_row_22 : decode cX12_row 22 = .ok (.bipush (-9), 2) := by decide +kernel
theorem dX12_row_24 : decode cX12_row 24 = .ok (.ireturn, 1) := by decide +kernel
theorem dX12_alterRow_0 : decode cX12_alterRow 0 = .ok (.aload_n 0, 1) := by decide +kernel
theorem dX12_alterRow_1 : decode cX12_alterRow 1 = .ok (.iload_n 1, 1) := by decide +kernel
theorem dX12_alterRow_2 : decode cX12_alterRow 2 = .ok (.iload_n 2, 1) := by decide +kernel
theorem dX12_alterRow_3 : decode cX12_alterRow 3 = .ok (.invokevirtual 339, 3) := by decide +kernel
theorem dX12_alterRow_6 : decode cX12_alterRow 6 = .ok (.ifCond .ne 6, 3) := by decide +kernel
theorem dX12_alterRow_9 : decode cX12_alterRow 9 = .ok (.bipush (-9), 2) := by decide +kernel
theorem dX12_alterRow_11 : decode cX12_alterRow 11 = .ok (.ireturn, 1) := by decide +kernel
theorem dX12_alterRow_12 : decode cX12_alterRow 12 = .ok (.aload_n 0, 1) := by decide +kernel
theorem dX12_alterRow_13 : decode cX12_alterRow 13 = .ok (.getfield 40, 3) := by decide +kernel
theorem dX12_alterRow_16 : decode cX12_alterRow 16 = .ok (.iconst 3, 1) := by decide +kernel
theorem dX12_alterRow_17 : decode cX12_alterRow 17 = .ok (.iload_n 1, 1) := by decide +kernel
theorem dX12_alterRow_18 : decode cX12_alterRow 18 = .ok (.imul, 1) := by decide +kernel
theorem dX12_alterRow_19 : decode cX12_alterRow 19 = .ok (.iload_n 2, 1) := by decide +kernel
theorem dX12_alterRow_20 : decode cX12_alterRow 20 = .ok (.iadd, 1) := by decide +kernel
theorem dX12_alterRow_21 : decode cX12_alterRow 21 = .ok (.iaload, 1) := by decide +kernel
theorem dX12_alterRow_22 : decode cX12_alterRow 22 = .ok (.istore 4, 2) := by decide +kernel
theorem dX12_alterRow_24 : decode cX12_alterRow 24 = .ok (.aload_n 0, 1) := by decide +kernel
theorem dX12_alterRow_25 : decode cX12_alterRow 25 = .ok (.getfield 40, 3) := by decide +kernel
theorem dX12_alterRow_28 : decode cX12_alterRow 28 = .ok (.iconst 3, 1) := by decide +kernel
theorem dX12_alterRow_29 : decode cX12_alterRow 29 = .ok (.iload_n 1, 1) := by decide +kernel
theorem dX12_alterRow_30 : decode cX12_alterRow 30 = .ok (.imul, 1) := by decide +kernel
theorem dX12_alterRow_31 : decode cX12_alterRow 31 = .ok (.iload_n 2, 1) := by decide +kernel
theorem dX12_alterRow_32 : decode cX12_alterRow 32 = .ok (.iadd, 1) := by decide +kernel
theorem dX12_alterRow_33 : decode cX12_alterRow 33 = .ok (.iload_n 3, 1) := by decide +kernel
theorem dX12_alterRow_34 : decode cX12_alterRow 34 = .ok (.iastore, 1) := by decide +kernel
theorem dX12_alterRow_35 : decode cX12_alterRow 35 = .ok (.iload 4, 2) := by decide +kernel
theorem dX12_alterRow_37 : decode cX12_alterRow 37 = .ok (.ireturn, 1) := by decide +kernel
theorem dX12_isAct_0 : decode cX12_isAct 0 = .ok (.iload_n 1, 1) := by decide +kernel
theorem dX12_isAct_1 : decode cX12_isAct 1 = .ok (.i2l, 1) := by decide +kernel
theorem dX12_isAct_2 : decode cX12_isAct 2 = .ok (.lconst 0, 1) := by decide +kernel
theorem dX12_isAct_3 : decode cX12_isAct 3 = .ok (.aload_n 0, 1) := by decide +kernel
theorem dX12_isAct_4 : decode cX12_isAct 4 = .ok (.getfield 7, 3) := by decide +kernel
theorem dX12_isAct_7 : decode cX12_isAct 7 = .ok (.iconst 0, 1) := by decide +kernel
theorem dX12_isAct_8 : decode cX12_isAct 8 = .ok (.iaload, 1) := by decide +kernel
theorem dX12_isAct_9 : decode cX12_isAct 9 = .ok (.i2l, 1) := by decide +kernel
theorem dX12_isAct_10 : decode cX12_isAct 10 = .ok (.invokestatic 66, 3) := by decide +kernel
theorem dX12_isAct_13 : decode cX12_isAct 13 = .ok (.ireturn, 1) := by decide +kernel
theorem dX12_judge_0 : decode cX12_judge 0 = .ok (.aload_n 0, 1) := by decide +kernel
theorem dX12_judge_1 : decode cX12_judge 1 = .ok (.iconst 0, 1) := by decide +kernel
theorem dX12_judge_2 : decode cX12_judge 2 = .ok (.invokevirtual 234, 3) := by decide +kernel
theorem dX12_judge_5 : decode cX12_judge 5 = .ok (.iconst 0, 1) := by decide +kernel
theorem dX12_judge_6 : decode cX12_judge 6 = .ok (.istore_n 1, 1) := by decide +kernel
theorem dX12_judge_7 : decode cX12_judge 7 = .ok (.iconst 1, 1) := by decide +kernel
theorem dX12_judge_8 : decode cX12_judge 8 = .ok (.istore_n 2, 1) := by decide +kernel
theorem dX12_judge_9 : decode cX12_judge 9 = .ok (.iload_n 1, 1) := by decide +kernel
theorem dX12_judge_10 : decode cX12_judge 10 = .ok (.aload_n 0, 1) := by decide +kernel
theorem dX12_judge_11 : decode cX12_judge 11 = .ok (.getfield 336, 3) := by decide +kernel
theorem dX12_judge_14 : decode cX12_judge 14 = .ok (.if_icmp .ge 83, 3) := by decide +kernel
theorem dX12_judge_17 : decode cX12_judge 17 = .ok (.iload_n 2, 1) := by decide +kernel
theorem dX12_judge_18 : decode cX12_judge 18 = .ok (.ifCond .eq 79, 3) := by decide +kernel
theorem dX12_judge_21 : decode cX12_judge 21 = .ok (.aload_n 0, 1) := by decide +kernel
theorem dX12_judge_22 : decode cX12_judge 22 = .ok (.aload_n 0, 1) := by decide +kernel
theorem dX12_judge_23 : decode cX12_judge 23 = .ok (.getfield 40, 3) := by decide +kernel
theorem dX12_judge_26 : decode cX12_judge 26 = .ok (.iconst 3, 1) := by decide +kernel
theorem dX12_judge_27 : decode cX12_judge 27 = .ok (.iload_n 1, 1) := by decide +kernel
theorem dX12_judge_28 : decode cX12_judge 28 = .ok (.imul, 1) := by decide +kernel
theorem dX12_judge_29 : decode cX12_judge 29 = .ok (.iaload, 1) := by decide +kernel
theorem dX12_judge_30 : decode cX12_judge 30 = .ok (.invokevirtual 342, 3) := by decide +kernel
theorem dX12_judge_33 : decode cX12_judge 33 = .ok (.ifCond .eq 56, 3) := by decide +kernel
theorem dX12_judge_36 : decode cX12_judge 36 = .ok (.aload_n 0, 1) := by decide +kernel
theorem dX12_judge_37 : decode cX12_judge 37 = .ok (.invokevirtual 133, 3) := by decide +kernel
theorem dX12_judge_40 : decode cX12_judge 40 = .ok (.ifCond .ne 49, 3) := by decide +kernel
theorem dX12_judge_43 : decode cX12_judge 43 = .ok (.aload_n 0, 1) := by decide +kernel
theorem dX12_judge_44 : decode cX12_judge 44 = .ok (.aload_n 0, 1) := by decide +kernel
theorem dX12_judge_45 : decode cX12_judge 45 = .ok (.getfield 40, 3) := by decide +kernel
theorem dX12_judge_48 : decode cX12_judge 48 = .ok (.iconst 3, 1) := by decide +kernel
theorem dX12_judge_49 : decode cX12_judge 49 = .ok (.iload_n 1, 1) := by decide +kernel
theorem dX12_judge_50 : decode cX12_judge 50 = .ok (.imul, 1) := by decide +kernel
theorem dX12_judge_51 : decode cX12_judge 51 = .ok (.iaload, 1) := by decide +kernel
theorem dX12_judge_52 : decode cX12_judge 52 = .ok (.invokevirtual 287, 3) := by decide +kernel
theorem dX12_judge_55 : decode cX12_judge 55 = .ok (.aload_n 0, 1) := by decide +kernel
theorem dX12_judge_56 : decode cX12_judge 56 = .ok (.getfield 40, 3) := by decide +kernel
theorem dX12_judge_59 : decode cX12_judge 59 = .ok (.iconst 3, 1) := by decide +kernel
theorem dX12_judge_60 : decode cX12_judge 60 = .ok (.iload_n 1, 1) := by decide +kernel
theorem dX12_judge_61 : decode cX12_judge 61 = .ok (.imul, 1) := by decide +kernel
theorem dX12_judge_62 : decode cX12_judge 62 = .ok (.iconst 1, 1) := by decide +kernel
theorem dX12_judge_63 : decode cX12_judge 63 = .ok (.iadd, 1) := by decide +kernel
theorem dX12_judge_64 : decode cX12_judge 64 = .ok (.iaload, 1) := by decide +kernel
theorem dX12_judge_65 : decode cX12_judge 65 = .ok (.if_icmp .ne 24, 3) := by decide +kernel
theorem dX12_judge_68 : decode cX12_judge 68 = .ok (.aload_n 0, 1) := by decide +kernel
theorem dX12_judge_69 : decode cX12_judge 69 = .ok (.invokevirtual 137, 3) := by decide +kernel
theorem dX12_judge_72 : decode cX12_judge 72 = .ok (.aload_n 0, 1) := by decide +kernel
theorem dX12_judge_73 : decode cX12_judge 73 = .ok (.getfield 40, 3) := by decide +kernel
theorem dX12_judge_76 : decode cX12_judge 76 = .ok (.iconst 3, 1) := by decide +kernel
theorem dX12_judge_77 : decode cX12_judge 77 = .ok (.iload_n 1, 1) := by decide +kernel
theorem dX12_judge_78 : decode cX12_judge 78 = .ok (.imul, 1) := by decide +kernel
theorem dX12_judge_79 : decode cX12_judge 79 = .ok (.iconst 2, 1) := by decide +kernel
theorem dX12_judge_80 : decode cX12_judge 80 = .ok (.iadd, 1) := by decide +kernel
theorem dX12_judge_81 : decode cX12_judge 81 = .ok (.iaload, 1) := by decide +kernel
theorem dX12_judge_82 : decode cX12_judge 82 = .ok (.if_icmp .ne 7, 3) := by decide +kernel
theorem dX12_judge_85 : decode cX12_judge 85 = .ok (.iconst 1, 1) := by decide +kernel
theorem dX12_judge_86 : decode cX12_judge 86 = .ok (.goto 4, 3) := by decide +kernel
theorem dX12_judge_89 : decode cX12_judge 89 = .ok (.iconst 0, 1) := by decide +kernel
theorem dX12_judge_90 : decode cX12_judge 90 = .ok (.istore_n 2, 1) := by decide +kernel
theorem dX12_judge_91 : decode cX12_judge 91 = .ok (.iinc 1 1, 3) := by decide +kernel
theorem dX12_judge_94 : decode cX12_judge 94 = .ok (.goto (-85), 3) := by decide +kernel
theorem dX12_judge_97 : decode cX12_judge 97 = .ok (.aload_n 0, 1) := by decide +kernel
theorem dX12_judge_98 : decode cX12_judge 98 = .ok (.iconst 0, 1) := by decide +kernel
theorem dX12_judge_99 : decode cX12_judge 99 = .ok (.invokevirtual 237, 3) := by decide +kernel
theorem dX12_judge_102 : decode cX12_judge 102 = .ok (.iload_n 2, 1) := by decide +kernel
theorem dX12_judge_103 : decode cX12_judge 103 = .ok (.ifCond .eq 7, 3) := by decide +kernel
theorem dX12_judge_106 : decode cX12_judge 106 = .ok (.iconst 0, 1) := by decide +kernel
theorem dX12_judge_107 : decode cX12_judge 107 = .ok (.goto 4, 3) := by decide +kernel
theorem dX12_judge_110 : decode cX12_judge 110 = .ok (.iload_n 1, 1) := by decide +kernel
theorem dX12_judge_111 : decode cX12_judge 111 = .ok (.ireturn, 1) := by decide +kernel
theorem dX12_isSheet_0 : decode cX12_isSheet 0 = .ok (.iload_n 0, 1) := by decide +kernel
theorem dX12_isSheet_1 : decode cX12_isSheet 1 = .ok (.i2l, 1) := by decide +kernel
theorem dX12_isSheet_2 : decode cX12_isSheet 2 = .ok (.lconst 0, 1) := by decide +kernel
theorem dX12_isSheet_3 : decode cX12_isSheet 3 = .ok (.ldc2_w 300, 3) := by decide +kernel
theorem dX12_isSheet_6 : decode cX12_isSheet 6 = .ok (.invokestatic 66, 3) := by decide +kernel
theorem dX12_isSheet_9 : decode cX12_isSheet 9 = .ok (.ireturn, 1) := by decide +kernel
theorem dX12_isShelf_0 : decode cX12_isShelf 0 = .ok (.iload_n 0, 1) := by decide +kernel
theorem dX12_isShelf_1 : decode cX12_isShelf 1 = .ok (.i2l, 1) := by decide +kernel
theorem dX12_isShelf_2 : decode cX12_isShelf 2 = .ok (.lconst 0, 1) := by decide +kernel
theorem dX12_isShelf_3 : decode cX12_isShelf 3 = .ok (.ldc2_w 300, 3) := by decide +kernel
theorem dX12_isShelf_6 : decode cX12_isShelf 6 = .ok (.invokestatic 66, 3) := by decide +kernel
theorem dX12_isShelf_9 : decode cX12_isShelf 9 = .ok (.ireturn, 1) := by decide +kernel
theorem dX12_sheet_0 : decode cX12_sheet 0 = .ok (.iload_n 1, 1) := by decide +kernel
theorem dX12_sheet_1 : decode cX12_sheet 1 = .ok (.invokestatic 345, 3) := by decide +kernel
theorem dX12_sheet_4 : decode cX12_sheet 4 = .ok (.ifCond .eq 27, 3) := by decide +kernel
theorem dX12_sheet_7 : decode cX12_sheet 7 = .ok (.iload_n 2, 1) := by decide +kernel
theorem dX12_sheet_8 : decode cX12_sheet 8 = .ok (.i2l, 1) := by decide +kernel
theorem dX12_sheet_9 : decode cX12_sheet 9 = .ok (.ldc2_w 348, 3) := by decide +kernel
theorem dX12_sheet_12 : decode cX12_sheet 12 = .ok (.ldc2_w 126, 3) := by decide +kernel
theorem dX12_sheet_15 : decode cX12_sheet 15 = .ok (.invokestatic 66, 3) := by decide +kernel
theorem dX12_sheet_18 : decode cX12_sheet 18 = .ok (.ifCond .eq 13, 3) := by decide +kernel
theorem dX12_sheet_21 : decode cX12_sheet 21 = .ok (.iload_n 2, 1) := by decide +kernel
theorem dX12_sheet_22 : decode cX12_sheet 22 = .ok (.ifCond .lt 11, 3) := by decide +kernel
theorem dX12_sheet_25 : decode cX12_sheet 25 = .ok (.iload_n 3, 1) := by decide +kernel
theorem dX12_sheet_26 : decode cX12_sheet 26 = .ok (.bipush 40, 2) := by decide +kernel
theorem dX12_sheet_28 : decode cX12_sheet 28 = .ok (.if_icmp .le 5, 3) := by decide +kernel
theorem dX12_sheet_31 : decode cX12_sheet 31 = .ok (.iconst (-1), 1) := by decide +kernel
theorem dX12_sheet_32 : decode cX12_sheet 32 = .ok (.ireturn, 1) := by decide +kernel
theorem dX12_sheet_33 : decode cX12_sheet 33 = .ok (.iload_n 2, 1) := by decide +kernel
theorem dX12_sheet_34 : decode cX12_sheet 34 = .ok (.ifCond .lt 10, 3) := by decide +kernel
theorem dX12_sheet_37 : decode cX12_sheet 37 = .ok (.iload_n 3, 1) := by decide +kernel
theorem dX12_sheet_38 : decode cX12_sheet 38 = .ok (.ifCond .ge 6, 3) := by decide +kernel
theorem dX12_sheet_41 : decode cX12_sheet 41 = .ok (.bipush (-14), 2) := by decide +kernel
theorem dX12_sheet_43 : decode cX12_sheet 43 = .ok (.ireturn, 1) := by decide +kernel
theorem dX12_sheet_44 : decode cX12_sheet 44 = .ok (.aload_n 0, 1) := by decide +kernel
theorem dX12_sheet_45 : decode cX12_sheet 45 = .ok (.getfield 43, 3) := by decide +kernel
theorem dX12_sheet_48 : decode cX12_sheet 48 = .ok (.iload_n 1, 1) := by decide +kernel
theorem dX12_sheet_49 : decode cX12_sheet 49 = .ok (.iload_n 2, 1) := by decide +kernel
theorem dX12_sheet_50 : decode cX12_sheet 50 = .ok (.iastore, 1) := by decide +kernel
theorem dX12_sheet_51 : decode cX12_sheet 51 = .ok (.aload_n 0, 1) := by decide +kernel
theorem dX12_sheet_52 : decode cX12_sheet 52 = .ok (.getfield 46, 3) := by decide +kernel
theorem dX12_sheet_55 : decode cX12_sheet 55 = .ok (.iload_n 1, 1) := by decide +kernel
theorem dX12_sheet_56 : decode cX12_sheet 56 = .ok (.iload_n 2, 1) := by decide +kernel
theorem dX12_sheet_57 : decode cX12_sheet 57 = .ok (.ifCond .ge 7, 3) := by decide +kernel
theorem dX12_sheet_60 : decode cX12_sheet 60 = .ok (.iconst 0, 1) := by decide +kernel
theorem dX12_sheet_61 : decode cX12_sheet 61 = .ok (.goto 4, 3) := by decide +kernel
theorem dX12_sheet_64 : decode cX12_sheet 64 = .ok (.iload_n 3, 1) := by decide +kernel
theorem dX12_sheet_65 : decode cX12_sheet 65 = .ok (.iastore, 1) := by decide +kernel
theorem dX12_sheet_66 : decode cX12_sheet 66 = .ok (.iconst 0, 1) := by decide +kernel
theorem dX12_sheet_67 : decode cX12_sheet 67 = .ok (.istore 4, 2) := by decide +kernel
theorem dX12_sheet_69 : decode cX12_sheet 69 = .ok (.iload 4, 2) := by decide +kernel
theorem dX12_sheet_71 : decode cX12_sheet 71 = .ok (.bipush 40, 2) := by decide +kernel
theorem dX12_sheet_73 : decode cX12_sheet 73 = .ok (.if_icmp .ge 22, 3) := by decide +kernel
theorem dX12_sheet_76 : decode cX12_sheet 76 = .ok (.aload_n 0, 1) := by decide +kernel
theorem dX12_sheet_77 : decode cX12_sheet 77 = .ok (.getfield 49, 3) := by decide +kernel
theorem dX12_sheet_80 : decode cX12_sheet 80 = .ok (.bipush 40, 2) := by decide +kernel
theorem dX12_sheet_82 : decode cX12_sheet 82 = .ok (.iload_n 1, 1) := by decide +kernel
theorem dX12_sheet_83 : decode cX12_sheet 83 = .ok (.imul, 1) := by decide +kernel
theorem dX12_sheet_84 : decode cX12_sheet 84 = .ok (.iload 4, 2) := by decide +kernel
theorem dX12_sheet_86 : decode cX12_sheet 86 = .ok (.iadd, 1) := by decide +kernel
theorem dX12_sheet_87 : decode cX12_sheet 87 = .ok (.iconst 0, 1) := by decide +kernel
theorem dX12_sheet_88 : decode cX12_sheet 88 = .ok (.iastore, 1) := by decide +kernel
theorem dX12_sheet_89 : decode cX12_sheet 89 = .ok (.iinc 4 1, 3) := by decide +kernel
theorem dX12_sheet_92 : decode cX12_sheet 92 = .ok (.goto (-23), 3) := by decide +kernel
theorem dX12_sheet_95 : decode cX12_sheet 95 = .ok (.iconst 1, 1) := by decide +kernel
theorem dX12_sheet_96 : decode cX12_sheet 96 = .ok (.ireturn, 1) := by decide +kernel
theorem dX12_write_0 : decode cX12_write 0 = .ok (.iload_n 1, 1) := by decide +kernel
theorem dX12_write_1 : decode cX12_write 1 = .ok (.invokestatic 345, 3) := by decide +kernel
theorem dX12_write_4 : decode cX12_write 4 = .ok (.ifCond .ne 5, 3) := by decide +kernel
theorem dX12_write_7 : decode cX12_write 7 = .ok (.iconst (-1), 1) := by decide +kernel
theorem dX12_write_8 : decode cX12_write 8 = .ok (.ireturn, 1) := by decide +kernel
theorem dX12_write_9 : decode cX12_write 9 = .ok (.aload_n 0, 1) := by decide +kernel
theorem dX12_write_10 : decode cX12_write 10 = .ok (.getfield 43, 3) := by decide +kernel
theorem dX12_write_13 : decode cX12_write 13 = .ok (.iload_n 1, 1) := by decide +kernel
theorem dX12_write_14 : decode cX12_write 14 = .ok (.iaload, 1) := by decide +kernel
theorem dX12_write_15 : decode cX12_write 15 = .ok (.ifCond .ge 6, 3) := by decide +kernel
theorem dX12_write_18 : decode cX12_write 18 = .ok (.bipush (-11), 2) := by decide +kernel
theorem dX12_write_20 : decode cX12_write 20 = .ok (.ireturn, 1) := by decide +kernel
theorem dX12_write_21 : decode cX12_write 21 = .ok (.iload_n 2, 1) := by decide +kernel
theorem dX12_write_22 : decode cX12_write 22 = .ok (.i2l, 1) := by decide +kernel
theorem dX12_write_23 : decode cX12_write 23 = .ok (.lconst 0, 1) := by decide +kernel
theorem dX12_write_24 : decode cX12_write 24 = .ok (.aload_n 0, 1) := by decide +kernel
theorem dX12_write_25 : decode cX12_write 25 = .ok (.getfield 46, 3) := by decide +kernel
theorem dX12_write_28 : decode cX12_write 28 = .ok (.iload_n 1, 1) := by decide +kernel
theorem dX12_write_29 : decode cX12_write 29 = .ok (.iaload, 1) := by decide +kernel
theorem dX12_write_30 : decode cX12_write 30 = .ok (.iconst 1, 1) := by decide +kernel
theorem dX12_write_31 : decode cX12_write 31 = .ok (.isub, 1) := by decide +kernel
theorem dX12_write_32 : decode cX12_write 32 = .ok (.i2l, 1) := by decide +kernel
theorem dX12_write_33 : decode cX12_write 33 = .ok (.invokestatic 66, 3) := by decide +kernel
theorem dX12_write_36 : decode cX12_write 36 = .ok (.ifCond .ne 6, 3) := by decide +kernel
theorem dX12_write_39 : decode cX12_write 39 = .ok (.bipush (-12), 2) := by decide +kernel
theorem dX12_write_41 : decode cX12_write 41 = .ok (.ireturn, 1) := by decide +kernel
theorem dX12_write_42 : decode cX12_write 42 = .ok (.aload_n 0, 1) := by decide +kernel
theorem dX12_write_43 : decode cX12_write 43 = .ok (.getfield 49, 3) := by decide +kernel
theorem dX12_write_46 : decode cX12_write 46 = .ok (.bipush 40, 2) := by decide +kernel
theorem dX12_write_48 : decode cX12_write 48 = .ok (.iload_n 1, 1) := by decide +kernel
theorem dX12_write_49 : decode cX12_write 49 = .ok (.imul, 1) := by decide +kernel
theorem dX12_write_50 : decode cX12_write 50 = .ok (.iload_n 2, 1) := by decide +kernel
theorem dX12_write_51 : decode cX12_write 51 = .ok (.iadd, 1) := by decide +kernel
theorem dX12_write_52 : decode cX12_write 52 = .ok (.aload_n 0, 1) := by decide +kernel
theorem dX12_write_53 : decode cX12_write 53 = .ok (.getfield 43, 3) := by decide +kernel
theorem dX12_write_56 : decode cX12_write 56 = .ok (.iload_n 1, 1) := by decide +kernel
theorem dX12_write_57 : decode cX12_write 57 = .ok (.iaload, 1) := by decide +kernel
theorem dX12_write_58 : decode cX12_write 58 = .ok (.ifCond .ne 8, 3) := by decide +kernel
theorem dX12_write_61 : decode cX12_write 61 = .ok (.iload_n 3, 1) := by decide +kernel
theorem dX12_write_62 : decode cX12_write 62 = .ok (.i2b, 1) := by decide +kernel
theorem dX12_write_63 : decode cX12_write 63 = .ok (.goto 41, 3) := by decide +kernel
theorem dX12_write_66 : decode cX12_write 66 = .ok (.aload_n 0, 1) := by decide +kernel
theorem dX12_write_67 : decode cX12_write 67 = .ok (.getfield 43, 3) := by decide +kernel
theorem dX12_write_70 : decode cX12_write 70 = .ok (.iload_n 1, 1) := by decide +kernel
theorem dX12_write_71 : decode cX12_write 71 = .ok (.iaload, 1) := by decide +kernel
theorem dX12_write_72 : decode cX12_write 72 = .ok (.iconst 1, 1) := by decide +kernel
theorem dX12_write_73 : decode cX12_write 73 = .ok (.if_icmp .ne 8, 3) := by decide +kernel
theorem dX12_write_76 : decode cX12_write 76 = .ok (.iload_n 3, 1) := by decide +kernel
theorem dX12_write_77 : decode cX12_write 77 = .ok (.i2s, 1) := by decide +kernel
theorem dX12_write_78 : decode cX12_write 78 = .ok (.goto 26, 3) := by decide +kernel
theorem dX12_write_81 : decode cX12_write 81 = .ok (.aload_n 0, 1) := by decide +kernel
theorem dX12_write_82 : decode cX12_write 82 = .ok (.getfield 43, 3) := by decide +kernel
theorem dX12_write_85 : decode cX12_write 85 = .ok (.iload_n 1, 1) := by decide +kernel
theorem dX12_write_86 : decode cX12_write 86 = .ok (.iaload, 1) := by decide +kernel
theorem dX12_write_87 : decode cX12_write 87 = .ok (.iconst 4, 1) := by decide +kernel
theorem dX12_write_88 : decode cX12_write 88 = .ok (.if_icmp .ne 15, 3) := by decide +kernel
theorem dX12_write_91 : decode cX12_write 91 = .ok (.iload_n 3, 1) := by decide +kernel
theorem dX12_write_92 : decode cX12_write 92 = .ok (.ifCond .ne 7, 3) := by decide +kernel
theorem dX12_write_95 : decode cX12_write 95 = .ok (.iconst 0, 1) := by decide +kernel
theorem dX12_write_96 : decode cX12_write 96 = .ok (.goto 8, 3) := by decide +kernel
theorem dX12_write_99 : decode cX12_write 99 = .ok (.iconst 1, 1) := by decide +kernel
theorem dX12_write_100 : decode cX12_write 100 = .ok (.goto 4, 3) := by decide +kernel
theorem dX12_write_103 : decode cX12_write 103 = .ok (.iload_n 3, 1) := by decide +kernel
theorem dX12_write_104 : decode cX12_write 104 = .ok (.iastore, 1) := by decide +kernel
theorem dX12_write_105 : decode cX12_write 105 = .ok (.iconst 1, 1) := by decide +kernel
theorem dX12_write_106 : decode cX12_write 106 = .ok (.ireturn, 1) := by decide +kernel
theorem dX12_lacks_0 : decode cX12_lacks 0 = .ok (.aload_n 0, 1) := by decide +kernel
theorem dX12_lacks_1 : decode cX12_lacks 1 = .ok (.getfield 43, 3) := by decide +kernel
theorem dX12_lacks_4 : decode cX12_lacks 4 = .ok (.iload_n 1, 1) := by decide +kernel
theorem dX12_lacks_5 : decode cX12_lacks 5 = .ok (.iaload, 1) := by decide +kernel
theorem dX12_lacks_6 : decode cX12_lacks 6 = .ok (.ifCond .ge 8, 3) := by decide +kernel
theorem dX12_lacks_9 : decode cX12_lacks 9 = .ok (.bipush (-11), 2) := by decide +kernel
theorem dX12_lacks_11 : decode cX12_lacks 11 = .ok (.goto 19, 3) := by decide +kernel
theorem dX12_lacks_14 : decode cX12_lacks 14 = .ok (.aload_n 0, 1) := by decide +kernel
theorem dX12_lacks_15 : decode cX12_lacks 15 = .ok (.getfield 43, 3) := by decide +kernel
theorem dX12_lacks_18 : decode cX12_lacks 18 = .ok (.iload_n 1, 1) := by decide +kernel
theorem dX12_lacks_19 : decode cX12_lacks 19 = .ok (.iaload, 1) := by decide +kernel
theorem dX12_lacks_20 : decode cX12_lacks 20 = .ok (.iload_n 2, 1) := by decide +kernel
theorem dX12_lacks_21 : decode cX12_lacks 21 = .ok (.if_icmp .eq 8, 3) := by decide +kernel
theorem dX12_lacks_24 : decode cX12_lacks 24 = .ok (.bipush (-13), 2) := by decide +kernel
theorem dX12_lacks_26 : decode cX12_lacks 26 = .ok (.goto 4, 3) := by decide +kernel
theorem dX12_lacks_29 : decode cX12_lacks 29 = .ok (.iconst 0, 1) := by decide +kernel
theorem dX12_lacks_30 : decode cX12_lacks 30 = .ok (.ireturn, 1) := by decide +kernel
theorem dX12_item_0 : decode cX12_item 0 = .ok (.iload_n 1, 1) := by decide +kernel
theorem dX12_item_1 : decode cX12_item 1 = .ok (.invokestatic 345, 3) := by decide +kernel
theorem dX12_item_4 : decode cX12_item 4 = .ok (.ifCond .eq 15, 3) := by decide +kernel
theorem dX12_item_7 : decode cX12_item 7 = .ok (.iload_n 2, 1) := by decide +kernel
theorem dX12_item_8 : decode cX12_item 8 = .ok (.i2l, 1) := by decide +kernel
theorem dX12_item_9 : decode cX12_item 9 = .ok (.lconst 0, 1) := by decide +kernel
theorem dX12_item_10 : decode cX12_item 10 = .ok (.ldc2_w 126, 3) := by decide +kernel
theorem dX12_item_13 : decode cX12_item 13 = .ok (.invokestatic 66, 3) := by decide +kernel
theorem dX12_item_16 : decode cX12_item 16 = .ok (.ifCond .ne 5, 3) := by decide +kernel
theorem dX12_item_19 : decode cX12_item 19 = .ok (.iconst (-1), 1) := by decide +kernel
theorem dX12_item_20 : decode cX12_item 20 = .ok (.ireturn, 1) := by decide +kernel
theorem dX12_item_21 : decode cX12_item 21 = .ok (.aload_n 0, 1) := by decide +kernel
theorem dX12_item_22 : decode cX12_item 22 = .ok (.iload_n 1, 1) := by decide +kernel
theorem dX12_item_23 : decode cX12_item 23 = .ok (.iload_n 2, 1) := by decide +kernel
theorem dX12_item_24 : decode cX12_item 24 = .ok (.invokevirtual 350, 3) := by decide +kernel
theorem dX12_item_27 : decode cX12_item 27 = .ok (.ifCond .eq 10, 3) := by decide +kernel
theorem dX12_item_30 : decode cX12_item 30 = .ok (.aload_n 0, 1) := by decide +kernel
theorem dX12_item_31 : decode cX12_item 31 = .ok (.iload_n 1, 1) := by decide +kernel
theorem dX12_item_32 : decode cX12_item 32 = .ok (.iload_n 2, 1) := by decide +kernel
theorem dX12_item_33 : decode cX12_item 33 = .ok (.invokevirtual 350, 3) := by decide +kernel
theorem dX12_item_36 : decode cX12_item 36 = .ok (.ireturn, 1) := by decide +kernel
theorem dX12_item_37 : decode cX12_item 37 = .ok (.iload_n 3, 1) := by decide +kernel
theorem dX12_item_38 : decode cX12_item 38 = .ok (.i2l, 1) := by decide +kernel
theorem dX12_item_39 : decode cX12_item 39 = .ok (.lconst 0, 1) := by decide +kernel
theorem dX12_item_40 : decode cX12_item 40 = .ok (.aload_n 0, 1) := by decide +kernel
theorem dX12_item_41 : decode cX12_item 41 = .ok (.getfield 46, 3) := by decide +kernel
theorem dX12_item_44 : decode cX12_item 44 = .ok (.iload_n 1, 1) := by decide +kernel
theorem dX12_item_45 : decode cX12_item 45 = .ok (.iaload, 1) := by decide +kernel
theorem dX12_item_46 : decode cX12_item 46 = .ok (.iconst 1, 1) := by decide +kernel
theorem dX12_item_47 : decode cX12_item 47 = .ok (.isub, 1) := by decide +kernel
theorem dX12_item_48 : decode cX12_item 48 = .ok (.i2l, 1) := by decide +kernel
theorem dX12_item_49 : decode cX12_item 49 = .ok (.invokestatic 66, 3) := by decide +kernel
theorem dX12_item_52 : decode cX12_item 52 = .ok (.ifCond .eq 17, 3) := by decide +kernel
theorem dX12_item_55 : decode cX12_item 55 = .ok (.aload_n 0, 1) := by decide +kernel
theorem dX12_item_56 : decode cX12_item 56 = .ok (.getfield 49, 3) := by decide +kernel
theorem dX12_item_59 : decode cX12_item 59 = .ok (.bipush 40, 2) := by decide +kernel
theorem dX12_item_61 : decode cX12_item 61 = .ok (.iload_n 1, 1) := by decide +kernel
theorem dX12_item_62 : decode cX12_item 62 = .ok (.imul, 1) := by decide +kernel
theorem dX12_item_63 : decode cX12_item 63 = .ok (.iload_n 3, 1) := by decide +kernel
theorem dX12_item_64 : decode cX12_item 64 = .ok (.iadd, 1) := by decide +kernel
theorem dX12_item_65 : decode cX12_item 65 = .ok (.iaload, 1) := by decide +kernel
theorem dX12_item_66 : decode cX12_item 66 = .ok (.goto 5, 3) := by decide +kernel
theorem dX12_item_69 : decode cX12_item 69 = .ok (.bipush (-12), 2) := by decide +kernel
theorem dX12_item_71 : decode cX12_item 71 = .ok (.ireturn, 1) := by decide +kernel
theorem dX12_goAll_0 : decode cX12_goAll 0 = .ok (.iload_n 1, 1) := by decide +kernel
theorem dX12_goAll_1 : decode cX12_goAll 1 = .ok (.invokestatic 345, 3) := by decide +kernel
theorem dX12_goAll_4 : decode cX12_goAll 4 = .ok (.ifCond .eq 15, 3) := by decide +kernel
theorem dX12_goAll_7 : decode cX12_goAll 7 = .ok (.iload_n 3, 1) := by decide +kernel
theorem dX12_goAll_8 : decode cX12_goAll 8 = .ok (.i2l, 1) := by decide +kernel
theorem dX12_goAll_9 : decode cX12_goAll 9 = .ok (.lconst 0, 1) := by decide +kernel
theorem dX12_goAll_10 : decode cX12_goAll 10 = .ok (.ldc2_w 313, 3) := by decide +kernel
theorem dX12_goAll_13 : decode cX12_goAll 13 = .ok (.invokestatic 66, 3) := by decide +kernel
theorem dX12_goAll_16 : decode cX12_goAll 16 = .ok (.ifCond .ne 5, 3) := by decide +kernel
theorem dX12_goAll_19 : decode cX12_goAll 19 = .ok (.iconst (-1), 1) := by decide +kernel
theorem dX12_goAll_20 : decode cX12_goAll 20 = .ok (.ireturn, 1) := by decide +kernel
theorem dX12_goAll_21 : decode cX12_goAll 21 = .ok (.aload_n 0, 1) := by decide +kernel
theorem dX12_goAll_22 : decode cX12_goAll 22 = .ok (.iload_n 1, 1) := by decide +kernel
theorem dX12_goAll_23 : decode cX12_goAll 23 = .ok (.iconst 0, 1) := by decide +kernel
theorem dX12_goAll_24 : decode cX12_goAll 24 = .ok (.invokevirtual 350, 3) := by decide +kernel
theorem dX12_goAll_27 : decode cX12_goAll 27 = .ok (.ifCond .eq 10, 3) := by decide +kernel
theorem dX12_goAll_30 : decode cX12_goAll 30 = .ok (.aload_n 0, 1) := by decide +kernel
theorem dX12_goAll_31 : decode cX12_goAll 31 = .ok (.iload_n 1, 1) := by decide +kernel
theorem dX12_goAll_32 : decode cX12_goAll 32 = .ok (.iconst 0, 1) := by decide +kernel
theorem dX12_goAll_33 : decode cX12_goAll 33 = .ok (.invokevirtual 350, 3) := by decide +kernel
theorem dX12_goAll_36 : decode cX12_goAll 36 = .ok (.ireturn, 1) := by decide +kernel
theorem dX12_goAll_37 : decode cX12_goAll 37 = .ok (.iconst 0, 1) := by decide +kernel
theorem dX12_goAll_38 : decode cX12_goAll 38 = .ok (.istore 4, 2) := by decide +kernel
theorem dX12_goAll_40 : decode cX12_goAll 40 = .ok (.iconst 0, 1) := by decide +kernel
theorem dX12_goAll_41 : decode cX12_goAll 41 = .ok (.istore 5, 2) := by decide +kernel
theorem dX12_goAll_43 : decode cX12_goAll 43 = .ok (.iload 5, 2) := by decide +kernel
theorem dX12_goAll_45 : decode cX12_goAll 45 = .ok (.iload_n 3, 1) := by decide +kernel
theorem dX12_goAll_46 : decode cX12_goAll 46 = .ok (.if_icmp .ge 81, 3) := by decide +kernel
theorem dX12_goAll_49 : decode cX12_goAll 49 = .ok (.iload_n 2, 1) := by decide +kernel
theorem dX12_goAll_50 : decode cX12_goAll 50 = .ok (.i2l, 1) := by decide +kernel
theorem dX12_goAll_51 : decode cX12_goAll 51 = .ok (.iload 5, 2) := by decide +kernel
theorem dX12_goAll_53 : decode cX12_goAll 53 = .ok (.i2l, 1) := by decide +kernel
theorem dX12_goAll_54 : decode cX12_goAll 54 = .ok (.ladd, 1) := by decide +kernel
theorem dX12_goAll_55 : decode cX12_goAll 55 = .ok (.lconst 0, 1) := by decide +kernel
theorem dX12_goAll_56 : decode cX12_goAll 56 = .ok (.aload_n 0, 1) := by decide +kernel
theorem dX12_goAll_57 : decode cX12_goAll 57 = .ok (.getfield 46, 3) := by decide +kernel
theorem dX12_goAll_60 : decode cX12_goAll 60 = .ok (.iload_n 1, 1) := by decide +kernel
theorem dX12_goAll_61 : decode cX12_goAll 61 = .ok (.iaload, 1) := by decide +kernel
theorem dX12_goAll_62 : decode cX12_goAll 62 = .ok (.i2l, 1) := by decide +kernel
theorem dX12_goAll_63 : decode cX12_goAll 63 = .ok (.lconst 1, 1) := by decide +kernel
theorem dX12_goAll_64 : decode cX12_goAll 64 = .ok (.lsub, 1) := by decide +kernel
theorem dX12_goAll_65 : decode cX12_goAll 65 = .ok (.invokestatic 66, 3) := by decide +kernel
theorem dX12_goAll_68 : decode cX12_goAll 68 = .ok (.ifCond .ne 6, 3) := by decide +kernel
theorem dX12_goAll_71 : decode cX12_goAll 71 = .ok (.bipush (-12), 2) := by decide +kernel
theorem dX12_goAll_73 : decode cX12_goAll 73 = .ok (.ireturn, 1) := by decide +kernel
theorem dX12_goAll_74 : decode cX12_goAll 74 = .ok (.aload_n 0, 1) := by decide +kernel
theorem dX12_goAll_75 : decode cX12_goAll 75 = .ok (.getfield 49, 3) := by decide +kernel
theorem dX12_goAll_78 : decode cX12_goAll 78 = .ok (.bipush 40, 2) := by decide +kernel
theorem dX12_goAll_80 : decode cX12_goAll 80 = .ok (.iload_n 1, 1) := by decide +kernel
theorem dX12_goAll_81 : decode cX12_goAll 81 = .ok (.imul, 1) := by decide +kernel
theorem dX12_goAll_82 : decode cX12_goAll 82 = .ok (.iload_n 2, 1) := by decide +kernel
theorem dX12_goAll_83 : decode cX12_goAll 83 = .ok (.iadd, 1) := by decide +kernel
theorem dX12_goAll_84 : decode cX12_goAll 84 = .ok (.iload 5, 2) := by decide +kernel
theorem dX12_goAll_86 : decode cX12_goAll 86 = .ok (.iadd, 1) := by decide +kernel
theorem dX12_goAll_87 : decode cX12_goAll 87 = .ok (.iaload, 1) := by decide +kernel
theorem dX12_goAll_88 : decode cX12_goAll 88 = .ok (.istore 6, 2) := by decide +kernel
theorem dX12_goAll_90 : decode cX12_goAll 90 = .ok (.iload 4, 2) := by decide +kernel
theorem dX12_goAll_92 : decode cX12_goAll 92 = .ok (.aload_n 0, 1) := by decide +kernel
theorem dX12_goAll_93 : decode cX12_goAll 93 = .ok (.iload 6, 2) := by decide +kernel
theorem dX12_goAll_95 : decode cX12_goAll 95 = .ok (.invokevirtual 342, 3) := by decide +kernel
theorem dX12_goAll_98 : decode cX12_goAll 98 = .ok (.ifCond .eq 19, 3) := by decide +kernel
theorem dX12_goAll_101 : decode cX12_goAll 101 = .ok (.aload_n 0, 1) := by decide +kernel
theorem dX12_goAll_102 : decode cX12_goAll 102 = .ok (.invokevirtual 133, 3) := by decide +kernel
theorem dX12_goAll_105 : decode cX12_goAll 105 = .ok (.ifCond .ne 12, 3) := by decide +kernel
theorem dX12_goAll_108 : decode cX12_goAll 108 = .ok (.aload_n 0, 1) := by decide +kernel
theorem dX12_goAll_109 : decode cX12_goAll 109 = .ok (.iload 6, 2) := by decide +kernel
theorem dX12_goAll_111 : decode cX12_goAll 111 = .ok (.invokevirtual 287, 3) := by decide +kernel
theorem dX12_goAll_114 : decode cX12_goAll 114 = .ok (.goto 4, 3) := by decide +kernel
theorem dX12_goAll_117 : decode cX12_goAll 117 = .ok (.iconst 0, 1) := by decide +kernel
theorem dX12_goAll_118 : decode cX12_goAll 118 = .ok (.iadd, 1) := by decide +kernel
theorem dX12_goAll_119 : decode cX12_goAll 119 = .ok (.istore 4, 2) := by decide +kernel
theorem dX12_goAll_121 : decode cX12_goAll 121 = .ok (.iinc 5 1, 3) := by decide +kernel
theorem dX12_goAll_124 : decode cX12_goAll 124 = .ok (.goto (-81), 3) := by decide +kernel
theorem dX12_goAll_127 : decode cX12_goAll 127 = .ok (.iload 4, 2) := by decide +kernel
theorem dX12_goAll_129 : decode cX12_goAll 129 = .ok (.ireturn, 1) := by decide +kernel
theorem dX12_sumBy_0 : decode cX12_sumBy 0 = .ok (.iconst 0, 1) := by decide +kernel
theorem dX12_sumBy_1 : decode cX12_sumBy 1 = .ok (.istore 4, 2) := by decide +kernel
theorem dX12_sumBy_3 : decode cX12_sumBy 3 = .ok (.iconst 0, 1) := by decide +kernel
theorem dX12_sumBy_4 : decode cX12_sumBy 4 = .ok (.istore 5, 2) := by decide +kernel
theorem dX12_sumBy_6 : decode cX12_sumBy 6 = .ok (.iload 5, 2) := by decide +kernel
theorem dX12_sumBy_8 : decode cX12_sumBy 8 = .ok (.iload_n 3, 1) := by decide +kernel
theorem dX12_sumBy_9 : decode cX12_sumBy 9 = .ok (.if_icmp .ge 80, 3) := by decide +kernel
theorem dX12_sumBy_12 : decode cX12_sumBy 12 = .ok (.iload_n 2, 1) := by decide +kernel
theorem dX12_sumBy_13 : decode cX12_sumBy 13 = .ok (.i2l, 1) := by decide +kernel
theorem dX12_sumBy_14 : decode cX12_sumBy 14 = .ok (.iload 5, 2) := by decide +kernel
theorem dX12_sumBy_16 : decode cX12_sumBy 16 = .ok (.i2l, 1) := by decide +kernel
theorem dX12_sumBy_17 : decode cX12_sumBy 17 = .ok (.ladd, 1) := by decide +kernel
theorem dX12_sumBy_18 : decode cX12_sumBy 18 = .ok (.lconst 0, 1) := by decide +kernel
theorem dX12_sumBy_19 : decode cX12_sumBy 19 = .ok (.aload_n 0, 1) := by decide +kernel
theorem dX12_sumBy_20 : decode cX12_sumBy 20 = .ok (.getfield 46, 3) := by decide +kernel
theorem dX12_sumBy_23 : decode cX12_sumBy 23 = .ok (.iload_n 1, 1) := by decide +kernel
theorem dX12_sumBy_24 : decode cX12_sumBy 24 = .ok (.iaload, 1) := by decide +kernel
theorem dX12_sumBy_25 : decode cX12_sumBy 25 = .ok (.i2l, 1) := by decide +kernel
theorem dX12_sumBy_26 : decode cX12_sumBy 26 = .ok (.lconst 1, 1) := by decide +kernel
theorem dX12_sumBy_27 : decode cX12_sumBy 27 = .ok (.lsub, 1) := by decide +kernel
theorem dX12_sumBy_28 : decode cX12_sumBy 28 = .ok (.invokestatic 66, 3) := by decide +kernel
theorem dX12_sumBy_31 : decode cX12_sumBy 31 = .ok (.ifCond .ne 6, 3) := by decide +kernel
theorem dX12_sumBy_34 : decode cX12_sumBy 34 = .ok (.bipush (-12), 2) := by decide +kernel
theorem dX12_sumBy_36 : decode cX12_sumBy 36 = .ok (.ireturn, 1) := by decide +kernel
theorem dX12_sumBy_37 : decode cX12_sumBy 37 = .ok (.aload_n 0, 1) := by decide +kernel
theorem dX12_sumBy_38 : decode cX12_sumBy 38 = .ok (.getfield 49, 3) := by decide +kernel
theorem dX12_sumBy_41 : decode cX12_sumBy 41 = .ok (.bipush 40, 2) := by decide +kernel
theorem dX12_sumBy_43 : decode cX12_sumBy 43 = .ok (.iload_n 1, 1) := by decide +kernel
theorem dX12_sumBy_44 : decode cX12_sumBy 44 = .ok (.imul, 1) := by decide +kernel
theorem dX12_sumBy_45 : decode cX12_sumBy 45 = .ok (.iload_n 2, 1) := by decide +kernel
theorem dX12_sumBy_46 : decode cX12_sumBy 46 = .ok (.iadd, 1) := by decide +kernel
theorem dX12_sumBy_47 : decode cX12_sumBy 47 = .ok (.iload 5, 2) := by decide +kernel
theorem dX12_sumBy_49 : decode cX12_sumBy 49 = .ok (.iadd, 1) := by decide +kernel
theorem dX12_sumBy_50 : decode cX12_sumBy 50 = .ok (.iaload, 1) := by decide +kernel
theorem dX12_sumBy_51 : decode cX12_sumBy 51 = .ok (.istore 6, 2) := by decide +kernel
theorem dX12_sumBy_53 : decode cX12_sumBy 53 = .ok (.aload_n 0, 1) := by decide +kernel
theorem dX12_sumBy_54 : decode cX12_sumBy 54 = .ok (.iload 6, 2) := by decide +kernel
theorem dX12_sumBy_56 : decode cX12_sumBy 56 = .ok (.invokevirtual 342, 3) := by decide +kernel
theorem dX12_sumBy_59 : decode cX12_sumBy 59 = .ok (.ifCond .eq 10, 3) := by decide +kernel
theorem dX12_sumBy_62 : decode cX12_sumBy 62 = .ok (.aload_n 0, 1) := by decide +kernel
theorem dX12_sumBy_63 : decode cX12_sumBy 63 = .ok (.invokevirtual 133, 3) := by decide +kernel
theorem dX12_sumBy_66 : decode cX12_sumBy 66 = .ok (.ifCond .eq 6, 3) := by decide +kernel
theorem dX12_sumBy_69 : decode cX12_sumBy 69 = .ok (.bipush (-4), 2) := by decide +kernel
theorem dX12_sumBy_71 : decode cX12_sumBy 71 = .ok (.ireturn, 1) := by decide +kernel
theorem dX12_sumBy_72 : decode cX12_sumBy 72 = .ok (.iload 4, 2) := by decide +kernel
theorem dX12_sumBy_74 : decode cX12_sumBy 74 = .ok (.aload_n 0, 1) := by decide +kernel
theorem dX12_sumBy_75 : decode cX12_sumBy 75 = .ok (.iload 6, 2) := by decide +kernel
theorem dX12_sumBy_77 : decode cX12_sumBy 77 = .ok (.invokevirtual 287, 3) := by decide +kernel
theorem dX12_sumBy_80 : decode cX12_sumBy 80 = .ok (.iadd, 1) := by decide +kernel
theorem dX12_sumBy_81 : decode cX12_sumBy 81 = .ok (.istore 4, 2) := by decide +kernel
theorem dX12_sumBy_83 : decode cX12_sumBy 83 = .ok (.iinc 5 1, 3) := by decide +kernel
theorem dX12_sumBy_86 : decode cX12_sumBy 86 = .ok (.goto (-80), 3) := by decide +kernel
theorem dX12_sumBy_89 : decode cX12_sumBy 89 = .ok (.iload 4, 2) := by decide +kernel
theorem dX12_sumBy_91 : decode cX12_sumBy 91 = .ok (.ireturn, 1) := by decide +kernel
theorem dX12_wouldBe_0 : decode cX12_wouldBe 0 = .ok (.iload_n 1, 1) := by decide +kernel
theorem dX12_wouldBe_1 : decode cX12_wouldBe 1 = .ok (.invokestatic 345, 3) := by decide +kernel
theorem dX12_wouldBe_4 : decode cX12_wouldBe 4 = .ok (.ifCond .eq 15, 3) := by decide +kernel
theorem dX12_wouldBe_7 : decode cX12_wouldBe 7 = .ok (.iload_n 3, 1) := by decide +kernel
theorem dX12_wouldBe_8 : decode cX12_wouldBe 8 = .ok (.i2l, 1) := by decide +kernel
theorem dX12_wouldBe_9 : decode cX12_wouldBe 9 = .ok (.lconst 0, 1) := by decide +kernel
theorem dX12_wouldBe_10 : decode cX12_wouldBe 10 = .ok (.ldc2_w 313, 3) := by decide +kernel
theorem dX12_wouldBe_13 : decode cX12_wouldBe 13 = .ok (.invokestatic 66, 3) := by decide +kernel
theorem dX12_wouldBe_16 : decode cX12_wouldBe 16 = .ok (.ifCond .ne 5, 3) := by decide +kernel
theorem dX12_wouldBe_19 : decode cX12_wouldBe 19 = .ok (.iconst (-1), 1) := by decide +kernel
theorem dX12_wouldBe_20 : decode cX12_wouldBe 20 = .ok (.ireturn, 1) := by decide +kernel
theorem dX12_wouldBe_21 : decode cX12_wouldBe 21 = .ok (.aload_n 0, 1) := by decide +kernel
theorem dX12_wouldBe_22 : decode cX12_wouldBe 22 = .ok (.iload_n 1, 1) := by decide +kernel
theorem dX12_wouldBe_23 : decode cX12_wouldBe 23 = .ok (.iconst 0, 1) := by decide +kernel
theorem dX12_wouldBe_24 : decode cX12_wouldBe 24 = .ok (.invokevirtual 350, 3) := by decide +kernel
theorem dX12_wouldBe_27 : decode cX12_wouldBe 27 = .ok (.ifCond .eq 10, 3) := by decide +kernel
theorem dX12_wouldBe_30 : decode cX12_wouldBe 30 = .ok (.aload_n 0, 1) := by decide +kernel
theorem dX12_wouldBe_31 : decode cX12_wouldBe 31 = .ok (.iload_n 1, 1) := by decide +kernel
theorem dX12_wouldBe_32 : decode cX12_wouldBe 32 = .ok (.iconst 0, 1) := by decide +kernel
theorem dX12_wouldBe_33 : decode cX12_wouldBe 33 = .ok (.invokevirtual 350, 3) := by decide +kernel
theorem dX12_wouldBe_36 : decode cX12_wouldBe 36 = .ok (.ireturn, 1) := by decide +kernel
theorem dX12_wouldBe_37 : decode cX12_wouldBe 37 = .ok (.aload_n 0, 1) := by decide +kernel
theorem dX12_wouldBe_38 : decode cX12_wouldBe 38 = .ok (.iconst 0, 1) := by decide +kernel
theorem dX12_wouldBe_39 : decode cX12_wouldBe 39 = .ok (.invokevirtual 234, 3) := by decide +kernel
theorem dX12_wouldBe_42 : decode cX12_wouldBe 42 = .ok (.aload_n 0, 1) := by decide +kernel
theorem dX12_wouldBe_43 : decode cX12_wouldBe 43 = .ok (.iload_n 1, 1) := by decide +kernel
theorem dX12_wouldBe_44 : decode cX12_wouldBe 44 = .ok (.iload_n 2, 1) := by decide +kernel
theorem dX12_wouldBe_45 : decode cX12_wouldBe 45 = .ok (.iload_n 3, 1) := by decide +kernel
theorem dX12_wouldBe_46 : decode cX12_wouldBe 46 = .ok (.invokevirtual 353, 3) := by decide +kernel
theorem dX12_wouldBe_49 : decode cX12_wouldBe 49 = .ok (.istore 4, 2) := by decide +kernel
theorem dX12_wouldBe_51 : decode cX12_wouldBe 51 = .ok (.aload_n 0, 1) := by decide +kernel
theorem dX12_wouldBe_52 : decode cX12_wouldBe 52 = .ok (.iconst 0, 1) := by decide +kernel
theorem dX12_wouldBe_53 : decode cX12_wouldBe 53 = .ok (.invokevirtual 237, 3) := by decide +kernel
theorem dX12_wouldBe_56 : decode cX12_wouldBe 56 = .ok (.iload 4, 2) := by decide +kernel
theorem dX12_wouldBe_58 : decode cX12_wouldBe 58 = .ok (.ireturn, 1) := by decide +kernel
theorem dX12_shelf_0 : decode cX12_shelf 0 = .ok (.iload_n 1, 1) := by decide +kernel
theorem dX12_shelf_1 : decode cX12_shelf 1 = .ok (.invokestatic 356, 3) := by decide +kernel
theorem dX12_shelf_4 : decode cX12_shelf 4 = .ok (.ifCond .eq 39, 3) := by decide +kernel
theorem dX12_shelf_7 : decode cX12_shelf 7 = .ok (.iload_n 2, 1) := by decide +kernel
theorem dX12_shelf_8 : decode cX12_shelf 8 = .ok (.i2l, 1) := by decide +kernel
theorem dX12_shelf_9 : decode cX12_shelf 9 = .ok (.lconst 0, 1) := by decide +kernel
theorem dX12_shelf_10 : decode cX12_shelf 10 = .ok (.ldc2_w 88, 3) := by decide +kernel
theorem dX12_shelf_13 : decode cX12_shelf 13 = .ok (.invokestatic 66, 3) := by decide +kernel
theorem dX12_shelf_16 : decode cX12_shelf 16 = .ok (.ifCond .eq 27, 3) := by decide +kernel
theorem dX12_shelf_19 : decode cX12_shelf 19 = .ok (.iload_n 2, 1) := by decide +kernel
theorem dX12_shelf_20 : decode cX12_shelf 20 = .ok (.ifCond .ne 11, 3) := by decide +kernel
theorem dX12_shelf_23 : decode cX12_shelf 23 = .ok (.aload_n 0, 1) := by decide +kernel
theorem dX12_shelf_24 : decode cX12_shelf 24 = .ok (.iload_n 3, 1) := by decide +kernel
theorem dX12_shelf_25 : decode cX12_shelf 25 = .ok (.invokevirtual 110, 3) := by decide +kernel
theorem dX12_shelf_28 : decode cX12_shelf 28 = .ok (.ifCond .eq 15, 3) := by decide +kernel
theorem dX12_shelf_31 : decode cX12_shelf 31 = .ok (.iload_n 2, 1) := by decide +kernel
theorem dX12_shelf_32 : decode cX12_shelf 32 = .ok (.iconst 1, 1) := by decide +kernel
theorem dX12_shelf_33 : decode cX12_shelf 33 = .ok (.if_icmp .ne 12, 3) := by decide +kernel
theorem dX12_shelf_36 : decode cX12_shelf 36 = .ok (.iload_n 3, 1) := by decide +kernel
theorem dX12_shelf_37 : decode cX12_shelf 37 = .ok (.invokestatic 345, 3) := by decide +kernel
theorem dX12_shelf_40 : decode cX12_shelf 40 = .ok (.ifCond .ne 5, 3) := by decide +kernel
theorem dX12_shelf_43 : decode cX12_shelf 43 = .ok (.iconst (-1), 1) := by decide +kernel
theorem dX12_shelf_44 : decode cX12_shelf 44 = .ok (.ireturn, 1) := by decide +kernel
theorem dX12_shelf_45 : decode cX12_shelf 45 = .ok (.iload_n 2, 1) := by decide +kernel
theorem dX12_shelf_46 : decode cX12_shelf 46 = .ok (.iconst 1, 1) := by decide +kernel
theorem dX12_shelf_47 : decode cX12_shelf 47 = .ok (.if_icmp .ne 16, 3) := by decide +kernel
theorem dX12_shelf_50 : decode cX12_shelf 50 = .ok (.aload_n 0, 1) := by decide +kernel
theorem dX12_shelf_51 : decode cX12_shelf 51 = .ok (.getfield 43, 3) := by decide +kernel
theorem dX12_shelf_54 : decode cX12_shelf 54 = .ok (.iload_n 3, 1) := by decide +kernel
theorem dX12_shelf_55 : decode cX12_shelf 55 = .ok (.iaload, 1) := by decide +kernel
theorem dX12_shelf_56 : decode cX12_shelf 56 = .ok (.ifCond .lt 7, 3) := by decide +kernel
theorem dX12_shelf_59 : decode cX12_shelf 59 = .ok (.iconst 1, 1) := by decide +kernel
theorem dX12_shelf_60 : decode cX12_shelf 60 = .ok (.goto 4, 3) := by decide +kernel
theorem dX12_shelf_63 : decode cX12_shelf 63 = .ok (.iconst 0, 1) := by decide +kernel
theorem dX12_shelf_64 : decode cX12_shelf 64 = .ok (.istore 4, 2) := by decide +kernel
theorem dX12_shelf_66 : decode cX12_shelf 66 = .ok (.aload_n 0, 1) := by decide +kernel
theorem dX12_shelf_67 : decode cX12_shelf 67 = .ok (.getfield 52, 3) := by decide +kernel
theorem dX12_shelf_70 : decode cX12_shelf 70 = .ok (.iload_n 1, 1) := by decide +kernel
theorem dX12_shelf_71 : decode cX12_shelf 71 = .ok (.iload_n 2, 1) := by decide +kernel
theorem dX12_shelf_72 : decode cX12_shelf 72 = .ok (.ifCond .ne 7, 3) := by decide +kernel
theorem dX12_shelf_75 : decode cX12_shelf 75 = .ok (.iconst 1, 1) := by decide +kernel
theorem dX12_shelf_76 : decode cX12_shelf 76 = .ok (.goto 13, 3) := by decide +kernel
theorem dX12_shelf_79 : decode cX12_shelf 79 = .ok (.iload 4, 2) := by decide +kernel
theorem dX12_shelf_81 : decode cX12_shelf 81 = .ok (.ifCond .eq 7, 3) := by decide +kernel
theorem dX12_shelf_84 : decode cX12_shelf 84 = .ok (.iconst 2, 1) := by decide +kernel
theorem dX12_shelf_85 : decode cX12_shelf 85 = .ok (.goto 4, 3) := by decide +kernel
theorem dX12_shelf_88 : decode cX12_shelf 88 = .ok (.iconst 0, 1) := by decide +kernel
theorem dX12_shelf_89 : decode cX12_shelf 89 = .ok (.iastore, 1) := by decide +kernel
theorem dX12_shelf_90 : decode cX12_shelf 90 = .ok (.aload_n 0, 1) := by decide +kernel
theorem dX12_shelf_91 : decode cX12_shelf 91 = .ok (.getfield 55, 3) := by decide +kernel
theorem dX12_shelf_94 : decode cX12_shelf 94 = .ok (.iload_n 1, 1) := by decide +kernel
theorem dX12_shelf_95 : decode cX12_shelf 95 = .ok (.iload_n 2, 1) := by decide +kernel
theorem dX12_shelf_96 : decode cX12_shelf 96 = .ok (.ifCond .ne 7, 3) := by decide +kernel
theorem dX12_shelf_99 : decode cX12_shelf 99 = .ok (.iload_n 3, 1) := by decide +kernel
theorem dX12_shelf_100 : decode cX12_shelf 100 = .ok (.goto 18, 3) := by decide +kernel
theorem dX12_shelf_103 : decode cX12_shelf 103 = .ok (.iload 4, 2) := by decide +kernel
theorem dX12_shelf_105 : decode cX12_shelf 105 = .ok (.ifCond .eq 12, 3) := by decide +kernel
theorem dX12_shelf_108 : decode cX12_shelf 108 = .ok (.aload_n 0, 1) := by decide +kernel
theorem dX12_shelf_109 : decode cX12_shelf 109 = .ok (.getfield 43, 3) := by decide +kernel
theorem dX12_shelf_112 : decode cX12_shelf 112 = .ok (.iload_n 3, 1) := by decide +kernel
theorem dX12_shelf_113 : decode cX12_shelf 113 = .ok (.iaload, 1) := by decide +kernel
theorem dX12_shelf_114 : decode cX12_shelf 114 = .ok (.goto 4, 3) := by decide +kernel
theorem dX12_shelf_117 : decode cX12_shelf 117 = .ok (.iconst 0, 1) := by decide +kernel
theorem dX12_shelf_118 : decode cX12_shelf 118 = .ok (.iastore, 1) := by decide +kernel
theorem dX12_shelf_119 : decode cX12_shelf 119 = .ok (.aload_n 0, 1) := by decide +kernel
theorem dX12_shelf_120 : decode cX12_shelf 120 = .ok (.getfield 58, 3) := by decide +kernel
theorem dX12_shelf_123 : decode cX12_shelf 123 = .ok (.iload_n 1, 1) := by decide +kernel
theorem dX12_shelf_124 : decode cX12_shelf 124 = .ok (.iload 4, 2) := by decide +kernel
theorem dX12_shelf_126 : decode cX12_shelf 126 = .ok (.ifCond .eq 12, 3) := by decide +kernel
theorem dX12_shelf_129 : decode cX12_shelf 129 = .ok (.aload_n 0, 1) := by decide +kernel
theorem dX12_shelf_130 : decode cX12_shelf 130 = .ok (.getfield 46, 3) := by decide +kernel
theorem dX12_shelf_133 : decode cX12_shelf 133 = .ok (.iload_n 3, 1) := by decide +kernel
theorem dX12_shelf_134 : decode cX12_shelf 134 = .ok (.iaload, 1) := by decide +kernel
theorem dX12_shelf_135 : decode cX12_shelf 135 = .ok (.goto 4, 3) := by decide +kernel
theorem dX12_shelf_138 : decode cX12_shelf 138 = .ok (.iconst 0, 1) := by decide +kernel
theorem dX12_shelf_139 : decode cX12_shelf 139 = .ok (.iastore, 1) := by decide +kernel
theorem dX12_shelf_140 : decode cX12_shelf 140 = .ok (.iconst 1, 1) := by decide +kernel
theorem dX12_shelf_141 : decode cX12_shelf 141 = .ok (.ireturn, 1) := by decide +kernel
theorem dX12_heldOn_0 : decode cX12_heldOn 0 = .ok (.aload_n 0, 1) := by decide +kernel
theorem dX12_heldOn_1 : decode cX12_heldOn 1 = .ok (.getfield 52, 3) := by decide +kernel
theorem dX12_heldOn_4 : decode cX12_heldOn 4 = .ok (.iload_n 1, 1) := by decide +kernel
theorem dX12_heldOn_5 : decode cX12_heldOn 5 = .ok (.iaload, 1) := by decide +kernel
theorem dX12_heldOn_6 : decode cX12_heldOn 6 = .ok (.iconst 1, 1) := by decide +kernel
theorem dX12_heldOn_7 : decode cX12_heldOn 7 = .ok (.if_icmp .ne 20, 3) := by decide +kernel
theorem dX12_heldOn_10 : decode cX12_heldOn 10 = .ok (.aload_n 0, 1) := by decide +kernel
theorem dX12_heldOn_11 : decode cX12_heldOn 11 = .ok (.aload_n 0, 1) := by decide +kernel
theorem dX12_heldOn_12 : decode cX12_heldOn 12 = .ok (.getfield 55, 3) := by decide +kernel
theorem dX12_heldOn_15 : decode cX12_heldOn 15 = .ok (.iload_n 1, 1) := by decide +kernel
theorem dX12_heldOn_16 : decode cX12_heldOn 16 = .ok (.iaload, 1) := by decide +kernel
theorem dX12_heldOn_17 : decode cX12_heldOn 17 = .ok (.invokevirtual 110, 3) := by decide +kernel
theorem dX12_heldOn_20 : decode cX12_heldOn 20 = .ok (.ifCond .ne 7, 3) := by decide +kernel
theorem dX12_heldOn_23 : decode cX12_heldOn 23 = .ok (.iconst 0, 1) := by decide +kernel
theorem dX12_heldOn_24 : decode cX12_heldOn 24 = .ok (.goto 9, 3) := by decide +kernel
theorem dX12_heldOn_27 : decode cX12_heldOn 27 = .ok (.aload_n 0, 1) := by decide +kernel
theorem dX12_heldOn_28 : decode cX12_heldOn 28 = .ok (.getfield 52, 3) := by decide +kernel
theorem dX12_heldOn_31 : decode cX12_heldOn 31 = .ok (.iload_n 1, 1) := by decide +kernel
theorem dX12_heldOn_32 : decode cX12_heldOn 32 = .ok (.iaload, 1) := by decide +kernel
theorem dX12_heldOn_33 : decode cX12_heldOn 33 = .ok (.ireturn, 1) := by decide +kernel
theorem dX12_taken_0 : decode cX12_taken 0 = .ok (.iload_n 1, 1) := by decide +kernel
theorem dX12_taken_1 : decode cX12_taken 1 = .ok (.invokestatic 356, 3) := by decide +kernel
theorem dX12_taken_4 : decode cX12_taken 4 = .ok (.ifCond .eq 29, 3) := by decide +kernel
theorem dX12_taken_7 : decode cX12_taken 7 = .ok (.iload_n 2, 1) := by decide +kernel
theorem dX12_taken_8 : decode cX12_taken 8 = .ok (.i2l, 1) := by decide +kernel
theorem dX12_taken_9 : decode cX12_taken 9 = .ok (.lconst 0, 1) := by decide +kernel
theorem dX12_taken_10 : decode cX12_taken 10 = .ok (.ldc2_w 359, 3) := by decide +kernel
theorem dX12_taken_13 : decode cX12_taken 13 = .ok (.invokestatic 66, 3) := by decide +kernel
theorem dX12_taken_16 : decode cX12_taken 16 = .ok (.ifCond .eq 17, 3) := by decide +kernel
theorem dX12_taken_19 : decode cX12_taken 19 = .ok (.iload_n 2, 1) := by decide +kernel
theorem dX12_taken_20 : decode cX12_taken 20 = .ok (.i2l, 1) := by decide +kernel
theorem dX12_taken_21 : decode cX12_taken 21 = .ok (.ldc2_w 361, 3) := by decide +kernel
theorem dX12_taken_24 : decode cX12_taken 24 = .ok (.ldc2_w 70, 3) := by decide +kernel
theorem dX12_taken_27 : decode cX12_taken 27 = .ok (.invokestatic 66, 3) := by decide +kernel
theorem dX12_taken_30 : decode cX12_taken 30 = .ok (.ifCond .eq 5, 3) := by decide +kernel
theorem dX12_taken_33 : decode cX12_taken 33 = .ok (.iconst (-1), 1) := by decide +kernel
theorem dX12_taken_34 : decode cX12_taken 34 = .ok (.ireturn, 1) := by decide +kernel
theorem dX12_taken_35 : decode cX12_taken 35 = .ok (.aload_n 0, 1) := by decide +kernel
theorem dX12_taken_36 : decode cX12_taken 36 = .ok (.iload_n 1, 1) := by decide +kernel
theorem dX12_taken_37 : decode cX12_taken 37 = .ok (.invokevirtual 363, 3) := by decide +kernel
theorem dX12_taken_40 : decode cX12_taken 40 = .ok (.istore_n 3, 1) := by decide +kernel
theorem dX12_taken_41 : decode cX12_taken 41 = .ok (.iload_n 3, 1) := by decide +kernel
theorem dX12_taken_42 : decode cX12_taken 42 = .ok (.ifCond .ne 6, 3) := by decide +kernel
theorem dX12_taken_45 : decode cX12_taken 45 = .ok (.bipush (-11), 2) := by decide +kernel
theorem dX12_taken_47 : decode cX12_taken 47 = .ok (.ireturn, 1) := by decide +kernel
theorem dX12_taken_48 : decode cX12_taken 48 = .ok (.iload_n 2, 1) := by decide +kernel
theorem dX12_taken_49 : decode cX12_taken 49 = .ok (.bipush 10, 2) := by decide +kernel
theorem dX12_taken_51 : decode cX12_taken 51 = .ok (.if_icmp .ge 38, 3) := by decide +kernel
theorem dX12_taken_54 : decode cX12_taken 54 = .ok (.iload_n 3, 1) := by decide +kernel
theorem dX12_taken_55 : decode cX12_taken 55 = .ok (.iconst 1, 1) := by decide +kernel
theorem dX12_taken_56 : decode cX12_taken 56 = .ok (.if_icmp .ne 30, 3) := by decide +kernel
theorem dX12_taken_59 : decode cX12_taken 59 = .ok (.aload_n 0, 1) := by decide +kernel
theorem dX12_taken_60 : decode cX12_taken 60 = .ok (.aload_n 0, 1) := by decide +kernel
theorem dX12_taken_61 : decode cX12_taken 61 = .ok (.getfield 55, 3) := by decide +kernel
theorem dX12_taken_64 : decode cX12_taken 64 = .ok (.iload_n 1, 1) := by decide +kernel
theorem dX12_taken_65 : decode cX12_taken 65 = .ok (.iaload, 1) := by decide +kernel
theorem dX12_taken_66 : decode cX12_taken 66 = .ok (.iconst 0, 1) := by decide +kernel
theorem dX12_taken_67 : decode cX12_taken 67 = .ok (.invokevirtual 78, 3) := by decide +kernel
theorem dX12_taken_70 : decode cX12_taken 70 = .ok (.iload_n 2, 1) := by decide +kernel
theorem dX12_taken_71 : decode cX12_taken 71 = .ok (.invokestatic 92, 3) := by decide +kernel
theorem dX12_taken_74 : decode cX12_taken 74 = .ok (.ifCond .eq 12, 3) := by decide +kernel
theorem dX12_taken_77 : decode cX12_taken 77 = .ok (.aload_n 0, 1) := by decide +kernel
theorem dX12_taken_78 : decode cX12_taken 78 = .ok (.getfield 55, 3) := by decide +kernel
theorem dX12_taken_81 : decode cX12_taken 81 = .ok (.iload_n 1, 1) := by decide +kernel
theorem dX12_taken_82 : decode cX12_taken 82 = .ok (.iaload, 1) := by decide +kernel
theorem dX12_taken_83 : decode cX12_taken 83 = .ok (.goto 5, 3) := by decide +kernel
theorem dX12_taken_86 : decode cX12_taken 86 = .ok (.bipush (-13), 2) := by decide +kernel
theorem dX12_taken_88 : decode cX12_taken 88 = .ok (.ireturn, 1) := by decide +kernel
theorem dX12_taken_89 : decode cX12_taken 89 = .ok (.iload_n 3, 1) := by decide +kernel
theorem dX12_taken_90 : decode cX12_taken 90 = .ok (.iconst 2, 1) := by decide +kernel
theorem dX12_taken_91 : decode cX12_taken 91 = .ok (.if_icmp .ne 25, 3) := by decide +kernel
theorem dX12_taken_94 : decode cX12_taken 94 = .ok (.aload_n 0, 1) := by decide +kernel
theorem dX12_taken_95 : decode cX12_taken 95 = .ok (.getfield 55, 3) := by decide +kernel
theorem dX12_taken_98 : decode cX12_taken 98 = .ok (.iload_n 1, 1) := by decide +kernel
theorem dX12_taken_99 : decode cX12_taken 99 = .ok (.iaload, 1) := by decide +kernel
theorem dX12_taken_100 : decode cX12_taken 100 = .ok (.iload_n 2, 1) := by decide +kernel
theorem dX12_taken_101 : decode cX12_taken 101 = .ok (.bipush 10, 2) := by decide +kernel
theorem dX12_taken_103 : decode cX12_taken 103 = .ok (.isub, 1) := by decide +kernel
theorem dX12_taken_104 : decode cX12_taken 104 = .ok (.if_icmp .ne 12, 3) := by decide +kernel
theorem dX12_taken_107 : decode cX12_taken 107 = .ok (.aload_n 0, 1) := by decide +kernel
theorem dX12_taken_108 : decode cX12_taken 108 = .ok (.getfield 58, 3) := by decide +kernel
theorem dX12_taken_111 : decode cX12_taken 111 = .ok (.iload_n 1, 1) := by decide +kernel
theorem dX12_taken_112 : decode cX12_taken 112 = .ok (.iaload, 1) := by decide +kernel
theorem dX12_taken_113 : decode cX12_taken 113 = .ok (.goto 5, 3) := by decide +kernel
theorem dX12_taken_116 : decode cX12_taken 116 = .ok (.bipush (-13), 2) := by decide +kernel
theorem dX12_taken_118 : decode cX12_taken 118 = .ok (.ireturn, 1) := by decide +kernel
theorem dX12_runs_0 : decode cX12_runs 0 = .ok (.aload_n 0, 1) := by decide +kernel
theorem dX12_runs_1 : decode cX12_runs 1 = .ok (.getfield 366, 3) := by decide +kernel
theorem dX12_runs_4 : decode cX12_runs 4 = .ok (.bipush 30, 2) := by decide +kernel
theorem dX12_runs_6 : decode cX12_runs 6 = .ok (.if_icmp .ge 23, 3) := by decide +kernel
theorem dX12_runs_9 : decode cX12_runs 9 = .ok (.aload_n 0, 1) := by decide +kernel
theorem dX12_runs_10 : decode cX12_runs 10 = .ok (.getfield 61, 3) := by decide +kernel
theorem dX12_runs_13 : decode cX12_runs 13 = .ok (.aload_n 0, 1) := by decide +kernel
theorem dX12_runs_14 : decode cX12_runs 14 = .ok (.getfield 366, 3) := by decide +kernel
theorem dX12_runs_17 : decode cX12_runs 17 = .ok (.iload_n 1, 1) := by decide +kernel
theorem dX12_runs_18 : decode cX12_runs 18 = .ok (.iastore, 1) := by decide +kernel
theorem dX12_runs_19 : decode cX12_runs 19 = .ok (.aload_n 0, 1) := by decide +kernel
theorem dX12_runs_20 : decode cX12_runs 20 = .ok (.dup, 1) := by decide +kernel
theorem dX12_runs_21 : decode cX12_runs 21 = .ok (.getfield 366, 3) := by decide +kernel
theorem dX12_runs_24 : decode cX12_runs 24 = .ok (.iconst 1, 1) := by decide +kernel
theorem dX12_runs_25 : decode cX12_runs 25 = .ok (.iadd, 1) := by decide +kernel
theorem dX12_runs_26 : decode cX12_runs 26 = .ok (.putfield 366, 3) := by decide +kernel
theorem dX12_runs_29 : decode cX12_runs 29 = .ok (.return_, 1) := by decide +kernel
theorem dX12_glowsPlain_0 : decode cX12_glowsPlain 0 = .ok (.aload_n 0, 1) := by decide +kernel
theorem dX12_glowsPlain_1 : decode cX12_glowsPlain 1 = .ok (.bipush 10, 2) := by decide +kernel
theorem dX12_glowsPlain_3 : decode cX12_glowsPlain 3 = .ok (.invokevirtual 369, 3) := by decide +kernel
theorem dX12_glowsPlain_6 : decode cX12_glowsPlain 6 = .ok (.iload_n 1, 1) := by decide +kernel
theorem dX12_glowsPlain_7 : decode cX12_glowsPlain 7 = .ok (.aload_n 0, 1) := by decide +kernel
theorem dX12_glowsPlain_8 : decode cX12_glowsPlain 8 = .ok (.getfield 372, 3) := by decide +kernel
theorem dX12_glowsPlain_11 : decode cX12_glowsPlain 11 = .ok (.iconst 3, 1) := by decide +kernel
theorem dX12_glowsPlain_12 : decode cX12_glowsPlain 12 = .ok (.imul, 1) := by decide +kernel
theorem dX12_glowsPlain_13 : decode cX12_glowsPlain 13 = .ok (.isub, 1) := by decide +kernel
theorem dX12_glowsPlain_14 : decode cX12_glowsPlain 14 = .ok (.ireturn, 1) := by decide +kernel
theorem dX12_glows_0 : decode cX12_glows 0 = .ok (.aload_n 0, 1) := by decide +kernel
theorem dX12_glows_1 : decode cX12_glows 1 = .ok (.getfield 375, 3) := by decide +kernel
theorem dX12_glows_4 : decode cX12_glows 4 = .ok (.iconst 1, 1) := by decide +kernel
theorem dX12_glows_5 : decode cX12_glows 5 = .ok (.if_icmp .ne 17, 3) := by decide +kernel
theorem dX12_glows_8 : decode cX12_glows 8 = .ok (.aload_n 0, 1) := by decide +kernel
theorem dX12_glows_9 : decode cX12_glows 9 = .ok (.bipush 20, 2) := by decide +kernel
theorem dX12_glows_11 : decode cX12_glows 11 = .ok (.invokevirtual 369, 3) := by decide +kernel
theorem dX12_glows_14 : decode cX12_glows 14 = .ok (.aload_n 0, 1) := by decide +kernel
theorem dX12_glows_15 : decode cX12_glows 15 = .ok (.iload_n 1, 1) := by decide +kernel
theorem dX12_glows_16 : decode cX12_glows 16 = .ok (.invokevirtual 378, 3) := by decide +kernel
theorem dX12_glows_19 : decode cX12_glows 19 = .ok (.iconst 2, 1) := by decide +kernel
theorem dX12_glows_20 : decode cX12_glows 20 = .ok (.imul, 1) := by decide +kernel
theorem dX12_glows_21 : decode cX12_glows 21 = .ok (.ireturn, 1) := by decide +kernel
theorem dX12_glows_22 : decode cX12_glows 22 = .ok (.aload_n 0, 1) := by decide +kernel
theorem dX12_glows_23 : decode cX12_glows 23 = .ok (.getfield 375, 3) := by decide +kernel
theorem dX12_glows_26 : decode cX12_glows 26 = .ok (.iconst 3, 1) := by decide +kernel
theorem dX12_glows_27 : decode cX12_glows 27 = .ok (.if_icmp .ne 17, 3) := by decide +kernel
theorem dX12_glows_30 : decode cX12_glows 30 = .ok (.aload_n 0, 1) := by decide +kernel
theorem dX12_glows_31 : decode cX12_glows 31 = .ok (.bipush 50, 2) := by decide +kernel
theorem dX12_glows_33 : decode cX12_glows 33 = .ok (.invokevirtual 369, 3) := by decide +kernel
theorem dX12_glows_36 : decode cX12_glows 36 = .ok (.aload_n 0, 1) := by decide +kernel
theorem dX12_glows_37 : decode cX12_glows 37 = .ok (.iload_n 1, 1) := by decide +kernel
theorem dX12_glows_38 : decode cX12_glows 38 = .ok (.invokevirtual 378, 3) := by decide +kernel
theorem dX12_glows_41 : decode cX12_glows 41 = .ok (.iconst 3, 1) := by decide +kernel
theorem dX12_glows_42 : decode cX12_glows 42 = .ok (.ixor, 1) := by decide +kernel
theorem dX12_glows_43 : decode cX12_glows 43 = .ok (.ireturn, 1) := by decide +kernel
theorem dX12_glows_44 : decode cX12_glows 44 = .ok (.aload_n 0, 1) := by decide +kernel
theorem dX12_glows_45 : decode cX12_glows 45 = .ok (.iload_n 1, 1) := by decide +kernel
theorem dX12_glows_46 : decode cX12_glows 46 = .ok (.invokevirtual 378, 3) := by decide +kernel
theorem dX12_glows_49 : decode cX12_glows 49 = .ok (.ireturn, 1) := by decide +kernel
theorem dX12_longsPlain_0 : decode cX12_longsPlain 0 = .ok (.aload_n 0, 1) := by decide +kernel
theorem dX12_longsPlain_1 : decode cX12_longsPlain 1 = .ok (.bipush 11, 2) := by decide +kernel
theorem dX12_longsPlain_3 : decode cX12_longsPlain 3 = .ok (.invokevirtual 369, 3) := by decide +kernel
theorem dX12_longsPlain_6 : decode cX12_longsPlain 6 = .ok (.aload_n 0, 1) := by decide +kernel
theorem dX12_longsPlain_7 : decode cX12_longsPlain 7 = .ok (.iload_n 1, 1) := by decide +kernel
theorem dX12_longsPlain_8 : decode cX12_longsPlain 8 = .ok (.invokevirtual 381, 3) := by decide +kernel
theorem dX12_longsPlain_11 : decode cX12_longsPlain 11 = .ok (.aload_n 0, 1) := by decide +kernel
theorem dX12_longsPlain_12 : decode cX12_longsPlain 12 = .ok (.getfield 384, 3) := by decide +kernel
theorem dX12_longsPlain_15 : decode cX12_longsPlain 15 = .ok (.ixor, 1) := by decide +kernel
theorem dX12_longsPlain_16 : decode cX12_longsPlain 16 = .ok (.ireturn, 1) := by decide +kernel
theorem dX12_longsActs_0 : decode cX12_longsActs 0 = .ok (.aload_n 0, 1) := by decide +kernel
theorem dX12_longsActs_1 : decode cX12_longsActs 1 = .ok (.getfield 375, 3) := by decide +kernel
theorem dX12_longsActs_4 : decode cX12_longsActs 4 = .ok (.iconst 2, 1) := by decide +kernel
theorem dX12_longsActs_5 : decode cX12_longsActs 5 = .ok (.if_icmp .eq 11, 3) := by decide +kernel
theorem dX12_longsActs_8 : decode cX12_longsActs 8 = .ok (.aload_n 0, 1) := by decide +kernel
theorem dX12_longsActs_9 : decode cX12_longsActs 9 = .ok (.getfield 375, 3) := by decide +kernel
theorem dX12_longsActs_12 : decode cX12_longsActs 12 = .ok (.iconst 3, 1) := by decide +kernel
theorem dX12_longsActs_13 : decode cX12_longsActs 13 = .ok (.if_icmp .ne 20, 3) := by decide +kernel
theorem dX12_longsActs_16 : decode cX12_longsActs 16 = .ok (.aload_n 0, 1) := by decide +kernel
theorem dX12_longsActs_17 : decode cX12_longsActs 17 = .ok (.bipush 30, 2) := by decide +kernel
theorem dX12_longsActs_19 : decode cX12_longsActs 19 = .ok (.invokevirtual 369, 3) := by decide +kernel
theorem dX12_longsActs_22 : decode cX12_longsActs 22 = .ok (.aload_n 0, 1) := by decide +kernel
theorem dX12_longsActs_23 : decode cX12_longsActs 23 = .ok (.iload_n 1, 1) := by decide +kernel
theorem dX12_longsActs_24 : decode cX12_longsActs 24 = .ok (.invokevirtual 387, 3) := by decide +kernel
theorem dX12_longsActs_27 : decode cX12_longsActs 27 = .ok (.aload_n 0, 1) := by decide +kernel
theorem dX12_longsActs_28 : decode cX12_longsActs 28 = .ok (.getfield 372, 3) := by decide +kernel
theorem dX12_longsActs_31 : decode cX12_longsActs 31 = .ok (.isub, 1) := by decide +kernel
theorem dX12_longsActs_32 : decode cX12_longsActs 32 = .ok (.ireturn, 1) := by decide +kernel
theorem dX12_longsActs_33 : decode cX12_longsActs 33 = .ok (.aload_n 0, 1) := by decide +kernel
theorem dX12_longsActs_34 : decode cX12_longsActs 34 = .ok (.getfield 375, 3) := by decide +kernel
theorem dX12_longsActs_37 : decode cX12_longsActs 37 = .ok (.iconst 5, 1) := by decide +kernel
theorem dX12_longsActs_38 : decode cX12_longsActs 38 = .ok (.if_icmp .ne 17, 3) := by decide +kernel
theorem dX12_longsActs_41 : decode cX12_longsActs 41 = .ok (.aload_n 0, 1) := by decide +kernel
theorem dX12_longsActs_42 : decode cX12_longsActs 42 = .ok (.bipush 60, 2) := by decide +kernel
theorem dX12_longsActs_44 : decode cX12_longsActs 44 = .ok (.invokevirtual 369, 3) := by decide +kernel
theorem dX12_longsActs_47 : decode cX12_longsActs 47 = .ok (.iconst 0, 1) := by decide +kernel
theorem dX12_longsActs_48 : decode cX12_longsActs 48 = .ok (.aload_n 0, 1) := by decide +kernel
theorem dX12_longsActs_49 : decode cX12_longsActs 49 = .ok (.iload_n 1, 1) := by decide +kernel
theorem dX12_longsActs_50 : decode cX12_longsActs 50 = .ok (.invokevirtual 387, 3) := by decide +kernel
theorem dX12_longsActs_53 : decode cX12_longsActs 53 = .ok (.isub, 1) := by decide +kernel
theorem dX12_longsActs_54 : decode cX12_longsActs 54 = .ok (.ireturn, 1) := by decide +kernel
theorem dX12_longsActs_55 : decode cX12_longsActs 55 = .ok (.aload_n 0, 1) := by decide +kernel
theorem dX12_longsActs_56 : decode cX12_longsActs 56 = .ok (.iload_n 1, 1) := by decide +kernel
theorem dX12_longsActs_57 : decode cX12_longsActs 57 = .ok (.invokevirtual 387, 3) := by decide +kernel
theorem dX12_longsActs_60 : decode cX12_longsActs 60 = .ok (.ireturn, 1) := by decide +kernel
theorem dX12_partsPlain_0 : decode cX12_partsPlain 0 = .ok (.aload_n 0, 1) := by decide +kernel
theorem dX12_partsPlain_1 : decode cX12_partsPlain 1 = .ok (.bipush 12, 2) := by decide +kernel
theorem dX12_partsPlain_3 : decode cX12_partsPlain 3 = .ok (.invokevirtual 369, 3) := by decide +kernel
theorem dX12_partsPlain_6 : decode cX12_partsPlain 6 = .ok (.aload_n 0, 1) := by decide +kernel
theorem dX12_partsPlain_7 : decode cX12_partsPlain 7 = .ok (.aload_n 0, 1) := by decide +kernel
theorem dX12_partsPlain_8 : decode cX12_partsPlain 8 = .ok (.getfield 390, 3) := by decide +kernel
theorem dX12_partsPlain_11 : decode cX12_partsPlain 11 = .ok (.ifCond .ne 14, 3) := by decide +kernel
theorem dX12_partsPlain_14 : decode cX12_partsPlain 14 = .ok (.aload_n 0, 1) := by decide +kernel
theorem dX12_partsPlain_15 : decode cX12_partsPlain 15 = .ok (.getfield 372, 3) := by decide +kernel
theorem dX12_partsPlain_18 : decode cX12_partsPlain 18 = .ok (.aload_n 0, 1) := by decide +kernel
theorem dX12_partsPlain_19 : decode cX12_partsPlain 19 = .ok (.getfield 384, 3) := by decide +kernel
theorem dX12_partsPlain_22 : decode cX12_partsPlain 22 = .ok (.if_icmp .ne 7, 3) := by decide +kernel
theorem dX12_partsPlain_25 : decode cX12_partsPlain 25 = .ok (.iconst 1, 1) := by decide +kernel
theorem dX12_partsPlain_26 : decode cX12_partsPlain 26 = .ok (.goto 4, 3) := by decide +kernel
theorem dX12_partsPlain_29 : decode cX12_partsPlain 29 = .ok (.iconst 0, 1) := by decide +kernel
theorem dX12_partsPlain_30 : decode cX12_partsPlain 30 = .ok (.putfield 390, 3) := by decide +kernel
theorem dX12_partsPlain_33 : decode cX12_partsPlain 33 = .ok (.aload_n 0, 1) := by decide +kernel
theorem dX12_partsPlain_34 : decode cX12_partsPlain 34 = .ok (.getfield 390, 3) := by decide +kernel
theorem dX12_partsPlain_37 : decode cX12_partsPlain 37 = .ok (.ifCond .eq 7, 3) := by decide +kernel
theorem dX12_partsPlain_40 : decode cX12_partsPlain 40 = .ok (.iconst 0, 1) := by decide +kernel
theorem dX12_partsPlain_41 : decode cX12_partsPlain 41 = .ok (.goto 14, 3) := by decide +kernel
theorem dX12_partsPlain_44 : decode cX12_partsPlain 44 = .ok (.iload_n 1, 1) := by decide +kernel
theorem dX12_partsPlain_45 : decode cX12_partsPlain 45 = .ok (.aload_n 0, 1) := by decide +kernel
theorem dX12_partsPlain_46 : decode cX12_partsPlain 46 = .ok (.getfield 372, 3) := by decide +kernel
theorem dX12_partsPlain_49 : decode cX12_partsPlain 49 = .ok (.aload_n 0, 1) := by decide +kernel
theorem dX12_partsPlain_50 : decode cX12_partsPlain 50 = .ok (.getfield 384, 3) := by decide +kernel
theorem dX12_partsPlain_53 : decode cX12_partsPlain 53 = .ok (.isub, 1) := by decide +kernel
theorem dX12_partsPlain_54 : decode cX12_partsPlain 54 = .ok (.irem, 1) := by decide +kernel
theorem dX12_partsPlain_55 : decode cX12_partsPlain 55 = .ok (.ireturn, 1) := by decide +kernel
theorem dX12_partsPortable_0 : decode cX12_partsPortable 0 = .ok (.aload_n 0, 1) := by decide +kernel
theorem dX12_partsPortable_1 : decode cX12_partsPortable 1 = .ok (.bipush 40, 2) := by decide +kernel
theorem dX12_partsPortable_3 : decode cX12_partsPortable 3 = .ok (.invokevirtual 369, 3) := by decide +kernel
theorem dX12_partsPortable_6 : decode cX12_partsPortable 6 = .ok (.aload_n 0, 1) := by decide +kernel
theorem dX12_partsPortable_7 : decode cX12_partsPortable 7 = .ok (.iload_n 1, 1) := by decide +kernel
theorem dX12_partsPortable_8 : decode cX12_partsPortable 8 = .ok (.invokevirtual 393, 3) := by decide +kernel
theorem dX12_partsPortable_11 : decode cX12_partsPortable 11 = .ok (.aload_n 0, 1) := by decide +kernel
theorem dX12_partsPortable_12 : decode cX12_partsPortable 12 = .ok (.getfield 384, 3) := by decide +kernel
theorem dX12_partsPortable_15 : decode cX12_partsPortable 15 = .ok (.iadd, 1) := by decide +kernel
theorem dX12_partsPortable_16 : decode cX12_partsPortable 16 = .ok (.ireturn, 1) := by decide +kernel
theorem dX12_parts_0 : decode cX12_parts 0 = .ok (.aload_n 0, 1) := by decide +kernel
theorem dX12_parts_1 : decode cX12_parts 1 = .ok (.getfield 375, 3) := by decide +kernel
theorem dX12_parts_4 : decode cX12_parts 4 = .ok (.iconst 4, 1) := by decide +kernel
theorem dX12_parts_5 : decode cX12_parts 5 = .ok (.if_icmp .ne 9, 3) := by decide +kernel
theorem dX12_parts_8 : decode cX12_parts 8 = .ok (.aload_n 0, 1) := by decide +kernel
theorem dX12_parts_9 : decode cX12_parts 9 = .ok (.iload_n 1, 1) := by decide +kernel
theorem dX12_parts_10 : decode cX12_parts 10 = .ok (.invokevirtual 396, 3) := by decide +kernel
theorem dX12_parts_13 : decode cX12_parts 13 = .ok (.ireturn, 1) := by decide +kernel
theorem dX12_parts_14 : decode cX12_parts 14 = .ok (.aload_n 0, 1) := by decide +kernel
theorem dX12_parts_15 : decode cX12_parts 15 = .ok (.getfield 375, 3) := by decide +kernel
theorem dX12_parts_18 : decode cX12_parts 18 = .ok (.iconst 5, 1) := by decide +kernel
theorem dX12_parts_19 : decode cX12_parts 19 = .ok (.if_icmp .eq 9, 3) := by decide +kernel
theorem dX12_parts_22 : decode cX12_parts 22 = .ok (.aload_n 0, 1) := by decide +kernel
theorem dX12_parts_23 : decode cX12_parts 23 = .ok (.iload_n 1, 1) := by decide +kernel
theorem dX12_parts_24 : decode cX12_parts 24 = .ok (.invokevirtual 393, 3) := by decide +kernel
theorem dX12_parts_27 : decode cX12_parts 27 = .ok (.ireturn, 1) := by decide +kernel
theorem dX12_parts_28 : decode cX12_parts 28 = .ok (.aload_n 0, 1) := by decide +kernel
theorem dX12_parts_29 : decode cX12_parts 29 = .ok (.bipush 61, 2) := by decide +kernel
theorem dX12_parts_31 : decode cX12_parts 31 = .ok (.invokevirtual 369, 3) := by decide +kernel
theorem dX12_parts_34 : decode cX12_parts 34 = .ok (.aload_n 0, 1) := by decide +kernel
theorem dX12_parts_35 : decode cX12_parts 35 = .ok (.iload_n 1, 1) := by decide +kernel
theorem dX12_parts_36 : decode cX12_parts 36 = .ok (.invokevirtual 396, 3) := by decide +kernel
theorem dX12_parts_39 : decode cX12_parts 39 = .ok (.istore_n 2, 1) := by decide +kernel
theorem dX12_parts_40 : decode cX12_parts 40 = .ok (.aload_n 0, 1) := by decide +kernel
theorem dX12_parts_41 : decode cX12_parts 41 = .ok (.getfield 390, 3) := by decide +kernel
theorem dX12_parts_44 : decode cX12_parts 44 = .ok (.ifCond .eq 7, 3) := by decide +kernel
theorem dX12_parts_47 : decode cX12_parts 47 = .ok (.iconst 0, 1) := by decide +kernel
theorem dX12_parts_48 : decode cX12_parts 48 = .ok (.goto 13, 3) := by decide +kernel
theorem dX12_parts_51 : decode cX12_parts 51 = .ok (.iload_n 2, 1) := by decide +kernel
theorem dX12_parts_52 : decode cX12_parts 52 = .ok (.aload_n 0, 1) := by decide +kernel
theorem dX12_parts_53 : decode cX12_parts 53 = .ok (.aload_n 0, 1) := by decide +kernel
theorem dX12_parts_54 : decode cX12_parts 54 = .ok (.getfield 372, 3) := by decide +kernel
theorem dX12_parts_57 : decode cX12_parts 57 = .ok (.invokevirtual 381, 3) := by decide +kernel
theorem dX12_parts_60 : decode cX12_parts 60 = .ok (.isub, 1) := by decide +kernel
theorem dX12_parts_61 : decode cX12_parts 61 = .ok (.ireturn, 1) := by decide +kernel
theorem dX12_wedsPlain_0 : decode cX12_wedsPlain 0 = .ok (.aload_n 0, 1) := by decide +kernel
theorem dX12_wedsPlain_1 : decode cX12_wedsPlain 1 = .ok (.bipush 13, 2) := by decide +kernel
theorem dX12_wedsPlain_3 : decode cX12_wedsPlain 3 = .ok (.invokevirtual 369, 3) := by decide +kernel
theorem dX12_wedsPlain_6 : decode cX12_wedsPlain 6 = .ok (.aload_n 0, 1) := by decide +kernel
theorem dX12_wedsPlain_7 : decode cX12_wedsPlain 7 = .ok (.iload_n 1, 1) := by decide +kernel
theorem dX12_wedsPlain_8 : decode cX12_wedsPlain 8 = .ok (.invokevirtual 399, 3) := by decide +kernel
theorem dX12_wedsPlain_11 : decode cX12_wedsPlain 11 = .ok (.iconst 1, 1) := by decide +kernel
theorem dX12_wedsPlain_12 : decode cX12_wedsPlain 12 = .ok (.iadd, 1) := by decide +kernel
theorem dX12_wedsPlain_13 : decode cX12_wedsPlain 13 = .ok (.ireturn, 1) := by decide +kernel
theorem dX12_wedsActs_0 : decode cX12_wedsActs 0 = .ok (.aload_n 0, 1) := by decide +kernel
theorem dX12_wedsActs_1 : decode cX12_wedsActs 1 = .ok (.getfield 375, 3) := by decide +kernel
theorem dX12_wedsActs_4 : decode cX12_wedsActs 4 = .ok (.iconst 3, 1) := by decide +kernel
theorem dX12_wedsActs_5 : decode cX12_wedsActs 5 = .ok (.if_icmp .eq 9, 3) := by decide +kernel
theorem dX12_wedsActs_8 : decode cX12_wedsActs 8 = .ok (.aload_n 0, 1) := by decide +kernel
theorem dX12_wedsActs_9 : decode cX12_wedsActs 9 = .ok (.iload_n 1, 1) := by decide +kernel
theorem dX12_wedsActs_10 : decode cX12_wedsActs 10 = .ok (.invokevirtual 402, 3) := by decide +kernel
theorem dX12_wedsActs_13 : decode cX12_wedsActs 13 = .ok (.ireturn, 1) := by decide +kernel
theorem dX12_wedsActs_14 : decode cX12_wedsActs 14 = .ok (.aload_n 0, 1) := by decide +kernel
theorem dX12_wedsActs_15 : decode cX12_wedsActs 15 = .ok (.bipush 51, 2) := by decide +kernel
theorem dX12_wedsActs_17 : decode cX12_wedsActs 17 = .ok (.invokevirtual 369, 3) := by decide +kernel
theorem dX12_wedsActs_20 : decode cX12_wedsActs 20 = .ok (.aload_n 0, 1) := by decide +kernel
theorem dX12_wedsActs_21 : decode cX12_wedsActs 21 = .ok (.iload_n 1, 1) := by decide +kernel
theorem dX12_wedsActs_22 : decode cX12_wedsActs 22 = .ok (.invokevirtual 402, 3) := by decide +kernel
theorem dX12_wedsActs_25 : decode cX12_wedsActs 25 = .ok (.istore_n 2, 1) := by decide +kernel
theorem dX12_wedsActs_26 : decode cX12_wedsActs 26 = .ok (.iload_n 2, 1) := by decide +kernel
theorem dX12_wedsActs_27 : decode cX12_wedsActs 27 = .ok (.aload_n 0, 1) := by decide +kernel
theorem dX12_wedsActs_28 : decode cX12_wedsActs 28 = .ok (.iload_n 1, 1) := by decide +kernel
theorem dX12_wedsActs_29 : decode cX12_wedsActs 29 = .ok (.invokevirtual 405, 3) := by decide +kernel
theorem dX12_wedsActs_32 : decode cX12_wedsActs 32 = .ok (.imul, 1) := by decide +kernel
theorem dX12_wedsActs_33 : decode cX12_wedsActs 33 = .ok (.ireturn, 1) := by decide +kernel
theorem dX12_act_0 : decode cX12_act 0 = .ok (.aload_n 0, 1) := by decide +kernel
theorem dX12_act_1 : decode cX12_act 1 = .ok (.iconst 0, 1) := by decide +kernel
theorem dX12_act_2 : decode cX12_act 2 = .ok (.putfield 366, 3) := by decide +kernel
theorem dX12_act_5 : decode cX12_act 5 = .ok (.iload_n 1, 1) := by decide +kernel
theorem dX12_act_6 : decode cX12_act 6 = .ok (.invokestatic 356, 3) := by decide +kernel
theorem dX12_act_9 : decode cX12_act 9 = .ok (.ifCond .eq 24, 3) := by decide +kernel
theorem dX12_act_12 : decode cX12_act 12 = .ok (.iload_n 2, 1) := by decide +kernel
theorem dX12_act_13 : decode cX12_act 13 = .ok (.i2l, 1) := by decide +kernel
theorem dX12_act_14 : decode cX12_act 14 = .ok (.lconst 0, 1) := by decide +kernel
theorem dX12_act_15 : decode cX12_act 15 = .ok (.ldc2_w 300, 3) := by decide +kernel
theorem dX12_act_18 : decode cX12_act 18 = .ok (.invokestatic 66, 3) := by decide +kernel
theorem dX12_act_21 : decode cX12_act 21 = .ok (.ifCond .eq 12, 3) := by decide +kernel
theorem dX12_act_24 : decode cX12_act 24 = .ok (.aload_n 0, 1) := by decide +kernel
theorem dX12_act_25 : decode cX12_act 25 = .ok (.iload_n 1, 1) := by decide +kernel
theorem dX12_act_26 : decode cX12_act 26 = .ok (.invokevirtual 363, 3) := by decide +kernel
theorem dX12_act_29 : decode cX12_act 29 = .ok (.iconst 1, 1) := by decide +kernel
theorem dX12_act_30 : decode cX12_act 30 = .ok (.if_icmp .eq 5, 3) := by decide +kernel
theorem dX12_act_33 : decode cX12_act 33 = .ok (.iconst 0, 1) := by decide +kernel
theorem dX12_act_34 : decode cX12_act 34 = .ok (.ireturn, 1) := by decide +kernel
theorem dX12_act_35 : decode cX12_act 35 = .ok (.aload_n 0, 1) := by decide +kernel
theorem dX12_act_36 : decode cX12_act 36 = .ok (.iconst 0, 1) := by decide +kernel
theorem dX12_act_37 : decode cX12_act 37 = .ok (.putfield 390, 3) := by decide +kernel
theorem dX12_act_40 : decode cX12_act 40 = .ok (.aload_n 0, 1) := by decide +kernel
theorem dX12_act_41 : decode cX12_act 41 = .ok (.aload_n 0, 1) := by decide +kernel
theorem dX12_act_42 : decode cX12_act 42 = .ok (.aload_n 0, 1) := by decide +kernel
theorem dX12_act_43 : decode cX12_act 43 = .ok (.getfield 55, 3) := by decide +kernel
theorem dX12_act_46 : decode cX12_act 46 = .ok (.iload_n 1, 1) := by decide +kernel
theorem dX12_act_47 : decode cX12_act 47 = .ok (.iaload, 1) := by decide +kernel
theorem dX12_act_48 : decode cX12_act 48 = .ok (.iconst 0, 1) := by decide +kernel
theorem dX12_act_49 : decode cX12_act 49 = .ok (.invokevirtual 78, 3) := by decide +kernel
theorem dX12_act_52 : decode cX12_act 52 = .ok (.putfield 375, 3) := by decide +kernel
theorem dX12_act_55 : decode cX12_act 55 = .ok (.aload_n 0, 1) := by decide +kernel
theorem dX12_act_56 : decode cX12_act 56 = .ok (.aload_n 0, 1) := by decide +kernel
theorem dX12_act_57 : decode cX12_act 57 = .ok (.getfield 55, 3) := by decide +kernel
theorem dX12_act_60 : decode cX12_act 60 = .ok (.iload_n 1, 1) := by decide +kernel
theorem dX12_act_61 : decode cX12_act 61 = .ok (.iaload, 1) := by decide +kernel
theorem dX12_act_62 : decode cX12_act 62 = .ok (.putfield 372, 3) := by decide +kernel
theorem dX12_act_65 : decode cX12_act 65 = .ok (.aload_n 0, 1) := by decide +kernel
theorem dX12_act_66 : decode cX12_act 66 = .ok (.aload_n 0, 1) := by decide +kernel
theorem dX12_act_67 : decode cX12_act 67 = .ok (.aload_n 0, 1) := by decide +kernel
theorem dX12_act_68 : decode cX12_act 68 = .ok (.getfield 55, 3) := by decide +kernel
theorem dX12_act_71 : decode cX12_act 71 = .ok (.iload_n 1, 1) := by decide +kernel
theorem dX12_act_72 : decode cX12_act 72 = .ok (.iaload, 1) := by decide +kernel
theorem dX12_act_73 : decode cX12_act 73 = .ok (.iconst 3, 1) := by decide +kernel
theorem dX12_act_74 : decode cX12_act 74 = .ok (.invokevirtual 78, 3) := by decide +kernel
theorem dX12_act_77 : decode cX12_act 77 = .ok (.putfield 384, 3) := by decide +kernel
theorem dX12_act_80 : decode cX12_act 80 = .ok (.iload_n 2, 1) := by decide +kernel
theorem dX12_act_81 : decode cX12_act 81 = .ok (.ifCond .ne 11, 3) := by decide +kernel
theorem dX12_act_84 : decode cX12_act 84 = .ok (.aload_n 0, 1) := by decide +kernel
theorem dX12_act_85 : decode cX12_act 85 = .ok (.iload_n 3, 1) := by decide +kernel
theorem dX12_act_86 : decode cX12_act 86 = .ok (.invokevirtual 381, 3) := by decide +kernel
theorem dX12_act_89 : decode cX12_act 89 = .ok (.goto 34, 3) := by decide +kernel
theorem dX12_act_92 : decode cX12_act 92 = .ok (.iload_n 2, 1) := by decide +kernel
theorem dX12_act_93 : decode cX12_act 93 = .ok (.iconst 1, 1) := by decide +kernel
theorem dX12_act_94 : decode cX12_act 94 = .ok (.if_icmp .ne 11, 3) := by decide +kernel
theorem dX12_act_97 : decode cX12_act 97 = .ok (.aload_n 0, 1) := by decide +kernel
theorem dX12_act_98 : decode cX12_act 98 = .ok (.iload_n 3, 1) := by decide +kernel
theorem dX12_act_99 : decode cX12_act 99 = .ok (.invokevirtual 399, 3) := by decide +kernel
theorem dX12_act_102 : decode cX12_act 102 = .ok (.goto 21, 3) := by decide +kernel
theorem dX12_act_105 : decode cX12_act 105 = .ok (.iload_n 2, 1) := by decide +kernel
theorem dX12_act_106 : decode cX12_act 106 = .ok (.iconst 2, 1) := by decide +kernel
theorem dX12_act_107 : decode cX12_act 107 = .ok (.if_icmp .ne 11, 3) := by decide +kernel
theorem dX12_act_110 : decode cX12_act 110 = .ok (.aload_n 0, 1) := by decide +kernel
theorem dX12_act_111 : decode cX12_act 111 = .ok (.iload_n 3, 1) := by decide +kernel
theorem dX12_act_112 : decode cX12_act 112 = .ok (.invokevirtual 405, 3) := by decide +kernel
theorem dX12_act_115 : decode cX12_act 115 = .ok (.goto 8, 3) := by decide +kernel
theorem dX12_act_118 : decode cX12_act 118 = .ok (.aload_n 0, 1) := by decide +kernel
theorem dX12_act_119 : decode cX12_act 119 = .ok (.iload_n 3, 1) := by decide +kernel
theorem dX12_act_120 : decode cX12_act 120 = .ok (.invokevirtual 408, 3) := by decide +kernel
theorem dX12_act_123 : decode cX12_act 123 = .ok (.istore 4, 2) := by decide +kernel
theorem dX12_act_125 : decode cX12_act 125 = .ok (.aload_n 0, 1) := by decide +kernel
theorem dX12_act_126 : decode cX12_act 126 = .ok (.getfield 390, 3) := by decide +kernel
theorem dX12_act_129 : decode cX12_act 129 = .ok (.ifCond .eq 8, 3) := by decide +kernel
theorem dX12_act_132 : decode cX12_act 132 = .ok (.bipush (-15), 2) := by decide +kernel
theorem dX12_act_134 : decode cX12_act 134 = .ok (.goto 5, 3) := by decide +kernel
theorem dX12_act_137 : decode cX12_act 137 = .ok (.iload 4, 2) := by decide +kernel
theorem dX12_act_139 : decode cX12_act 139 = .ok (.ireturn, 1) := by decide +kernel
theorem dX12_trace_0 : decode cX12_trace 0 = .ok (.iload_n 1, 1) := by decide +kernel
theorem dX12_trace_1 : decode cX12_trace 1 = .ok (.i2l, 1) := by decide +kernel
theorem dX12_trace_2 : decode cX12_trace 2 = .ok (.lconst 0, 1) := by decide +kernel
theorem dX12_trace_3 : decode cX12_trace 3 = .ok (.aload_n 0, 1) := by decide +kernel
theorem dX12_trace_4 : decode cX12_trace 4 = .ok (.getfield 366, 3) := by decide +kernel
theorem dX12_trace_7 : decode cX12_trace 7 = .ok (.iconst 1, 1) := by decide +kernel
theorem dX12_trace_8 : decode cX12_trace 8 = .ok (.isub, 1) := by decide +kernel
theorem dX12_trace_9 : decode cX12_trace 9 = .ok (.i2l, 1) := by decide +kernel
theorem dX12_trace_10 : decode cX12_trace 10 = .ok (.invokestatic 66, 3) := by decide +kernel
theorem dX12_trace_13 : decode cX12_trace 13 = .ok (.ifCond .eq 12, 3) := by decide +kernel
theorem dX12_trace_16 : decode cX12_trace 16 = .ok (.aload_n 0, 1) := by decide +kernel
theorem dX12_trace_17 : decode cX12_trace 17 = .ok (.getfield 61, 3) := by decide +kernel
theorem dX12_trace_20 : decode cX12_trace 20 = .ok (.iload_n 1, 1) := by decide +kernel
theorem dX12_trace_21 : decode cX12_trace 21 = .ok (.iaload, 1) := by decide +kernel
theorem dX12_trace_22 : decode cX12_trace 22 = .ok (.goto 5, 3) := by decide +kernel
theorem dX12_trace_25 : decode cX12_trace 25 = .ok (.bipush (-3), 2) := by decide +kernel
theorem dX12_trace_27 : decode cX12_trace 27 = .ok (.ireturn, 1) := by decide +kernel
theorem dX12_many_0 : decode cX12_many 0 = .ok (.iload_n 1, 1) := by decide +kernel
theorem dX12_many_1 : decode cX12_many 1 = .ok (.tableswitch 88 0 6 #[43, 50, 57, 65, 73, 78, 83], 43) := by decide +kernel
theorem dX12_many_44 : decode cX12_many 44 = .ok (.aload_n 0, 1) := by decide +kernel
theorem dX12_many_45 : decode cX12_many 45 = .ok (.getfield 7, 3) := by decide +kernel
theorem dX12_many_48 : decode cX12_many 48 = .ok (.iconst 0, 1) := by decide +kernel
theorem dX12_many_49 : decode cX12_many 49 = .ok (.iaload, 1) := by decide +kernel
theorem dX12_many_50 : decode cX12_many 50 = .ok (.ireturn, 1) := by decide +kernel
theorem dX12_many_51 : decode cX12_many 51 = .ok (.aload_n 0, 1) := by decide +kernel
theorem dX12_many_52 : decode cX12_many 52 = .ok (.getfield 7, 3) := by decide +kernel
theorem dX12_many_55 : decode cX12_many 55 = .ok (.iconst 5, 1) := by decide +kernel
theorem dX12_many_56 : decode cX12_many 56 = .ok (.iaload, 1) := by decide +kernel
theorem dX12_many_57 : decode cX12_many 57 = .ok (.ireturn, 1) := by decide +kernel
theorem dX12_many_58 : decode cX12_many 58 = .ok (.aload_n 0, 1) := by decide +kernel
theorem dX12_many_59 : decode cX12_many 59 = .ok (.invokevirtual 137, 3) := by decide +kernel
theorem dX12_many_62 : decode cX12_many 62 = .ok (.invokestatic 263, 3) := by decide +kernel
theorem dX12_many_65 : decode cX12_many 65 = .ok (.ireturn, 1) := by decide +kernel
theorem dX12_many_66 : decode cX12_many 66 = .ok (.aload_n 0, 1) := by decide +kernel
theorem dX12_many_67 : decode cX12_many 67 = .ok (.getfield 7, 3) := by decide +kernel
theorem dX12_many_70 : decode cX12_many 70 = .ok (.bipush 6, 2) := by decide +kernel
theorem dX12_many_72 : decode cX12_many 72 = .ok (.iaload, 1) := by decide +kernel
theorem dX12_many_73 : decode cX12_many 73 = .ok (.ireturn, 1) := by decide +kernel
theorem dX12_many_74 : decode cX12_many 74 = .ok (.aload_n 0, 1) := by decide +kernel
theorem dX12_many_75 : decode cX12_many 75 = .ok (.getfield 336, 3) := by decide +kernel
theorem dX12_many_78 : decode cX12_many 78 = .ok (.ireturn, 1) := by decide +kernel
theorem dX12_many_79 : decode cX12_many 79 = .ok (.aload_n 0, 1) := by decide +kernel
theorem dX12_many_80 : decode cX12_many 80 = .ok (.getfield 143, 3) := by decide +kernel
theorem dX12_many_83 : decode cX12_many 83 = .ok (.ireturn, 1) := by decide +kernel
theorem dX12_many_84 : decode cX12_many 84 = .ok (.aload_n 0, 1) := by decide +kernel
theorem dX12_many_85 : decode cX12_many 85 = .ok (.getfield 366, 3) := by decide +kernel
theorem dX12_many_88 : decode cX12_many 88 = .ok (.ireturn, 1) := by decide +kernel
theorem dX12_many_89 : decode cX12_many 89 = .ok (.iconst (-1), 1) := by decide +kernel
theorem dX12_many_90 : decode cX12_many 90 = .ok (.ireturn, 1) := by decide +kernel
theorem dX12_keep_0 : decode cX12_keep 0 = .ok (.iconst 0, 1) := by decide +kernel
theorem dX12_keep_1 : decode cX12_keep 1 = .ok (.istore_n 1, 1) := by decide +kernel
theorem dX12_keep_2 : decode cX12_keep 2 = .ok (.iload_n 1, 1) := by decide +kernel
theorem dX12_keep_3 : decode cX12_keep 3 = .ok (.sipush 544, 3) := by decide +kernel
theorem dX12_keep_6 : decode cX12_keep 6 = .ok (.if_icmp .ge 21, 3) := by decide +kernel
theorem dX12_keep_9 : decode cX12_keep 9 = .ok (.aload_n 0, 1) := by decide +kernel
theorem dX12_keep_10 : decode cX12_keep 10 = .ok (.getfield 13, 3) := by decide +kernel
theorem dX12_keep_13 : decode cX12_keep 13 = .ok (.iload_n 1, 1) := by decide +kernel
theorem dX12_keep_14 : decode cX12_keep 14 = .ok (.aload_n 0, 1) := by decide +kernel
theorem dX12_keep_15 : decode cX12_keep 15 = .ok (.getfield 7, 3) := by decide +kernel
theorem dX12_keep_18 : decode cX12_keep 18 = .ok (.iload_n 1, 1) := by decide +kernel
theorem dX12_keep_19 : decode cX12_keep 19 = .ok (.iaload, 1) := by decide +kernel
theorem dX12_keep_20 : decode cX12_keep 20 = .ok (.iastore, 1) := by decide +kernel
theorem dX12_keep_21 : decode cX12_keep 21 = .ok (.iinc 1 1, 3) := by decide +kernel
theorem dX12_keep_24 : decode cX12_keep 24 = .ok (.goto (-22), 3) := by decide +kernel
theorem dX12_keep_27 : decode cX12_keep 27 = .ok (.aload_n 0, 1) := by decide +kernel
theorem dX12_keep_28 : decode cX12_keep 28 = .ok (.iconst 1, 1) := by decide +kernel
theorem dX12_keep_29 : decode cX12_keep 29 = .ok (.putfield 411, 3) := by decide +kernel
theorem dX12_keep_32 : decode cX12_keep 32 = .ok (.iconst 1, 1) := by decide +kernel
theorem dX12_keep_33 : decode cX12_keep 33 = .ok (.ireturn, 1) := by decide +kernel
theorem dX12_again_0 : decode cX12_again 0 = .ok (.aload_n 0, 1) := by decide +kernel
theorem dX12_again_1 : decode cX12_again 1 = .ok (.getfield 411, 3) := by decide +kernel
theorem dX12_again_4 : decode cX12_again 4 = .ok (.ifCond .ne 6, 3) := by decide +kernel
theorem dX12_again_7 : decode cX12_again 7 = .ok (.bipush (-3), 2) := by decide +kernel
theorem dX12_again_9 : decode cX12_again 9 = .ok (.ireturn, 1) := by decide +kernel
theorem dX12_again_10 : decode cX12_again 10 = .ok (.iconst 0, 1) := by decide +kernel
theorem dX12_again_11 : decode cX12_again 11 = .ok (.istore_n 1, 1) := by decide +kernel
theorem dX12_again_12 : decode cX12_again 12 = .ok (.iload_n 1, 1) := by decide +kernel
theorem dX12_again_13 : decode cX12_again 13 = .ok (.sipush 544, 3) := by decide +kernel
theorem dX12_again_16 : decode cX12_again 16 = .ok (.if_icmp .ge 21, 3) := by decide +kernel
theorem dX12_again_19 : decode cX12_again 19 = .ok (.aload_n 0, 1) := by decide +kernel
theorem dX12_again_20 : decode cX12_again 20 = .ok (.getfield 7, 3) := by decide +kernel
theorem dX12_again_23 : decode cX12_again 23 = .ok (.iload_n 1, 1) := by decide +kernel
theorem dX12_again_24 : decode cX12_again 24 = .ok (.aload_n 0, 1) := by decide +kernel
theorem dX12_again_25 : decode cX12_again 25 = .ok (.getfield 13, 3) := by decide +kernel
theorem dX12_again_28 : decode cX12_again 28 = .ok (.iload_n 1, 1) := by decide +kernel
theorem dX12_again_29 : decode cX12_again 29 = .ok (.iaload, 1) := by decide +kernel
theorem dX12_again_30 : decode cX12_again 30 = .ok (.iastore, 1) := by decide +kernel
theorem dX12_again_31 : decode cX12_again 31 = .ok (.iinc 1 1, 3) := by decide +kernel
theorem dX12_again_34 : decode cX12_again 34 = .ok (.goto (-22), 3) := by decide +kernel
theorem dX12_again_37 : decode cX12_again 37 = .ok (.aload_n 0, 1) := by decide +kernel
theorem dX12_again_38 : decode cX12_again 38 = .ok (.getfield 7, 3) := by decide +kernel
theorem dX12_again_41 : decode cX12_again 41 = .ok (.iconst 0, 1) := by decide +kernel
theorem dX12_again_42 : decode cX12_again 42 = .ok (.iaload, 1) := by decide +kernel
theorem dX12_again_43 : decode cX12_again 43 = .ok (.ireturn, 1) := by decide +kernel
theorem dJ6_numberOfTrailingZeros_0f7a4_0 : decode cJ6_numberOfTrailingZeros_0f7a4 0 = .ok (.iload_n 0, 1) := by decide +kernel
theorem dJ6_numberOfTrailingZeros_0f7a4_1 : decode cJ6_numberOfTrailingZeros_0f7a4 1 = .ok (.iconst (-1), 1) := by decide +kernel
theorem dJ6_numberOfTrailingZeros_0f7a4_2 : decode cJ6_numberOfTrailingZeros_0f7a4 2 = .ok (.ixor, 1) := by decide +kernel
theorem dJ6_numberOfTrailingZeros_0f7a4_3 : decode cJ6_numberOfTrailingZeros_0f7a4 3 = .ok (.iload_n 0, 1) := by decide +kernel
theorem dJ6_numberOfTrailingZeros_0f7a4_4 : decode cJ6_numberOfTrailingZeros_0f7a4 4 = .ok (.iconst 1, 1) := by decide +kernel
theorem dJ6_numberOfTrailingZeros_0f7a4_5 : decode cJ6_numberOfTrailingZeros_0f7a4 5 = .ok (.isub, 1) := by decide +kernel
theorem dJ6_numberOfTrailingZeros_0f7a4_6 : decode cJ6_numberOfTrailingZeros_0f7a4 6 = .ok (.iand, 1) := by decide +kernel
theorem dJ6_numberOfTrailingZeros_0f7a4_7 : decode cJ6_numberOfTrailingZeros_0f7a4 7 = .ok (.istore_n 0, 1) := by decide +kernel
theorem dJ6_numberOfTrailingZeros_0f7a4_8 : decode cJ6_numberOfTrailingZeros_0f7a4 8 = .ok (.iload_n 0, 1) := by decide +kernel
theorem dJ6_numberOfTrailingZeros_0f7a4_9 : decode cJ6_numberOfTrailingZeros_0f7a4 9 = .ok (.ifCond .gt 8, 3) := by decide +kernel
theorem dJ6_numberOfTrailingZeros_0f7a4_12 : decode cJ6_numberOfTrailingZeros_0f7a4 12 = .ok (.iload_n 0, 1) := by decide +kernel
theorem dJ6_numberOfTrailingZeros_0f7a4_13 : decode cJ6_numberOfTrailingZeros_0f7a4 13 = .ok (.bipush 32, 2) := by decide +kernel
theorem dJ6_numberOfTrailingZeros_0f7a4_15 : decode cJ6_numberOfTrailingZeros_0f7a4 15 = .ok (.iand, 1) := by decide +kernel
theorem dJ6_numberOfTrailingZeros_0f7a4_16 : decode cJ6_numberOfTrailingZeros_0f7a4 16 = .ok (.ireturn, 1) := by decide +kernel
theorem dJ6_numberOfTrailingZeros_0f7a4_17 : decode cJ6_numberOfTrailingZeros_0f7a4 17 = .ok (.iconst 1, 1) := by decide +kernel
theorem dJ6_numberOfTrailingZeros_0f7a4_18 : decode cJ6_numberOfTrailingZeros_0f7a4 18 = .ok (.istore_n 1, 1) := by decide +kernel
theorem dJ6_numberOfTrailingZeros_0f7a4_19 : decode cJ6_numberOfTrailingZeros_0f7a4 19 = .ok (.iload_n 0, 1) := by decide +kernel
theorem dJ6_numberOfTrailingZeros_0f7a4_20 : decode cJ6_numberOfTrailingZeros_0f7a4 20 = .ok (.ldc_w 264, 3) := by decide +kernel
theorem dJ6_numberOfTrailingZeros_0f7a4_23 : decode cJ6_numberOfTrailingZeros_0f7a4 23 = .ok (.if_icmp .le 11, 3) := by decide +kernel
theorem dJ6_numberOfTrailingZeros_0f7a4_26 : decode cJ6_numberOfTrailingZeros_0f7a4 26 = .ok (.iinc 1 16, 3) := by decide +kernel
theorem dJ6_numberOfTrailingZeros_0f7a4_29 : decode cJ6_numberOfTrailingZeros_0f7a4 29 = .ok (.iload_n 0, 1) := by decide +kernel
theorem dJ6_numberOfTrailingZeros_0f7a4_30 : decode cJ6_numberOfTrailingZeros_0f7a4 30 = .ok (.bipush 16, 2) := by decide +kernel
theorem dJ6_numberOfTrailingZeros_0f7a4_32 : decode cJ6_numberOfTrailingZeros_0f7a4 32 = .ok (.iushr, 1) := by decide +kernel
theorem dJ6_numberOfTrailingZeros_0f7a4_33 : decode cJ6_numberOfTrailingZeros_0f7a4 33 = .ok (.istore_n 0, 1) := by decide +kernel
theorem dJ6_numberOfTrailingZeros_0f7a4_34 : decode cJ6_numberOfTrailingZeros_0f7a4 34 = .ok (.iload_n 0, 1) := by decide +kernel
theorem dJ6_numberOfTrailingZeros_0f7a4_35 : decode cJ6_numberOfTrailingZeros_0f7a4 35 = .ok (.sipush 256, 3) := by decide +kernel
theorem dJ6_numberOfTrailingZeros_0f7a4_38 : decode cJ6_numberOfTrailingZeros_0f7a4 38 = .ok (.if_icmp .le 11, 3) := by decide +kernel
theorem dJ6_numberOfTrailingZeros_0f7a4_41 : decode cJ6_numberOfTrailingZeros_0f7a4 41 = .ok (.iinc 1 8, 3) := by decide +kernel
theorem dJ6_numberOfTrailingZeros_0f7a4_44 : decode cJ6_numberOfTrailingZeros_0f7a4 44 = .ok (.iload_n 0, 1) := by decide +kernel
theorem dJ6_numberOfTrailingZeros_0f7a4_45 : decode cJ6_numberOfTrailingZeros_0f7a4 45 = .ok (.bipush 8, 2) := by decide +kernel
theorem dJ6_numberOfTrailingZeros_0f7a4_47 : decode cJ6_numberOfTrailingZeros_0f7a4 47 = .ok (.iushr, 1) := by decide +kernel
theorem dJ6_numberOfTrailingZeros_0f7a4_48 : decode cJ6_numberOfTrailingZeros_0f7a4 48 = .ok (.istore_n 0, 1) := by decide +kernel
theorem dJ6_numberOfTrailingZeros_0f7a4_49 : decode cJ6_numberOfTrailingZeros_0f7a4 49 = .ok (.iload_n 0, 1) := by decide +kernel
theorem dJ6_numberOfTrailingZeros_0f7a4_50 : decode cJ6_numberOfTrailingZeros_0f7a4 50 = .ok (.bipush 16, 2) := by decide +kernel
theorem dJ6_numberOfTrailingZeros_0f7a4_52 : decode cJ6_numberOfTrailingZeros_0f7a4 52 = .ok (.if_icmp .le 10, 3) := by decide +kernel
theorem dJ6_numberOfTrailingZeros_0f7a4_55 : decode cJ6_numberOfTrailingZeros_0f7a4 55 = .ok (.iinc 1 4, 3) := by decide +kernel
theorem dJ6_numberOfTrailingZeros_0f7a4_58 : decode cJ6_numberOfTrailingZeros_0f7a4 58 = .ok (.iload_n 0, 1) := by decide +kernel
theorem dJ6_numberOfTrailingZeros_0f7a4_59 : decode cJ6_numberOfTrailingZeros_0f7a4 59 = .ok (.iconst 4, 1) := by decide +kernel
theorem dJ6_numberOfTrailingZeros_0f7a4_60 : decode cJ6_numberOfTrailingZeros_0f7a4 60 = .ok (.iushr, 1) := by decide +kernel
theorem dJ6_numberOfTrailingZeros_0f7a4_61 : decode cJ6_numberOfTrailingZeros_0f7a4 61 = .ok (.istore_n 0, 1) := by decide +kernel
theorem dJ6_numberOfTrailingZeros_0f7a4_62 : decode cJ6_numberOfTrailingZeros_0f7a4 62 = .ok (.iload_n 0, 1) := by decide +kernel
theorem dJ6_numberOfTrailingZeros_0f7a4_63 : decode cJ6_numberOfTrailingZeros_0f7a4 63 = .ok (.iconst 4, 1) := by decide +kernel
theorem dJ6_numberOfTrailingZeros_0f7a4_64 : decode cJ6_numberOfTrailingZeros_0f7a4 64 = .ok (.if_icmp .le 10, 3) := by decide +kernel
theorem dJ6_numberOfTrailingZeros_0f7a4_67 : decode cJ6_numberOfTrailingZeros_0f7a4 67 = .ok (.iinc 1 2, 3) := by decide +kernel
theorem dJ6_numberOfTrailingZeros_0f7a4_70 : decode cJ6_numberOfTrailingZeros_0f7a4 70 = .ok (.iload_n 0, 1) := by decide +kernel
theorem dJ6_numberOfTrailingZeros_0f7a4_71 : decode cJ6_numberOfTrailingZeros_0f7a4 71 = .ok (.iconst 2, 1) := by decide +kernel
theorem dJ6_numberOfTrailingZeros_0f7a4_72 : decode cJ6_numberOfTrailingZeros_0f7a4 72 = .ok (.iushr, 1) := by decide +kernel
theorem dJ6_numberOfTrailingZeros_0f7a4_73 : decode cJ6_numberOfTrailingZeros_0f7a4 73 = .ok (.istore_n 0, 1) := by decide +kernel
theorem dJ6_numberOfTrailingZeros_0f7a4_74 : decode cJ6_numberOfTrailingZeros_0f7a4 74 = .ok (.iload_n 1, 1) := by decide +kernel
theorem dJ6_numberOfTrailingZeros_0f7a4_75 : decode cJ6_numberOfTrailingZeros_0f7a4 75 = .ok (.iload_n 0, 1) := by decide +kernel
theorem dJ6_numberOfTrailingZeros_0f7a4_76 : decode cJ6_numberOfTrailingZeros_0f7a4 76 = .ok (.iconst 1, 1) := by decide +kernel
theorem dJ6_numberOfTrailingZeros_0f7a4_77 : decode cJ6_numberOfTrailingZeros_0f7a4 77 = .ok (.iushr, 1) := by decide +kernel
theorem dJ6_numberOfTrailingZeros_0f7a4_78 : decode cJ6_numberOfTrailingZeros_0f7a4 78 = .ok (.iadd, 1) := by decide +kernel
theorem dJ6_numberOfTrailingZeros_0f7a4_79 : decode cJ6_numberOfTrailingZeros_0f7a4 79 = .ok (.ireturn, 1) := by decide +kernel
theorem dJ6_bitCount_0f7a4_0 : decode cJ6_bitCount_0f7a4 0 = .ok (.iload_n 0, 1) := by decide +kernel
theorem dJ6_bitCount_0f7a4_1 : decode cJ6_bitCount_0f7a4 1 = .ok (.iload_n 0, 1) := by decide +kernel
theorem dJ6_bitCount_0f7a4_2 : decode cJ6_bitCount_0f7a4 2 = .ok (.iconst 1, 1) := by decide +kernel
theorem dJ6_bitCount_0f7a4_3 : decode cJ6_bitCount_0f7a4 3 = .ok (.iushr, 1) := by decide +kernel
theorem dJ6_bitCount_0f7a4_4 : decode cJ6_bitCount_0f7a4 4 = .ok (.ldc_w 265, 3) := by decide +kernel
theorem dJ6_bitCount_0f7a4_7 : decode cJ6_bitCount_0f7a4 7 = .ok (.iand, 1) := by decide +kernel
theorem dJ6_bitCount_0f7a4_8 : decode cJ6_bitCount_0f7a4 8 = .ok (.isub, 1) := by decide +kernel
theorem dJ6_bitCount_0f7a4_9 : decode cJ6_bitCount_0f7a4 9 = .ok (.istore_n 0, 1) := by decide +kernel
theorem dJ6_bitCount_0f7a4_10 : decode cJ6_bitCount_0f7a4 10 = .ok (.iload_n 0, 1) := by decide +kernel
theorem dJ6_bitCount_0f7a4_11 : decode cJ6_bitCount_0f7a4 11 = .ok (.ldc_w 266, 3) := by decide +kernel
theorem dJ6_bitCount_0f7a4_14 : decode cJ6_bitCount_0f7a4 14 = .ok (.iand, 1) := by decide +kernel
theorem dJ6_bitCount_0f7a4_15 : decode cJ6_bitCount_0f7a4 15 = .ok (.iload_n 0, 1) := by decide +kernel
theorem dJ6_bitCount_0f7a4_16 : decode cJ6_bitCount_0f7a4 16 = .ok (.iconst 2, 1) := by decide +kernel
theorem dJ6_bitCount_0f7a4_17 : decode cJ6_bitCount_0f7a4 17 = .ok (.iushr, 1) := by decide +kernel
theorem dJ6_bitCount_0f7a4_18 : decode cJ6_bitCount_0f7a4 18 = .ok (.ldc_w 266, 3) := by decide +kernel
theorem dJ6_bitCount_0f7a4_21 : decode cJ6_bitCount_0f7a4 21 = .ok (.iand, 1) := by decide +kernel
theorem dJ6_bitCount_0f7a4_22 : decode cJ6_bitCount_0f7a4 22 = .ok (.iadd, 1) := by decide +kernel
theorem dJ6_bitCount_0f7a4_23 : decode cJ6_bitCount_0f7a4 23 = .ok (.istore_n 0, 1) := by decide +kernel
theorem dJ6_bitCount_0f7a4_24 : decode cJ6_bitCount_0f7a4 24 = .ok (.iload_n 0, 1) := by decide +kernel
theorem dJ6_bitCount_0f7a4_25 : decode cJ6_bitCount_0f7a4 25 = .ok (.iload_n 0, 1) := by decide +kernel
theorem dJ6_bitCount_0f7a4_26 : decode cJ6_bitCount_0f7a4 26 = .ok (.iconst 4, 1) := by decide +kernel
theorem dJ6_bitCount_0f7a4_27 : decode cJ6_bitCount_0f7a4 27 = .ok (.iushr, 1) := by decide +kernel
theorem dJ6_bitCount_0f7a4_28 : decode cJ6_bitCount_0f7a4 28 = .ok (.iadd, 1) := by decide +kernel
theorem dJ6_bitCount_0f7a4_29 : decode cJ6_bitCount_0f7a4 29 = .ok (.ldc_w 267, 3) := by decide +kernel
theorem dJ6_bitCount_0f7a4_32 : decode cJ6_bitCount_0f7a4 32 = .ok (.iand, 1) := by decide +kernel
theorem dJ6_bitCount_0f7a4_33 : decode cJ6_bitCount_0f7a4 33 = .ok (.istore_n 0, 1) := by decide +kernel
theorem dJ6_bitCount_0f7a4_34 : decode cJ6_bitCount_0f7a4 34 = .ok (.iload_n 0, 1) := by decide +kernel
theorem dJ6_bitCount_0f7a4_35 : decode cJ6_bitCount_0f7a4 35 = .ok (.iload_n 0, 1) := by decide +kernel
theorem dJ6_bitCount_0f7a4_36 : decode cJ6_bitCount_0f7a4 36 = .ok (.bipush 8, 2) := by decide +kernel
theorem dJ6_bitCount_0f7a4_38 : decode cJ6_bitCount_0f7a4 38 = .ok (.iushr, 1) := by decide +kernel
theorem dJ6_bitCount_0f7a4_39 : decode cJ6_bitCount_0f7a4 39 = .ok (.iadd, 1) := by decide +kernel
theorem dJ6_bitCount_0f7a4_40 : decode cJ6_bitCount_0f7a4 40 = .ok (.istore_n 0, 1) := by decide +kernel
theorem dJ6_bitCount_0f7a4_41 : decode cJ6_bitCount_0f7a4 41 = .ok (.iload_n 0, 1) := by decide +kernel
theorem dJ6_bitCount_0f7a4_42 : decode cJ6_bitCount_0f7a4 42 = .ok (.iload_n 0, 1) := by decide +kernel
theorem dJ6_bitCount_0f7a4_43 : decode cJ6_bitCount_0f7a4 43 = .ok (.bipush 16, 2) := by decide +kernel
theorem dJ6_bitCount_0f7a4_45 : decode cJ6_bitCount_0f7a4 45 = .ok (.iushr, 1) := by decide +kernel
theorem dJ6_bitCount_0f7a4_46 : decode cJ6_bitCount_0f7a4 46 = .ok (.iadd, 1) := by decide +kernel
theorem dJ6_bitCount_0f7a4_47 : decode cJ6_bitCount_0f7a4 47 = .ok (.istore_n 0, 1) := by decide +kernel
theorem dJ6_bitCount_0f7a4_48 : decode cJ6_bitCount_0f7a4 48 = .ok (.iload_n 0, 1) := by decide +kernel
theorem dJ6_bitCount_0f7a4_49 : decode cJ6_bitCount_0f7a4 49 = .ok (.bipush 63, 2) := by decide +kernel
theorem dJ6_bitCount_0f7a4_51 : decode cJ6_bitCount_0f7a4 51 = .ok (.iand, 1) := by decide +kernel
theorem dJ6_bitCount_0f7a4_52 : decode cJ6_bitCount_0f7a4 52 = .ok (.ireturn, 1) := by decide +kernel
theorem dJ9_abs_0f7a4_0 : decode cJ9_abs_0f7a4 0 = .ok (.iload_n 0, 1) := by decide +kernel
theorem dJ9_abs_0f7a4_1 : decode cJ9_abs_0f7a4 1 = .ok (.ifCond .ge 8, 3) := by decide +kernel
theorem dJ9_abs_0f7a4_4 : decode cJ9_abs_0f7a4 4 = .ok (.iload_n 0, 1) := by decide +kernel
theorem dJ9_abs_0f7a4_5 : decode cJ9_abs_0f7a4 5 = .ok (.ineg, 1) := by decide +kernel
theorem dJ9_abs_0f7a4_6 : decode cJ9_abs_0f7a4 6 = .ok (.goto 4, 3) := by decide +kernel
theorem dJ9_abs_0f7a4_9 : decode cJ9_abs_0f7a4 9 = .ok (.iload_n 0, 1) := by decide +kernel
theorem dJ9_abs_0f7a4_10 : decode cJ9_abs_0f7a4 10 = .ok (.ireturn, 1) := by decide +kernel
theorem dJ9_max_7cf53_0 : decode cJ9_max_7cf53 0 = .ok (.iload_n 0, 1) := by decide +kernel
theorem dJ9_max_7cf53_1 : decode cJ9_max_7cf53 1 = .ok (.iload_n 1, 1) := by decide +kernel
theorem dJ9_max_7cf53_2 : decode cJ9_max_7cf53 2 = .ok (.if_icmp .lt 7, 3) := by decide +kernel
theorem dJ9_max_7cf53_5 : decode cJ9_max_7cf53 5 = .ok (.iload_n 0, 1) := by decide +kernel
theorem dJ9_max_7cf53_6 : decode cJ9_max_7cf53 6 = .ok (.goto 4, 3) := by decide +kernel
theorem dJ9_max_7cf53_9 : decode cJ9_max_7cf53 9 = .ok (.iload_n 1, 1) := by decide +kernel
theorem dJ9_max_7cf53_10 : decode cJ9_max_7cf53 10 = .ok (.ireturn, 1) := by decide +kernel
theorem dJ9_min_7cf53_0 : decode cJ9_min_7cf53 0 = .ok (.iload_n 0, 1) := by decide +kernel
theorem dJ9_min_7cf53_1 : decode cJ9_min_7cf53 1 = .ok (.iload_n 1, 1) := by decide +kernel
theorem dJ9_min_7cf53_2 : decode cJ9_min_7cf53 2 = .ok (.if_icmp .gt 7, 3) := by decide +kernel
theorem dJ9_min_7cf53_5 : decode cJ9_min_7cf53 5 = .ok (.iload_n 0, 1) := by decide +kernel
theorem dJ9_min_7cf53_6 : decode cJ9_min_7cf53 6 = .ok (.goto 4, 3) := by decide +kernel
theorem dJ9_min_7cf53_9 : decode cJ9_min_7cf53 9 = .ok (.iload_n 1, 1) := by decide +kernel
theorem dJ9_min_7cf53_10 : decode cJ9_min_7cf53 10 = .ok (.ireturn, 1) := by decide +kernel
theorem dJ0_charAt_5068e_0 : decode cJ0_charAt_5068e 0 = .ok (.aload_n 0, 1) := by decide +kernel
theorem dJ0_charAt_5068e_1 : decode cJ0_charAt_5068e 1 = .ok (.invokevirtual 492, 3) := by decide +kernel
theorem dJ0_charAt_5068e_4 : decode cJ0_charAt_5068e 4 = .ok (.ifCond .eq 12, 3) := by decide +kernel
theorem dJ0_charAt_5068e_7 : decode cJ0_charAt_5068e 7 = .ok (.aload_n 0, 1) := by decide +kernel
theorem dJ0_charAt_5068e_8 : decode cJ0_charAt_5068e 8 = .ok (.getfield 9, 3) := by decide +kernel
theorem dJ0_charAt_5068e_11 : decode cJ0_charAt_5068e 11 = .ok (.iload_n 1, 1) := by decide +kernel
theorem dJ0_charAt_5068e_12 : decode cJ0_charAt_5068e 12 = .ok (.invokestatic 495, 3) := by decide +kernel
theorem dJ0_charAt_5068e_15 : decode cJ0_charAt_5068e 15 = .ok (.ireturn, 1) := by decide +kernel
theorem dJ0_charAt_5068e_16 : decode cJ0_charAt_5068e 16 = .ok (.aload_n 0, 1) := by decide +kernel
theorem dJ0_charAt_5068e_17 : decode cJ0_charAt_5068e 17 = .ok (.getfield 9, 3) := by decide +kernel
theorem dJ0_charAt_5068e_20 : decode cJ0_charAt_5068e 20 = .ok (.iload_n 1, 1) := by decide +kernel
theorem dJ0_charAt_5068e_21 : decode cJ0_charAt_5068e 21 = .ok (.invokestatic 498, 3) := by decide +kernel
theorem dJ0_charAt_5068e_24 : decode cJ0_charAt_5068e 24 = .ok (.ireturn, 1) := by decide +kernel
theorem dJ0_isLatin1_aae02_0 : decode cJ0_isLatin1_aae02 0 = .ok (.getstatic 38, 3) := by decide +kernel
theorem dJ0_isLatin1_aae02_3 : decode cJ0_isLatin1_aae02 3 = .ok (.ifCond .eq 14, 3) := by decide +kernel
theorem dJ0_isLatin1_aae02_6 : decode cJ0_isLatin1_aae02 6 = .ok (.aload_n 0, 1) := by decide +kernel
theorem dJ0_isLatin1_aae02_7 : decode cJ0_isLatin1_aae02 7 = .ok (.getfield 15, 3) := by decide +kernel
theorem dJ0_isLatin1_aae02_10 : decode cJ0_isLatin1_aae02 10 = .ok (.ifCond .ne 7, 3) := by decide +kernel
theorem dJ0_isLatin1_aae02_13 : decode cJ0_isLatin1_aae02 13 = .ok (.iconst 1, 1) := by decide +kernel
theorem dJ0_isLatin1_aae02_14 : decode cJ0_isLatin1_aae02 14 = .ok (.goto 4, 3) := by decide +kernel
theorem dJ0_isLatin1_aae02_17 : decode cJ0_isLatin1_aae02 17 = .ok (.iconst 0, 1) := by decide +kernel
theorem dJ0_isLatin1_aae02_18 : decode cJ0_isLatin1_aae02 18 = .ok (.ireturn, 1) := by decide +kernel
theorem dJ0_checkIndex_df160_0 : decode cJ0_checkIndex_df160 0 = .ok (.iload_n 0, 1) := by decide +kernel
theorem dJ0_checkIndex_df160_1 : decode cJ0_checkIndex_df160 1 = .ok (.iload_n 1, 1) := by decide +kernel
theorem dJ0_checkIndex_df160_2 : decode cJ0_checkIndex_df160 2 = .ok (.getstatic 1053, 3) := by decide +kernel
theorem dJ0_checkIndex_df160_5 : decode cJ0_checkIndex_df160 5 = .ok (.invokestatic 1059, 3) := by decide +kernel
theorem dJ0_checkIndex_df160_8 : decode cJ0_checkIndex_df160 8 = .ok (.pop, 1) := by decide +kernel
theorem dJ0_checkIndex_df160_9 : decode cJ0_checkIndex_df160 9 = .ok (.return_, 1) := by decide +kernel
theorem dJ1_charAt_3b067_0 : decode cJ1_charAt_3b067 0 = .ok (.iload_n 1, 1) := by decide +kernel
theorem dJ1_charAt_3b067_1 : decode cJ1_charAt_3b067 1 = .ok (.aload_n 0, 1) := by decide +kernel
theorem dJ1_charAt_3b067_2 : decode cJ1_charAt_3b067 2 = .ok (.arraylength, 1) := by decide +kernel
theorem dJ1_charAt_3b067_3 : decode cJ1_charAt_3b067 3 = .ok (.invokestatic 9, 3) := by decide +kernel
theorem dJ1_charAt_3b067_6 : decode cJ1_charAt_3b067 6 = .ok (.aload_n 0, 1) := by decide +kernel
theorem dJ1_charAt_3b067_7 : decode cJ1_charAt_3b067 7 = .ok (.iload_n 1, 1) := by decide +kernel
theorem dJ1_charAt_3b067_8 : decode cJ1_charAt_3b067 8 = .ok (.baload, 1) := by decide +kernel
theorem dJ1_charAt_3b067_9 : decode cJ1_charAt_3b067 9 = .ok (.sipush 255, 3) := by decide +kernel
theorem dJ1_charAt_3b067_12 : decode cJ1_charAt_3b067 12 = .ok (.iand, 1) := by decide +kernel
theorem dJ1_charAt_3b067_13 : decode cJ1_charAt_3b067 13 = .ok (.i2c, 1) := by decide +kernel
theorem dJ1_charAt_3b067_14 : decode cJ1_charAt_3b067 14 = .ok (.ireturn, 1) := by decide +kernel
theorem dJ2_getChar_3b067_0 : decode cJ2_getChar_3b067 0 = .ok (.getstatic 44, 3) := by decide +kernel
theorem dJ2_getChar_3b067_3 : decode cJ2_getChar_3b067 3 = .ok (.ifCond .ne 25, 3) := by decide +kernel
theorem dJ2_getChar_3b067_6 : decode cJ2_getChar_3b067 6 = .ok (.iload_n 1, 1) := by decide +kernel
theorem dJ2_getChar_3b067_7 : decode cJ2_getChar_3b067 7 = .ok (.ifCond .lt 11, 3) := by decide +kernel
theorem dJ2_getChar_3b067_10 : decode cJ2_getChar_3b067 10 = .ok (.iload_n 1, 1) := by decide +kernel
theorem dJ2_getChar_3b067_11 : decode cJ2_getChar_3b067 11 = .ok (.aload_n 0, 1) := by decide +kernel
theorem dJ2_getChar_3b067_12 : decode cJ2_getChar_3b067 12 = .ok (.invokestatic 48, 3) := by decide +kernel
theorem dJ2_getChar_3b067_15 : decode cJ2_getChar_3b067 15 = .ok (.if_icmp .lt 13, 3) := by decide +kernel
theorem dJ2_getChar_3b067_18 : decode cJ2_getChar_3b067 18 = .ok (.new 52, 3) := by decide +kernel
theorem dJ2_getChar_3b067_21 : decode cJ2_getChar_3b067 21 = .ok (.dup, 1) := by decide +kernel
theorem dJ2_getChar_3b067_22 : decode cJ2_getChar_3b067 22 = .ok (.ldc 54, 2) := by decide +kernel
theorem dJ2_getChar_3b067_24 : decode cJ2_getChar_3b067 24 = .ok (.invokespecial 56, 3) := by decide +kernel
theorem dJ2_getChar_3b067_27 : decode cJ2_getChar_3b067 27 = .ok (.athrow, 1) := by decide +kernel
theorem dJ2_getChar_3b067_28 : decode cJ2_getChar_3b067 28 = .ok (.iload_n 1, 1) := by decide +kernel
theorem dJ2_getChar_3b067_29 : decode cJ2_getChar_3b067 29 = .ok (.iconst 1, 1) := by decide +kernel
theorem dJ2_getChar_3b067_30 : decode cJ2_getChar_3b067 30 = .ok (.ishl, 1) := by decide +kernel
theorem dJ2_getChar_3b067_31 : decode cJ2_getChar_3b067 31 = .ok (.istore_n 1, 1) := by decide +kernel
theorem dJ2_getChar_3b067_32 : decode cJ2_getChar_3b067 32 = .ok (.aload_n 0, 1) := by decide +kernel
theorem dJ2_getChar_3b067_33 : decode cJ2_getChar_3b067 33 = .ok (.iload_n 1, 1) := by decide +kernel
theorem dJ2_getChar_3b067_34 : decode cJ2_getChar_3b067 34 = .ok (.iinc 1 1, 3) := by decide +kernel
theorem dJ2_getChar_3b067_37 : decode cJ2_getChar_3b067 37 = .ok (.baload, 1) := by decide +kernel
theorem dJ2_getChar_3b067_38 : decode cJ2_getChar_3b067 38 = .ok (.sipush 255, 3) := by decide +kernel
theorem dJ2_getChar_3b067_41 : decode cJ2_getChar_3b067 41 = .ok (.iand, 1) := by decide +kernel
theorem dJ2_getChar_3b067_42 : decode cJ2_getChar_3b067 42 = .ok (.getstatic 59, 3) := by decide +kernel
theorem dJ2_getChar_3b067_45 : decode cJ2_getChar_3b067 45 = .ok (.ishl, 1) := by decide +kernel
theorem dJ2_getChar_3b067_46 : decode cJ2_getChar_3b067 46 = .ok (.aload_n 0, 1) := by decide +kernel
theorem dJ2_getChar_3b067_47 : decode cJ2_getChar_3b067 47 = .ok (.iload_n 1, 1) := by decide +kernel
theorem dJ2_getChar_3b067_48 : decode cJ2_getChar_3b067 48 = .ok (.baload, 1) := by decide +kernel
theorem dJ2_getChar_3b067_49 : decode cJ2_getChar_3b067 49 = .ok (.sipush 255, 3) := by decide +kernel
theorem dJ2_getChar_3b067_52 : decode cJ2_getChar_3b067 52 = .ok (.iand, 1) := by decide +kernel
theorem dJ2_getChar_3b067_53 : decode cJ2_getChar_3b067 53 = .ok (.getstatic 63, 3) := by decide +kernel
theorem dJ2_getChar_3b067_56 : decode cJ2_getChar_3b067 56 = .ok (.ishl, 1) := by decide +kernel
theorem dJ2_getChar_3b067_57 : decode cJ2_getChar_3b067 57 = .ok (.ior, 1) := by decide +kernel
theorem dJ2_getChar_3b067_58 : decode cJ2_getChar_3b067 58 = .ok (.i2c, 1) := by decide +kernel
theorem dJ2_getChar_3b067_59 : decode cJ2_getChar_3b067 59 = .ok (.ireturn, 1) := by decide +kernel
theorem dJ2_length_9d52b_0 : decode cJ2_length_9d52b 0 = .ok (.aload_n 0, 1) := by decide +kernel
theorem dJ2_length_9d52b_1 : decode cJ2_length_9d52b 1 = .ok (.arraylength, 1) := by decide +kernel
theorem dJ2_length_9d52b_2 : decode cJ2_length_9d52b 2 = .ok (.iconst 1, 1) := by decide +kernel
theorem dJ2_length_9d52b_3 : decode cJ2_length_9d52b 3 = .ok (.ishr, 1) := by decide +kernel
theorem dJ2_length_9d52b_4 : decode cJ2_length_9d52b 4 = .ok (.ireturn, 1) := by decide +kernel
theorem dJ2_charAt_3b067_0 : decode cJ2_charAt_3b067 0 = .ok (.iload_n 1, 1) := by decide +kernel
theorem dJ2_charAt_3b067_1 : decode cJ2_charAt_3b067 1 = .ok (.aload_n 0, 1) := by decide +kernel
theorem dJ2_charAt_3b067_2 : decode cJ2_charAt_3b067 2 = .ok (.invokestatic 67, 3) := by decide +kernel
theorem dJ2_charAt_3b067_5 : decode cJ2_charAt_3b067 5 = .ok (.aload_n 0, 1) := by decide +kernel
theorem dJ2_charAt_3b067_6 : decode cJ2_charAt_3b067 6 = .ok (.iload_n 1, 1) := by decide +kernel
theorem dJ2_charAt_3b067_7 : decode cJ2_charAt_3b067 7 = .ok (.invokestatic 71, 3) := by decide +kernel
theorem dJ2_charAt_3b067_10 : decode cJ2_charAt_3b067 10 = .ok (.ireturn, 1) := by decide +kernel
theorem dJ2_checkIndex_2214a_0 : decode cJ2_checkIndex_2214a 0 = .ok (.iload_n 0, 1) := by decide +kernel
theorem dJ2_checkIndex_2214a_1 : decode cJ2_checkIndex_2214a 1 = .ok (.aload_n 1, 1) := by decide +kernel
theorem dJ2_checkIndex_2214a_2 : decode cJ2_checkIndex_2214a 2 = .ok (.invokestatic 48, 3) := by decide +kernel
theorem dJ2_checkIndex_2214a_5 : decode cJ2_checkIndex_2214a 5 = .ok (.invokestatic 414, 3) := by decide +kernel
theorem dJ2_checkIndex_2214a_8 : decode cJ2_checkIndex_2214a 8 = .ok (.return_, 1) := by decide +kernel
theorem dJ3_checkIndex_8e157_0 : decode cJ3_checkIndex_8e157 0 = .ok (.iload_n 0, 1) := by decide +kernel
theorem dJ3_checkIndex_8e157_1 : decode cJ3_checkIndex_8e157 1 = .ok (.ifCond .lt 8, 3) := by decide +kernel
theorem dJ3_checkIndex_8e157_4 : decode cJ3_checkIndex_8e157 4 = .ok (.iload_n 0, 1) := by decide +kernel
theorem dJ3_checkIndex_8e157_5 : decode cJ3_checkIndex_8e157 5 = .ok (.iload_n 1, 1) := by decide +kernel
theorem dJ3_checkIndex_8e157_6 : decode cJ3_checkIndex_8e157 6 = .ok (.if_icmp .lt 10, 3) := by decide +kernel
theorem dJ3_checkIndex_8e157_9 : decode cJ3_checkIndex_8e157 9 = .ok (.aload_n 2, 1) := by decide +kernel
theorem dJ3_checkIndex_8e157_10 : decode cJ3_checkIndex_8e157 10 = .ok (.iload_n 0, 1) := by decide +kernel
theorem dJ3_checkIndex_8e157_11 : decode cJ3_checkIndex_8e157 11 = .ok (.iload_n 1, 1) := by decide +kernel
theorem dJ3_checkIndex_8e157_12 : decode cJ3_checkIndex_8e157 12 = .ok (.invokestatic 95, 3) := by decide +kernel
theorem dJ3_checkIndex_8e157_15 : decode cJ3_checkIndex_8e157 15 = .ok (.athrow, 1) := by decide +kernel
theorem dJ3_checkIndex_8e157_16 : decode cJ3_checkIndex_8e157 16 = .ok (.iload_n 0, 1) := by decide +kernel
theorem dJ3_checkIndex_8e157_17 : decode cJ3_checkIndex_8e157 17 = .ok (.ireturn, 1) := by decide +kernel
theorem dL_law_0 : decode cL_law 0 = .ok (.new 7, 3) := by decide +kernel
theorem dL_law_3 : decode cL_law 3 = .ok (.dup, 1) := by decide +kernel
theorem dL_law_4 : decode cL_law 4 = .ok (.invokespecial 9, 3) := by decide +kernel
theorem dL_law_7 : decode cL_law 7 = .ok (.astore_n 1, 1) := by decide +kernel
theorem dL_law_8 : decode cL_law 8 = .ok (.new 10, 3) := by decide +kernel
theorem dL_law_11 : decode cL_law 11 = .ok (.dup, 1) := by decide +kernel
theorem dL_law_12 : decode cL_law 12 = .ok (.invokespecial 12, 3) := by decide +kernel
theorem dL_law_15 : decode cL_law 15 = .ok (.astore_n 2, 1) := by decide +kernel
theorem dL_law_16 : decode cL_law 16 = .ok (.iconst 0, 1) := by decide +kernel
theorem dL_law_17 : decode cL_law 17 = .ok (.istore_n 3, 1) := by decide +kernel
theorem dL_law_18 : decode cL_law 18 = .ok (.iload_n 3, 1) := by decide +kernel
theorem dL_law_19 : decode cL_law 19 = .ok (.aload_n 0, 1) := by decide +kernel
theorem dL_law_20 : decode cL_law 20 = .ok (.arraylength, 1) := by decide +kernel
theorem dL_law_21 : decode cL_law 21 = .ok (.iconst 5, 1) := by decide +kernel
theorem dL_law_22 : decode cL_law 22 = .ok (.isub, 1) := by decide +kernel
theorem dL_law_23 : decode cL_law 23 = .ok (.if_icmp .gt 1651, 3) := by decide +kernel
theorem dL_law_26 : decode cL_law 26 = .ok (.aload_n 0, 1) := by decide +kernel
theorem dL_law_27 : decode cL_law 27 = .ok (.iload_n 3, 1) := by decide +kernel
theorem dL_law_28 : decode cL_law 28 = .ok (.iaload, 1) := by decide +kernel
theorem dL_law_29 : decode cL_law 29 = .ok (.bipush 63, 2) := by decide +kernel
theorem dL_law_31 : decode cL_law 31 = .ok (.iand, 1) := by decide +kernel
theorem dL_law_32 : decode cL_law 32 = .ok (.tableswitch 1636 0 49 #[216, 269, 302, 345, 378, 411, 434, 447, 470, 533, 546, 559, 582, 605, 628, 651, 674, 687, 710, 733, 756, 779, 812, 835, 868, 901, 924, 947, 1000, 1013, 1036, 1049, 1072, 1085, 1118, 1141, 1174, 1217, 1230, 1273, 1316, 1359, 1402, 1445, 1488, 1521, 1564, 1587, 1610, 1623], 216) := by decide +kernel
theorem dL_law_248 : decode cL_law 248 = .ok (.aload_n 1, 1) := by decide +kernel
theorem dL_law_249 : decode cL_law 249 = .ok (.aload_n 0, 1) := by decide +kernel
theorem dL_law_250 : decode cL_law 250 = .ok (.iload_n 3, 1) := by decide +kernel
theorem dL_law_251 : decode cL_law 251 = .ok (.iconst 1, 1) := by decide +kernel
theorem dL_law_252 : decode cL_law 252 = .ok (.iadd, 1) := by decide +kernel
theorem dL_law_253 : decode cL_law 253 = .ok (.iaload, 1) := by decide +kernel
theorem dL_law_254 : decode cL_law 254 = .ok (.aload_n 0, 1) := by decide +kernel
theorem dL_law_255 : decode cL_law 255 = .ok (.iload_n 3, 1) := by decide +kernel
theorem dL_law_256 : decode cL_law 256 = .ok (.iconst 2, 1) := by decide +kernel
theorem dL_law_257 : decode cL_law 257 = .ok (.iadd, 1) := by decide +kernel
theorem dL_law_258 : decode cL_law 258 = .ok (.iaload, 1) := by decide +kernel
theorem dL_law_259 : decode cL_law 259 = .ok (.aload_n 0, 1) := by decide +kernel
theorem dL_law_260 : decode cL_law 260 = .ok (.iload_n 3, 1) := by decide +kernel
theorem dL_law_261 : decode cL_law 261 = .ok (.iconst 3, 1) := by decide +kernel
theorem dL_law_262 : decode cL_law 262 = .ok (.iadd, 1) := by decide +kernel
theorem dL_law_263 : decode cL_law 263 = .ok (.iaload, 1) := by decide +kernel
theorem dL_law_264 : decode cL_law 264 = .ok (.aload_n 0, 1) := by decide +kernel
theorem dL_law_265 : decode cL_law 265 = .ok (.iload_n 3, 1) := by decide +kernel
theorem dL_law_266 : decode cL_law 266 = .ok (.iconst 4, 1) := by decide +kernel
theorem dL_law_267 : decode cL_law 267 = .ok (.iadd, 1) := by decide +kernel
theorem dL_law_268 : decode cL_law 268 = .ok (.iaload, 1) := by decide +kernel
theorem dL_law_269 : decode cL_law 269 = .ok (.invokevirtual 13, 3) := by decide +kernel
theorem dL_law_272 : decode cL_law 272 = .ok (.aload_n 2, 1) := by decide +kernel
theorem dL_law_273 : decode cL_law 273 = .ok (.aload_n 0, 1) := by decide +kernel
theorem dL_law_274 : decode cL_law 274 = .ok (.iload_n 3, 1) := by decide +kernel
theorem dL_law_275 : decode cL_law 275 = .ok (.iconst 1, 1) := by decide +kernel
theorem dL_law_276 : decode cL_law 276 = .ok (.iadd, 1) := by decide +kernel
theorem dL_law_277 : decode cL_law 277 = .ok (.iaload, 1) := by decide +kernel
theorem dL_law_278 : decode cL_law 278 = .ok (.aload_n 0, 1) := by decide +kernel
theorem dL_law_279 : decode cL_law 279 = .ok (.iload_n 3, 1) := by decide +kernel
theorem dL_law_280 : decode cL_law 280 = .ok (.iconst 2, 1) := by decide +kernel
theorem dL_law_281 : decode cL_law 281 = .ok (.iadd, 1) := by decide +kernel
theorem dL_law_282 : decode cL_law 282 = .ok (.iaload, 1) := by decide +kernel
theorem dL_law_283 : decode cL_law 283 = .ok (.aload_n 0, 1) := by decide +kernel
theorem dL_law_284 : decode cL_law 284 = .ok (.iload_n 3, 1) := by decide +kernel
theorem dL_law_285 : decode cL_law 285 = .ok (.iconst 3, 1) := by decide +kernel
theorem dL_law_286 : decode cL_law 286 = .ok (.iadd, 1) := by decide +kernel
theorem dL_law_287 : decode cL_law 287 = .ok (.iaload, 1) := by decide +kernel
theorem dL_law_288 : decode cL_law 288 = .ok (.aload_n 0, 1) := by decide +kernel
theorem dL_law_289 : decode cL_law 289 = .ok (.iload_n 3, 1) := by decide +kernel
theorem dL_law_290 : decode cL_law 290 = .ok (.iconst 4, 1) := by decide +kernel
theorem dL_law_291 : decode cL_law 291 = .ok (.iadd, 1) := by decide +kernel
theorem dL_law_292 : decode cL_law 292 = .ok (.iaload, 1) := by decide +kernel
theorem dL_law_293 : decode cL_law 293 = .ok (.invokevirtual 17, 3) := by decide +kernel
theorem dL_law_296 : decode cL_law 296 = .ok (.if_icmp .eq 1372, 3) := by decide +kernel
theorem dL_law_299 : decode cL_law 299 = .ok (.iconst 0, 1) := by decide +kernel
theorem dL_law_300 : decode cL_law 300 = .ok (.ireturn, 1) := by decide +kernel
theorem dL_law_301 : decode cL_law 301 = .ok (.aload_n 1, 1) := by decide +kernel
theorem dL_law_302 : decode cL_law 302 = .ok (.aload_n 0, 1) := by decide +kernel
theorem dL_law_303 : decode cL_law 303 = .ok (.iload_n 3, 1) := by decide +kernel
theorem dL_law_304 : decode cL_law 304 = .ok (.iconst 1, 1) := by decide +kernel
theorem dL_law_305 : decode cL_law 305 = .ok (.iadd, 1) := by decide +kernel
theorem dL_law_306 : decode cL_law 306 = .ok (.iaload, 1) := by decide +kernel
theorem dL_law_307 : decode cL_law 307 = .ok (.aload_n 0, 1) := by decide +kernel
theorem dL_law_308 : decode cL_law 308 = .ok (.iload_n 3, 1) := by decide +kernel
theorem dL_law_309 : decode cL_law 309 = .ok (.iconst 2, 1) := by decide +kernel
theorem dL_law_310 : decode cL_law 310 = .ok (.iadd, 1) := by decide +kernel
theorem dL_law_311 : decode cL_law 311 = .ok (.iaload, 1) := by decide +kernel
theorem dL_law_312 : decode cL_law 312 = .ok (.invokevirtual 18, 3) := by decide +kernel
theorem dL_law_315 : decode cL_law 315 = .ok (.aload_n 2, 1) := by decide +kernel
theorem dL_law_316 : decode cL_law 316 = .ok (.aload_n 0, 1) := by decide +kernel
theorem dL_law_317 : decode cL_law 317 = .ok (.iload_n 3, 1) := by decide +kernel
theorem dL_law_318 : decode cL_law 318 = .ok (.iconst 1, 1) := by decide +kernel
theorem dL_law_319 : decode cL_law 319 = .ok (.iadd, 1) := by decide +kernel
theorem dL_law_320 : decode cL_law 320 = .ok (.iaload, 1) := by decide +kernel
theorem dL_law_321 : decode cL_law 321 = .ok (.aload_n 0, 1) := by decide +kernel
theorem dL_law_322 : decode cL_law 322 = .ok (.iload_n 3, 1) := by decide +kernel
theorem dL_law_323 : decode cL_law 323 = .ok (.iconst 2, 1) := by decide +kernel
theorem dL_law_324 : decode cL_law 324 = .ok (.iadd, 1) := by decide +kernel
theorem dL_law_325 : decode cL_law 325 = .ok (.iaload, 1) := by decide +kernel
theorem dL_law_326 : decode cL_law 326 = .ok (.invokevirtual 22, 3) := by decide +kernel
theorem dL_law_329 : decode cL_law 329 = .ok (.if_icmp .eq 1339, 3) := by decide +kernel
theorem dL_law_332 : decode cL_law 332 = .ok (.iconst 0, 1) := by decide +kernel
theorem dL_law_333 : decode cL_law 333 = .ok (.ireturn, 1) := by decide +kernel
theorem dL_law_334 : decode cL_law 334 = .ok (.aload_n 1, 1) := by decide +kernel
theorem dL_law_335 : decode cL_law 335 = .ok (.aload_n 0, 1) := by decide +kernel
theorem dL_law_336 : decode cL_law 336 = .ok (.iload_n 3, 1) := by decide +kernel
theorem dL_law_337 : decode cL_law 337 = .ok (.iconst 1, 1) := by decide +kernel
theorem dL_law_338 : decode cL_law 338 = .ok (.iadd, 1) := by decide +kernel
theorem dL_law_339 : decode cL_law 339 = .ok (.iaload, 1) := by decide +kernel
theorem dL_law_340 : decode cL_law 340 = .ok (.aload_n 0, 1) := by decide +kernel
theorem dL_law_341 : decode cL_law 341 = .ok (.iload_n 3, 1) := by decide +kernel
theorem dL_law_342 : decode cL_law 342 = .ok (.iconst 2, 1) := by decide +kernel
theorem dL_law_343 : decode cL_law 343 = .ok (.iadd, 1) := by decide +kernel
theorem dL_law_344 : decode cL_law 344 = .ok (.iaload, 1) := by decide +kernel
theorem dL_law_345 : decode cL_law 345 = .ok (.aload_n 0, 1) := by decide +kernel
theorem dL_law_346 : decode cL_law 346 = .ok (.iload_n 3, 1) := by decide +kernel
theorem dL_law_347 : decode cL_law 347 = .ok (.iconst 3, 1) := by decide +kernel
theorem dL_law_348 : decode cL_law 348 = .ok (.iadd, 1) := by decide +kernel
theorem dL_law_349 : decode cL_law 349 = .ok (.iaload, 1) := by decide +kernel
theorem dL_law_350 : decode cL_law 350 = .ok (.invokevirtual 23, 3) := by decide +kernel
theorem dL_law_353 : decode cL_law 353 = .ok (.aload_n 2, 1) := by decide +kernel
theorem dL_law_354 : decode cL_law 354 = .ok (.aload_n 0, 1) := by decide +kernel
theorem dL_law_355 : decode cL_law 355 = .ok (.iload_n 3, 1) := by decide +kernel
theorem dL_law_356 : decode cL_law 356 = .ok (.iconst 1, 1) := by decide +kernel
theorem dL_law_357 : decode cL_law 357 = .ok (.iadd, 1) := by decide +kernel
theorem dL_law_358 : decode cL_law 358 = .ok (.iaload, 1) := by decide +kernel
theorem dL_law_359 : decode cL_law 359 = .ok (.aload_n 0, 1) := by decide +kernel
theorem dL_law_360 : decode cL_law 360 = .ok (.iload_n 3, 1) := by decide +kernel
theorem dL_law_361 : decode cL_law 361 = .ok (.iconst 2, 1) := by decide +kernel
theorem dL_law_362 : decode cL_law 362 = .ok (.iadd, 1) := by decide +kernel
theorem dL_law_363 : decode cL_law 363 = .ok (.iaload, 1) := by decide +kernel
theorem dL_law_364 : decode cL_law 364 = .ok (.aload_n 0, 1) := by decide +kernel
theorem dL_law_365 : decode cL_law 365 = .ok (.iload_n 3, 1) := by decide +kernel
theorem dL_law_366 : decode cL_law 366 = .ok (.iconst 3, 1) := by decide +kernel
theorem dL_law_367 : decode cL_law 367 = .ok (.iadd, 1) := by decide +kernel
theorem dL_law_368 : decode cL_law 368 = .ok (.iaload, 1) := by decide +kernel
theorem dL_law_369 : decode cL_law 369 = .ok (.invokevirtual 27, 3) := by decide +kernel
theorem dL_law_372 : decode cL_law 372 = .ok (.if_icmp .eq 1296, 3) := by decide +kernel
theorem dL_law_375 : decode cL_law 375 = .ok (.iconst 0, 1) := by decide +kernel
theorem dL_law_376 : decode cL_law 376 = .ok (.ireturn, 1) := by decide +kernel
theorem dL_law_377 : decode cL_law 377 = .ok (.aload_n 1, 1) := by decide +kernel
theorem dL_law_378 : decode cL_law 378 = .ok (.aload_n 0, 1) := by decide +kernel
theorem dL_law_379 : decode cL_law 379 = .ok (.iload_n 3, 1) := by decide +kernel
theorem dL_law_380 : decode cL_law 380 = .ok (.iconst 1, 1) := by decide +kernel
theorem dL_law_381 : decode cL_law 381 = .ok (.iadd, 1) := by decide +kernel
theorem dL_law_382 : decode cL_law 382 = .ok (.iaload, 1) := by decide +kernel
theorem dL_law_383 : decode cL_law 383 = .ok (.aload_n 0, 1) := by decide +kernel
theorem dL_law_384 : decode cL_law 384 = .ok (.iload_n 3, 1) := by decide +kernel
theorem dL_law_385 : decode cL_law 385 = .ok (.iconst 2, 1) := by decide +kernel
theorem dL_law_386 : decode cL_law 386 = .ok (.iadd, 1) := by decide +kernel
theorem dL_law_387 : decode cL_law 387 = .ok (.iaload, 1) := by decide +kernel
theorem dL_law_388 : decode cL_law 388 = .ok (.invokevirtual 28, 3) := by decide +kernel
theorem dL_law_391 : decode cL_law 391 = .ok (.aload_n 2, 1) := by decide +kernel
theorem dL_law_392 : decode cL_law 392 = .ok (.aload_n 0, 1) := by decide +kernel
theorem dL_law_393 : decode cL_law 393 = .ok (.iload_n 3, 1) := by decide +kernel
theorem dL_law_394 : decode cL_law 394 = .ok (.iconst 1, 1) := by decide +kernel
theorem dL_law_395 : decode cL_law 395 = .ok (.iadd, 1) := by decide +kernel
theorem dL_law_396 : decode cL_law 396 = .ok (.iaload, 1) := by decide +kernel
theorem dL_law_397 : decode cL_law 397 = .ok (.aload_n 0, 1) := by decide +kernel
theorem dL_law_398 : decode cL_law 398 = .ok (.iload_n 3, 1) := by decide +kernel
theorem dL_law_399 : decode cL_law 399 = .ok (.iconst 2, 1) := by decide +kernel
theorem dL_law_400 : decode cL_law 400 = .ok (.iadd, 1) := by decide +kernel
theorem dL_law_401 : decode cL_law 401 = .ok (.iaload, 1) := by decide +kernel
theorem dL_law_402 : decode cL_law 402 = .ok (.invokevirtual 31, 3) := by decide +kernel
theorem dL_law_405 : decode cL_law 405 = .ok (.if_icmp .eq 1263, 3) := by decide +kernel
theorem dL_law_408 : decode cL_law 408 = .ok (.iconst 0, 1) := by decide +kernel
theorem dL_law_409 : decode cL_law 409 = .ok (.ireturn, 1) := by decide +kernel
theorem dL_law_410 : decode cL_law 410 = .ok (.aload_n 1, 1) := by decide +kernel
theorem dL_law_411 : decode cL_law 411 = .ok (.aload_n 0, 1) := by decide +kernel
theorem dL_law_412 : decode cL_law 412 = .ok (.iload_n 3, 1) := by decide +kernel
theorem dL_law_413 : decode cL_law 413 = .ok (.iconst 1, 1) := by decide +kernel
theorem dL_law_414 : decode cL_law 414 = .ok (.iadd, 1) := by decide +kernel
theorem dL_law_415 : decode cL_law 415 = .ok (.iaload, 1) := by decide +kernel
theorem dL_law_416 : decode cL_law 416 = .ok (.aload_n 0, 1) := by decide +kernel
theorem dL_law_417 : decode cL_law 417 = .ok (.iload_n 3, 1) := by decide +kernel
theorem dL_law_418 : decode cL_law 418 = .ok (.iconst 2, 1) := by decide +kernel
theorem dL_law_419 : decode cL_law 419 = .ok (.iadd, 1) := by decide +kernel
theorem dL_law_420 : decode cL_law 420 = .ok (.iaload, 1) := by decide +kernel
theorem dL_law_421 : decode cL_law 421 = .ok (.invokevirtual 32, 3) := by decide +kernel
theorem dL_law_424 : decode cL_law 424 = .ok (.aload_n 2, 1) := by decide +kernel
theorem dL_law_425 : decode cL_law 425 = .ok (.aload_n 0, 1) := by decide +kernel
theorem dL_law_426 : decode cL_law 426 = .ok (.iload_n 3, 1) := by decide +kernel
theorem dL_law_427 : decode cL_law 427 = .ok (.iconst 1, 1) := by decide +kernel
theorem dL_law_428 : decode cL_law 428 = .ok (.iadd, 1) := by decide +kernel
theorem dL_law_429 : decode cL_law 429 = .ok (.iaload, 1) := by decide +kernel
theorem dL_law_430 : decode cL_law 430 = .ok (.aload_n 0, 1) := by decide +kernel
theorem dL_law_431 : decode cL_law 431 = .ok (.iload_n 3, 1) := by decide +kernel
theorem dL_law_432 : decode cL_law 432 = .ok (.iconst 2, 1) := by decide +kernel
theorem dL_law_433 : decode cL_law 433 = .ok (.iadd, 1) := by decide +kernel
theorem dL_law_434 : decode cL_law 434 = .ok (.iaload, 1) := by decide +kernel
theorem dL_law_435 : decode cL_law 435 = .ok (.invokevirtual 35, 3) := by decide +kernel
theorem dL_law_438 : decode cL_law 438 = .ok (.if_icmp .eq 1230, 3) := by decide +kernel
theorem dL_law_441 : decode cL_law 441 = .ok (.iconst 0, 1) := by decide +kernel
theorem dL_law_442 : decode cL_law 442 = .ok (.ireturn, 1) := by decide +kernel
theorem dL_law_443 : decode cL_law 443 = .ok (.aload_n 1, 1) := by decide +kernel
theorem dL_law_444 : decode cL_law 444 = .ok (.aload_n 0, 1) := by decide +kernel
theorem dL_law_445 : decode cL_law 445 = .ok (.iload_n 3, 1) := by decide +kernel
theorem dL_law_446 : decode cL_law 446 = .ok (.iconst 1, 1) := by decide +kernel
theorem dL_law_447 : decode cL_law 447 = .ok (.iadd, 1) := by decide +kernel
theorem dL_law_448 : decode cL_law 448 = .ok (.iaload, 1) := by decide +kernel
theorem dL_law_449 : decode cL_law 449 = .ok (.invokevirtual 36, 3) := by decide +kernel
theorem dL_law_452 : decode cL_law 452 = .ok (.aload_n 2, 1) := by decide +kernel
theorem dL_law_453 : decode cL_law 453 = .ok (.aload_n 0, 1) := by decide +kernel
theorem dL_law_454 : decode cL_law 454 = .ok (.iload_n 3, 1) := by decide +kernel
theorem dL_law_455 : decode cL_law 455 = .ok (.iconst 1, 1) := by decide +kernel
theorem dL_law_456 : decode cL_law 456 = .ok (.iadd, 1) := by decide +kernel
theorem dL_law_457 : decode cL_law 457 = .ok (.iaload, 1) := by decide +kernel
theorem dL_law_458 : decode cL_law 458 = .ok (.invokevirtual 40, 3) := by decide +kernel
theorem dL_law_461 : decode cL_law 461 = .ok (.if_icmp .eq 1207, 3) := by decide +kernel
theorem dL_law_464 : decode cL_law 464 = .ok (.iconst 0, 1) := by decide +kernel
theorem dL_law_465 : decode cL_law 465 = .ok (.ireturn, 1) := by decide +kernel
theorem dL_law_466 : decode cL_law 466 = .ok (.aload_n 1, 1) := by decide +kernel
theorem dL_law_467 : decode cL_law 467 = .ok (.invokevirtual 41, 3) := by decide +kernel
theorem dL_law_470 : decode cL_law 470 = .ok (.aload_n 2, 1) := by decide +kernel
theorem dL_law_471 : decode cL_law 471 = .ok (.invokevirtual 45, 3) := by decide +kernel
theorem dL_law_474 : decode cL_law 474 = .ok (.if_icmp .eq 1194, 3) := by decide +kernel
theorem dL_law_477 : decode cL_law 477 = .ok (.iconst 0, 1) := by decide +kernel
theorem dL_law_478 : decode cL_law 478 = .ok (.ireturn, 1) := by decide +kernel
theorem dL_law_479 : decode cL_law 479 = .ok (.aload_n 1, 1) := by decide +kernel
theorem dL_law_480 : decode cL_law 480 = .ok (.aload_n 0, 1) := by decide +kernel
theorem dL_law_481 : decode cL_law 481 = .ok (.iload_n 3, 1) := by decide +kernel
theorem dL_law_482 : decode cL_law 482 = .ok (.iconst 1, 1) := by decide +kernel
theorem dL_law_483 : decode cL_law 483 = .ok (.iadd, 1) := by decide +kernel
theorem dL_law_484 : decode cL_law 484 = .ok (.iaload, 1) := by decide +kernel
theorem dL_law_485 : decode cL_law 485 = .ok (.invokevirtual 46, 3) := by decide +kernel
theorem dL_law_488 : decode cL_law 488 = .ok (.aload_n 2, 1) := by decide +kernel
theorem dL_law_489 : decode cL_law 489 = .ok (.aload_n 0, 1) := by decide +kernel
theorem dL_law_490 : decode cL_law 490 = .ok (.iload_n 3, 1) := by decide +kernel
theorem dL_law_491 : decode cL_law 491 = .ok (.iconst 1, 1) := by decide +kernel
theorem dL_law_492 : decode cL_law 492 = .ok (.iadd, 1) := by decide +kernel
theorem dL_law_493 : decode cL_law 493 = .ok (.iaload, 1) := by decide +kernel
theorem dL_law_494 : decode cL_law 494 = .ok (.invokevirtual 49, 3) := by decide +kernel
theorem dL_law_497 : decode cL_law 497 = .ok (.if_icmp .eq 1171, 3) := by decide +kernel
theorem dL_law_500 : decode cL_law 500 = .ok (.iconst 0, 1) := by decide +kernel
theorem dL_law_501 : decode cL_law 501 = .ok (.ireturn, 1) := by decide +kernel
theorem dL_law_502 : decode cL_law 502 = .ok (.aload_n 1, 1) := by decide +kernel
theorem dL_law_503 : decode cL_law 503 = .ok (.aload_n 0, 1) := by decide +kernel
theorem dL_law_504 : decode cL_law 504 = .ok (.iload_n 3, 1) := by decide +kernel
theorem dL_law_505 : decode cL_law 505 = .ok (.iconst 1, 1) := by decide +kernel
theorem dL_law_506 : decode cL_law 506 = .ok (.iadd, 1) := by decide +kernel
theorem dL_law_507 : decode cL_law 507 = .ok (.iaload, 1) := by decide +kernel
theorem dL_law_508 : decode cL_law 508 = .ok (.i2l, 1) := by decide +kernel
theorem dL_law_509 : decode cL_law 509 = .ok (.bipush 32, 2) := by decide +kernel
theorem dL_law_511 : decode cL_law 511 = .ok (.lshl, 1) := by decide +kernel
theorem dL_law_512 : decode cL_law 512 = .ok (.aload_n 0, 1) := by decide +kernel
theorem dL_law_513 : decode cL_law 513 = .ok (.iload_n 3, 1) := by decide +kernel
theorem dL_law_514 : decode cL_law 514 = .ok (.iconst 2, 1) := by decide +kernel
theorem dL_law_515 : decode cL_law 515 = .ok (.iadd, 1) := by decide +kernel
theorem dL_law_516 : decode cL_law 516 = .ok (.iaload, 1) := by decide +kernel
theorem dL_law_517 : decode cL_law 517 = .ok (.i2l, 1) := by decide +kernel
theorem dL_law_518 : decode cL_law 518 = .ok (.ldc2_w 50, 3) := by decide +kernel
theorem dL_law_521 : decode cL_law 521 = .ok (.land, 1) := by decide +kernel
theorem dL_law_522 : decode cL_law 522 = .ok (.lor, 1) := by decide +kernel
theorem dL_law_523 : decode cL_law 523 = .ok (.aload_n 0, 1) := by decide +kernel
theorem dL_law_524 : decode cL_law 524 = .ok (.iload_n 3, 1) := by decide +kernel
theorem dL_law_525 : decode cL_law 525 = .ok (.iconst 3, 1) := by decide +kernel
theorem dL_law_526 : decode cL_law 526 = .ok (.iadd, 1) := by decide +kernel
theorem dL_law_527 : decode cL_law 527 = .ok (.iaload, 1) := by decide +kernel
theorem dL_law_528 : decode cL_law 528 = .ok (.invokevirtual 52, 3) := by decide +kernel
theorem dL_law_531 : decode cL_law 531 = .ok (.aload_n 2, 1) := by decide +kernel
theorem dL_law_532 : decode cL_law 532 = .ok (.aload_n 0, 1) := by decide +kernel
theorem dL_law_533 : decode cL_law 533 = .ok (.iload_n 3, 1) := by decide +kernel
theorem dL_law_534 : decode cL_law 534 = .ok (.iconst 1, 1) := by decide +kernel
theorem dL_law_535 : decode cL_law 535 = .ok (.iadd, 1) := by decide +kernel
theorem dL_law_536 : decode cL_law 536 = .ok (.iaload, 1) := by decide +kernel
theorem dL_law_537 : decode cL_law 537 = .ok (.i2l, 1) := by decide +kernel
theorem dL_law_538 : decode cL_law 538 = .ok (.bipush 32, 2) := by decide +kernel
theorem dL_law_540 : decode cL_law 540 = .ok (.lshl, 1) := by decide +kernel
theorem dL_law_541 : decode cL_law 541 = .ok (.aload_n 0, 1) := by decide +kernel
theorem dL_law_542 : decode cL_law 542 = .ok (.iload_n 3, 1) := by decide +kernel
theorem dL_law_543 : decode cL_law 543 = .ok (.iconst 2, 1) := by decide +kernel
theorem dL_law_544 : decode cL_law 544 = .ok (.iadd, 1) := by decide +kernel
theorem dL_law_545 : decode cL_law 545 = .ok (.iaload, 1) := by decide +kernel
theorem dL_law_546 : decode cL_law 546 = .ok (.i2l, 1) := by decide +kernel
theorem dL_law_547 : decode cL_law 547 = .ok (.ldc2_w 50, 3) := by decide +kernel
theorem dL_law_550 : decode cL_law 550 = .ok (.land, 1) := by decide +kernel
theorem dL_law_551 : decode cL_law 551 = .ok (.lor, 1) := by decide +kernel
theorem dL_law_552 : decode cL_law 552 = .ok (.aload_n 0, 1) := by decide +kernel
theorem dL_law_553 : decode cL_law 553 = .ok (.iload_n 3, 1) := by decide +kernel
theorem dL_law_554 : decode cL_law 554 = .ok (.iconst 3, 1) := by decide +kernel
theorem dL_law_555 : decode cL_law 555 = .ok (.iadd, 1) := by decide +kernel
theorem dL_law_556 : decode cL_law 556 = .ok (.iaload, 1) := by decide +kernel
theorem dL_law_557 : decode cL_law 557 = .ok (.invokevirtual 56, 3) := by decide +kernel
theorem dL_law_560 : decode cL_law 560 = .ok (.if_icmp .eq 1108, 3) := by decide +kernel
theorem dL_law_563 : decode cL_law 563 = .ok (.iconst 0, 1) := by decide +kernel
theorem dL_law_564 : decode cL_law 564 = .ok (.ireturn, 1) := by decide +kernel
theorem dL_law_565 : decode cL_law 565 = .ok (.aload_n 1, 1) := by decide +kernel
theorem dL_law_566 : decode cL_law 566 = .ok (.invokevirtual 57, 3) := by decide +kernel
theorem dL_law_569 : decode cL_law 569 = .ok (.aload_n 2, 1) := by decide +kernel
theorem dL_law_570 : decode cL_law 570 = .ok (.invokevirtual 60, 3) := by decide +kernel
theorem dL_law_573 : decode cL_law 573 = .ok (.if_icmp .eq 1095, 3) := by decide +kernel
theorem dL_law_576 : decode cL_law 576 = .ok (.iconst 0, 1) := by decide +kernel
theorem dL_law_577 : decode cL_law 577 = .ok (.ireturn, 1) := by decide +kernel
theorem dL_law_578 : decode cL_law 578 = .ok (.aload_n 1, 1) := by decide +kernel
theorem dL_law_579 : decode cL_law 579 = .ok (.invokevirtual 61, 3) := by decide +kernel
theorem dL_law_582 : decode cL_law 582 = .ok (.aload_n 2, 1) := by decide +kernel
theorem dL_law_583 : decode cL_law 583 = .ok (.invokevirtual 64, 3) := by decide +kernel
theorem dL_law_586 : decode cL_law 586 = .ok (.if_icmp .eq 1082, 3) := by decide +kernel
theorem dL_law_589 : decode cL_law 589 = .ok (.iconst 0, 1) := by decide +kernel
theorem dL_law_590 : decode cL_law 590 = .ok (.ireturn, 1) := by decide +kernel
theorem dL_law_591 : decode cL_law 591 = .ok (.aload_n 1, 1) := by decide +kernel
theorem dL_law_592 : decode cL_law 592 = .ok (.aload_n 0, 1) := by decide +kernel
theorem dL_law_593 : decode cL_law 593 = .ok (.iload_n 3, 1) := by decide +kernel
theorem dL_law_594 : decode cL_law 594 = .ok (.iconst 1, 1) := by decide +kernel
theorem dL_law_595 : decode cL_law 595 = .ok (.iadd, 1) := by decide +kernel
theorem dL_law_596 : decode cL_law 596 = .ok (.iaload, 1) := by decide +kernel
theorem dL_law_597 : decode cL_law 597 = .ok (.invokevirtual 65, 3) := by decide +kernel
theorem dL_law_600 : decode cL_law 600 = .ok (.aload_n 2, 1) := by decide +kernel
theorem dL_law_601 : decode cL_law 601 = .ok (.aload_n 0, 1) := by decide +kernel
theorem dL_law_602 : decode cL_law 602 = .ok (.iload_n 3, 1) := by decide +kernel
theorem dL_law_603 : decode cL_law 603 = .ok (.iconst 1, 1) := by decide +kernel
theorem dL_law_604 : decode cL_law 604 = .ok (.iadd, 1) := by decide +kernel
theorem dL_law_605 : decode cL_law 605 = .ok (.iaload, 1) := by decide +kernel
theorem dL_law_606 : decode cL_law 606 = .ok (.invokevirtual 68, 3) := by decide +kernel
theorem dL_law_609 : decode cL_law 609 = .ok (.if_icmp .eq 1059, 3) := by decide +kernel
theorem dL_law_612 : decode cL_law 612 = .ok (.iconst 0, 1) := by decide +kernel
theorem dL_law_613 : decode cL_law 613 = .ok (.ireturn, 1) := by decide +kernel
theorem dL_law_614 : decode cL_law 614 = .ok (.aload_n 1, 1) := by decide +kernel
theorem dL_law_615 : decode cL_law 615 = .ok (.aload_n 0, 1) := by decide +kernel
theorem dL_law_616 : decode cL_law 616 = .ok (.iload_n 3, 1) := by decide +kernel
theorem dL_law_617 : decode cL_law 617 = .ok (.iconst 1, 1) := by decide +kernel
theorem dL_law_618 : decode cL_law 618 = .ok (.iadd, 1) := by decide +kernel
theorem dL_law_619 : decode cL_law 619 = .ok (.iaload, 1) := by decide +kernel
theorem dL_law_620 : decode cL_law 620 = .ok (.invokevirtual 69, 3) := by decide +kernel
theorem dL_law_623 : decode cL_law 623 = .ok (.aload_n 2, 1) := by decide +kernel
theorem dL_law_624 : decode cL_law 624 = .ok (.aload_n 0, 1) := by decide +kernel
theorem dL_law_625 : decode cL_law 625 = .ok (.iload_n 3, 1) := by decide +kernel
theorem dL_law_626 : decode cL_law 626 = .ok (.iconst 1, 1) := by decide +kernel
theorem dL_law_627 : decode cL_law 627 = .ok (.iadd, 1) := by decide +kernel
theorem dL_law_628 : decode cL_law 628 = .ok (.iaload, 1) := by decide +kernel
theorem dL_law_629 : decode cL_law 629 = .ok (.invokevirtual 72, 3) := by decide +kernel
theorem dL_law_632 : decode cL_law 632 = .ok (.if_icmp .eq 1036, 3) := by decide +kernel
theorem dL_law_635 : decode cL_law 635 = .ok (.iconst 0, 1) := by decide +kernel
theorem dL_law_636 : decode cL_law 636 = .ok (.ireturn, 1) := by decide +kernel
theorem dL_law_637 : decode cL_law 637 = .ok (.aload_n 1, 1) := by decide +kernel
theorem dL_law_638 : decode cL_law 638 = .ok (.aload_n 0, 1) := by decide +kernel
theorem dL_law_639 : decode cL_law 639 = .ok (.iload_n 3, 1) := by decide +kernel
theorem dL_law_640 : decode cL_law 640 = .ok (.iconst 1, 1) := by decide +kernel
theorem dL_law_641 : decode cL_law 641 = .ok (.iadd, 1) := by decide +kernel
theorem dL_law_642 : decode cL_law 642 = .ok (.iaload, 1) := by decide +kernel
theorem dL_law_643 : decode cL_law 643 = .ok (.invokevirtual 73, 3) := by decide +kernel
theorem dL_law_646 : decode cL_law 646 = .ok (.aload_n 2, 1) := by decide +kernel
theorem dL_law_647 : decode cL_law 647 = .ok (.aload_n 0, 1) := by decide +kernel
theorem dL_law_648 : decode cL_law 648 = .ok (.iload_n 3, 1) := by decide +kernel
theorem dL_law_649 : decode cL_law 649 = .ok (.iconst 1, 1) := by decide +kernel
theorem dL_law_650 : decode cL_law 650 = .ok (.iadd, 1) := by decide +kernel
theorem dL_law_651 : decode cL_law 651 = .ok (.iaload, 1) := by decide +kernel
theorem dL_law_652 : decode cL_law 652 = .ok (.invokevirtual 76, 3) := by decide +kernel
theorem dL_law_655 : decode cL_law 655 = .ok (.if_icmp .eq 1013, 3) := by decide +kernel
theorem dL_law_658 : decode cL_law 658 = .ok (.iconst 0, 1) := by decide +kernel
theorem dL_law_659 : decode cL_law 659 = .ok (.ireturn, 1) := by decide +kernel
theorem dL_law_660 : decode cL_law 660 = .ok (.aload_n 1, 1) := by decide +kernel
theorem dL_law_661 : decode cL_law 661 = .ok (.aload_n 0, 1) := by decide +kernel
theorem dL_law_662 : decode cL_law 662 = .ok (.iload_n 3, 1) := by decide +kernel
theorem dL_law_663 : decode cL_law 663 = .ok (.iconst 1, 1) := by decide +kernel
theorem dL_law_664 : decode cL_law 664 = .ok (.iadd, 1) := by decide +kernel
theorem dL_law_665 : decode cL_law 665 = .ok (.iaload, 1) := by decide +kernel
theorem dL_law_666 : decode cL_law 666 = .ok (.invokevirtual 77, 3) := by decide +kernel
theorem dL_law_669 : decode cL_law 669 = .ok (.aload_n 2, 1) := by decide +kernel
theorem dL_law_670 : decode cL_law 670 = .ok (.aload_n 0, 1) := by decide +kernel
theorem dL_law_671 : decode cL_law 671 = .ok (.iload_n 3, 1) := by decide +kernel
theorem dL_law_672 : decode cL_law 672 = .ok (.iconst 1, 1) := by decide +kernel
theorem dL_law_673 : decode cL_law 673 = .ok (.iadd, 1) := by decide +kernel
theorem dL_law_674 : decode cL_law 674 = .ok (.iaload, 1) := by decide +kernel
theorem dL_law_675 : decode cL_law 675 = .ok (.invokevirtual 80, 3) := by decide +kernel
theorem dL_law_678 : decode cL_law 678 = .ok (.if_icmp .eq 990, 3) := by decide +kernel
theorem dL_law_681 : decode cL_law 681 = .ok (.iconst 0, 1) := by decide +kernel
theorem dL_law_682 : decode cL_law 682 = .ok (.ireturn, 1) := by decide +kernel
theorem dL_law_683 : decode cL_law 683 = .ok (.aload_n 1, 1) := by decide +kernel
theorem dL_law_684 : decode cL_law 684 = .ok (.aload_n 0, 1) := by decide +kernel
theorem dL_law_685 : decode cL_law 685 = .ok (.iload_n 3, 1) := by decide +kernel
theorem dL_law_686 : decode cL_law 686 = .ok (.iconst 1, 1) := by decide +kernel
theorem dL_law_687 : decode cL_law 687 = .ok (.iadd, 1) := by decide +kernel
theorem dL_law_688 : decode cL_law 688 = .ok (.iaload, 1) := by decide +kernel
theorem dL_law_689 : decode cL_law 689 = .ok (.invokevirtual 81, 3) := by decide +kernel
theorem dL_law_692 : decode cL_law 692 = .ok (.aload_n 2, 1) := by decide +kernel
theorem dL_law_693 : decode cL_law 693 = .ok (.aload_n 0, 1) := by decide +kernel
theorem dL_law_694 : decode cL_law 694 = .ok (.iload_n 3, 1) := by decide +kernel
theorem dL_law_695 : decode cL_law 695 = .ok (.iconst 1, 1) := by decide +kernel
theorem dL_law_696 : decode cL_law 696 = .ok (.iadd, 1) := by decide +kernel
theorem dL_law_697 : decode cL_law 697 = .ok (.iaload, 1) := by decide +kernel
theorem dL_law_698 : decode cL_law 698 = .ok (.invokevirtual 84, 3) := by decide +kernel
theorem dL_law_701 : decode cL_law 701 = .ok (.if_icmp .eq 967, 3) := by decide +kernel
theorem dL_law_704 : decode cL_law 704 = .ok (.iconst 0, 1) := by decide +kernel
theorem dL_law_705 : decode cL_law 705 = .ok (.ireturn, 1) := by decide +kernel
theorem dL_law_706 : decode cL_law 706 = .ok (.aload_n 1, 1) := by decide +kernel
theorem dL_law_707 : decode cL_law 707 = .ok (.invokevirtual 85, 3) := by decide +kernel
theorem dL_law_710 : decode cL_law 710 = .ok (.aload_n 2, 1) := by decide +kernel
theorem dL_law_711 : decode cL_law 711 = .ok (.invokevirtual 88, 3) := by decide +kernel
theorem dL_law_714 : decode cL_law 714 = .ok (.if_icmp .eq 954, 3) := by decide +kernel
theorem dL_law_717 : decode cL_law 717 = .ok (.iconst 0, 1) := by decide +kernel
theorem dL_law_718 : decode cL_law 718 = .ok (.ireturn, 1) := by decide +kernel
theorem dL_law_719 : decode cL_law 719 = .ok (.aload_n 1, 1) := by decide +kernel
theorem dL_law_720 : decode cL_law 720 = .ok (.aload_n 0, 1) := by decide +kernel
theorem dL_law_721 : decode cL_law 721 = .ok (.iload_n 3, 1) := by decide +kernel
theorem dL_law_722 : decode cL_law 722 = .ok (.iconst 1, 1) := by decide +kernel
theorem dL_law_723 : decode cL_law 723 = .ok (.iadd, 1) := by decide +kernel
theorem dL_law_724 : decode cL_law 724 = .ok (.iaload, 1) := by decide +kernel
theorem dL_law_725 : decode cL_law 725 = .ok (.invokevirtual 89, 3) := by decide +kernel
theorem dL_law_728 : decode cL_law 728 = .ok (.aload_n 2, 1) := by decide +kernel
theorem dL_law_729 : decode cL_law 729 = .ok (.aload_n 0, 1) := by decide +kernel
theorem dL_law_730 : decode cL_law 730 = .ok (.iload_n 3, 1) := by decide +kernel
theorem dL_law_731 : decode cL_law 731 = .ok (.iconst 1, 1) := by decide +kernel
theorem dL_law_732 : decode cL_law 732 = .ok (.iadd, 1) := by decide +kernel
theorem dL_law_733 : decode cL_law 733 = .ok (.iaload, 1) := by decide +kernel
theorem dL_law_734 : decode cL_law 734 = .ok (.invokevirtual 92, 3) := by decide +kernel
theorem dL_law_737 : decode cL_law 737 = .ok (.if_icmp .eq 931, 3) := by decide +kernel
theorem dL_law_740 : decode cL_law 740 = .ok (.iconst 0, 1) := by decide +kernel
theorem dL_law_741 : decode cL_law 741 = .ok (.ireturn, 1) := by decide +kernel
theorem dL_law_742 : decode cL_law 742 = .ok (.aload_n 1, 1) := by decide +kernel
theorem dL_law_743 : decode cL_law 743 = .ok (.aload_n 0, 1) := by decide +kernel
theorem dL_law_744 : decode cL_law 744 = .ok (.iload_n 3, 1) := by decide +kernel
theorem dL_law_745 : decode cL_law 745 = .ok (.iconst 1, 1) := by decide +kernel
theorem dL_law_746 : decode cL_law 746 = .ok (.iadd, 1) := by decide +kernel
theorem dL_law_747 : decode cL_law 747 = .ok (.iaload, 1) := by decide +kernel
theorem dL_law_748 : decode cL_law 748 = .ok (.invokevirtual 93, 3) := by decide +kernel
theorem dL_law_751 : decode cL_law 751 = .ok (.aload_n 2, 1) := by decide +kernel
theorem dL_law_752 : decode cL_law 752 = .ok (.aload_n 0, 1) := by decide +kernel
theorem dL_law_753 : decode cL_law 753 = .ok (.iload_n 3, 1) := by decide +kernel
theorem dL_law_754 : decode cL_law 754 = .ok (.iconst 1, 1) := by decide +kernel
theorem dL_law_755 : decode cL_law 755 = .ok (.iadd, 1) := by decide +kernel
theorem dL_law_756 : decode cL_law 756 = .ok (.iaload, 1) := by decide +kernel
theorem dL_law_757 : decode cL_law 757 = .ok (.invokevirtual 96, 3) := by decide +kernel
theorem dL_law_760 : decode cL_law 760 = .ok (.if_icmp .eq 908, 3) := by decide +kernel
theorem dL_law_763 : decode cL_law 763 = .ok (.iconst 0, 1) := by decide +kernel
theorem dL_law_764 : decode cL_law 764 = .ok (.ireturn, 1) := by decide +kernel
theorem dL_law_765 : decode cL_law 765 = .ok (.aload_n 1, 1) := by decide +kernel
theorem dL_law_766 : decode cL_law 766 = .ok (.aload_n 0, 1) := by decide +kernel
theorem dL_law_767 : decode cL_law 767 = .ok (.iload_n 3, 1) := by decide +kernel
theorem dL_law_768 : decode cL_law 768 = .ok (.iconst 1, 1) := by decide +kernel
theorem dL_law_769 : decode cL_law 769 = .ok (.iadd, 1) := by decide +kernel
theorem dL_law_770 : decode cL_law 770 = .ok (.iaload, 1) := by decide +kernel
theorem dL_law_771 : decode cL_law 771 = .ok (.invokevirtual 97, 3) := by decide +kernel
theorem dL_law_774 : decode cL_law 774 = .ok (.aload_n 2, 1) := by decide +kernel
theorem dL_law_775 : decode cL_law 775 = .ok (.aload_n 0, 1) := by decide +kernel
theorem dL_law_776 : decode cL_law 776 = .ok (.iload_n 3, 1) := by decide +kernel
theorem dL_law_777 : decode cL_law 777 = .ok (.iconst 1, 1) := by decide +kernel
theorem dL_law_778 : decode cL_law 778 = .ok (.iadd, 1) := by decide +kernel
theorem dL_law_779 : decode cL_law 779 = .ok (.iaload, 1) := by decide +kernel
theorem dL_law_780 : decode cL_law 780 = .ok (.invokevirtual 100, 3) := by decide +kernel
theorem dL_law_783 : decode cL_law 783 = .ok (.if_icmp .eq 885, 3) := by decide +kernel
theorem dL_law_786 : decode cL_law 786 = .ok (.iconst 0, 1) := by decide +kernel
theorem dL_law_787 : decode cL_law 787 = .ok (.ireturn, 1) := by decide +kernel
theorem dL_law_788 : decode cL_law 788 = .ok (.aload_n 1, 1) := by decide +kernel
theorem dL_law_789 : decode cL_law 789 = .ok (.aload_n 0, 1) := by decide +kernel
theorem dL_law_790 : decode cL_law 790 = .ok (.iload_n 3, 1) := by decide +kernel
theorem dL_law_791 : decode cL_law 791 = .ok (.iconst 1, 1) := by decide +kernel
theorem dL_law_792 : decode cL_law 792 = .ok (.iadd, 1) := by decide +kernel
theorem dL_law_793 : decode cL_law 793 = .ok (.iaload, 1) := by decide +kernel
theorem dL_law_794 : decode cL_law 794 = .ok (.invokevirtual 101, 3) := by decide +kernel
theorem dL_law_797 : decode cL_law 797 = .ok (.aload_n 2, 1) := by decide +kernel
theorem dL_law_798 : decode cL_law 798 = .ok (.aload_n 0, 1) := by decide +kernel
theorem dL_law_799 : decode cL_law 799 = .ok (.iload_n 3, 1) := by decide +kernel
theorem dL_law_800 : decode cL_law 800 = .ok (.iconst 1, 1) := by decide +kernel
theorem dL_law_801 : decode cL_law 801 = .ok (.iadd, 1) := by decide +kernel
theorem dL_law_802 : decode cL_law 802 = .ok (.iaload, 1) := by decide +kernel
theorem dL_law_803 : decode cL_law 803 = .ok (.invokevirtual 104, 3) := by decide +kernel
theorem dL_law_806 : decode cL_law 806 = .ok (.if_icmp .eq 862, 3) := by decide +kernel
theorem dL_law_809 : decode cL_law 809 = .ok (.iconst 0, 1) := by decide +kernel
theorem dL_law_810 : decode cL_law 810 = .ok (.ireturn, 1) := by decide +kernel
theorem dL_law_811 : decode cL_law 811 = .ok (.aload_n 1, 1) := by decide +kernel
theorem dL_law_812 : decode cL_law 812 = .ok (.aload_n 0, 1) := by decide +kernel
theorem dL_law_813 : decode cL_law 813 = .ok (.iload_n 3, 1) := by decide +kernel
theorem dL_law_814 : decode cL_law 814 = .ok (.iconst 1, 1) := by decide +kernel
theorem dL_law_815 : decode cL_law 815 = .ok (.iadd, 1) := by decide +kernel
theorem dL_law_816 : decode cL_law 816 = .ok (.iaload, 1) := by decide +kernel
theorem dL_law_817 : decode cL_law 817 = .ok (.aload_n 0, 1) := by decide +kernel
theorem dL_law_818 : decode cL_law 818 = .ok (.iload_n 3, 1) := by decide +kernel
theorem dL_law_819 : decode cL_law 819 = .ok (.iconst 2, 1) := by decide +kernel
theorem dL_law_820 : decode cL_law 820 = .ok (.iadd, 1) := by decide +kernel
theorem dL_law_821 : decode cL_law 821 = .ok (.iaload, 1) := by decide +kernel
theorem dL_law_822 : decode cL_law 822 = .ok (.invokevirtual 105, 3) := by decide +kernel
theorem dL_law_825 : decode cL_law 825 = .ok (.aload_n 2, 1) := by decide +kernel
theorem dL_law_826 : decode cL_law 826 = .ok (.aload_n 0, 1) := by decide +kernel
theorem dL_law_827 : decode cL_law 827 = .ok (.iload_n 3, 1) := by decide +kernel
theorem dL_law_828 : decode cL_law 828 = .ok (.iconst 1, 1) := by decide +kernel
theorem dL_law_829 : decode cL_law 829 = .ok (.iadd, 1) := by decide +kernel
theorem dL_law_830 : decode cL_law 830 = .ok (.iaload, 1) := by decide +kernel
theorem dL_law_831 : decode cL_law 831 = .ok (.aload_n 0, 1) := by decide +kernel
theorem dL_law_832 : decode cL_law 832 = .ok (.iload_n 3, 1) := by decide +kernel
theorem dL_law_833 : decode cL_law 833 = .ok (.iconst 2, 1) := by decide +kernel
theorem dL_law_834 : decode cL_law 834 = .ok (.iadd, 1) := by decide +kernel
theorem dL_law_835 : decode cL_law 835 = .ok (.iaload, 1) := by decide +kernel
theorem dL_law_836 : decode cL_law 836 = .ok (.invokevirtual 108, 3) := by decide +kernel
theorem dL_law_839 : decode cL_law 839 = .ok (.if_icmp .eq 829, 3) := by decide +kernel
theorem dL_law_842 : decode cL_law 842 = .ok (.iconst 0, 1) := by decide +kernel
theorem dL_law_843 : decode cL_law 843 = .ok (.ireturn, 1) := by decide +kernel
theorem dL_law_844 : decode cL_law 844 = .ok (.aload_n 1, 1) := by decide +kernel
theorem dL_law_845 : decode cL_law 845 = .ok (.aload_n 0, 1) := by decide +kernel
theorem dL_law_846 : decode cL_law 846 = .ok (.iload_n 3, 1) := by decide +kernel
theorem dL_law_847 : decode cL_law 847 = .ok (.iconst 1, 1) := by decide +kernel
theorem dL_law_848 : decode cL_law 848 = .ok (.iadd, 1) := by decide +kernel
theorem dL_law_849 : decode cL_law 849 = .ok (.iaload, 1) := by decide +kernel
theorem dL_law_850 : decode cL_law 850 = .ok (.invokevirtual 109, 3) := by decide +kernel
theorem dL_law_853 : decode cL_law 853 = .ok (.aload_n 2, 1) := by decide +kernel
theorem dL_law_854 : decode cL_law 854 = .ok (.aload_n 0, 1) := by decide +kernel
theorem dL_law_855 : decode cL_law 855 = .ok (.iload_n 3, 1) := by decide +kernel
theorem dL_law_856 : decode cL_law 856 = .ok (.iconst 1, 1) := by decide +kernel
theorem dL_law_857 : decode cL_law 857 = .ok (.iadd, 1) := by decide +kernel
theorem dL_law_858 : decode cL_law 858 = .ok (.iaload, 1) := by decide +kernel
theorem dL_law_859 : decode cL_law 859 = .ok (.invokevirtual 112, 3) := by decide +kernel
theorem dL_law_862 : decode cL_law 862 = .ok (.if_icmp .eq 806, 3) := by decide +kernel
theorem dL_law_865 : decode cL_law 865 = .ok (.iconst 0, 1) := by decide +kernel
theorem dL_law_866 : decode cL_law 866 = .ok (.ireturn, 1) := by decide +kernel
theorem dL_law_867 : decode cL_law 867 = .ok (.aload_n 1, 1) := by decide +kernel
theorem dL_law_868 : decode cL_law 868 = .ok (.aload_n 0, 1) := by decide +kernel
theorem dL_law_869 : decode cL_law 869 = .ok (.iload_n 3, 1) := by decide +kernel
theorem dL_law_870 : decode cL_law 870 = .ok (.iconst 1, 1) := by decide +kernel
theorem dL_law_871 : decode cL_law 871 = .ok (.iadd, 1) := by decide +kernel
theorem dL_law_872 : decode cL_law 872 = .ok (.iaload, 1) := by decide +kernel
theorem dL_law_873 : decode cL_law 873 = .ok (.aload_n 0, 1) := by decide +kernel
theorem dL_law_874 : decode cL_law 874 = .ok (.iload_n 3, 1) := by decide +kernel
theorem dL_law_875 : decode cL_law 875 = .ok (.iconst 2, 1) := by decide +kernel
theorem dL_law_876 : decode cL_law 876 = .ok (.iadd, 1) := by decide +kernel
theorem dL_law_877 : decode cL_law 877 = .ok (.iaload, 1) := by decide +kernel
theorem dL_law_878 : decode cL_law 878 = .ok (.invokevirtual 113, 3) := by decide +kernel
theorem dL_law_881 : decode cL_law 881 = .ok (.aload_n 2, 1) := by decide +kernel
theorem dL_law_882 : decode cL_law 882 = .ok (.aload_n 0, 1) := by decide +kernel
theorem dL_law_883 : decode cL_law 883 = .ok (.iload_n 3, 1) := by decide +kernel
theorem dL_law_884 : decode cL_law 884 = .ok (.iconst 1, 1) := by decide +kernel
theorem dL_law_885 : decode cL_law 885 = .ok (.iadd, 1) := by decide +kernel
theorem dL_law_886 : decode cL_law 886 = .ok (.iaload, 1) := by decide +kernel
theorem dL_law_887 : decode cL_law 887 = .ok (.aload_n 0, 1) := by decide +kernel
theorem dL_law_888 : decode cL_law 888 = .ok (.iload_n 3, 1) := by decide +kernel
theorem dL_law_889 : decode cL_law 889 = .ok (.iconst 2, 1) := by decide +kernel
theorem dL_law_890 : decode cL_law 890 = .ok (.iadd, 1) := by decide +kernel
theorem dL_law_891 : decode cL_law 891 = .ok (.iaload, 1) := by decide +kernel
theorem dL_law_892 : decode cL_law 892 = .ok (.invokevirtual 116, 3) := by decide +kernel
theorem dL_law_895 : decode cL_law 895 = .ok (.if_icmp .eq 773, 3) := by decide +kernel
theorem dL_law_898 : decode cL_law 898 = .ok (.iconst 0, 1) := by decide +kernel
theorem dL_law_899 : decode cL_law 899 = .ok (.ireturn, 1) := by decide +kernel
theorem dL_law_900 : decode cL_law 900 = .ok (.aload_n 1, 1) := by decide +kernel
theorem dL_law_901 : decode cL_law 901 = .ok (.aload_n 0, 1) := by decide +kernel
theorem dL_law_902 : decode cL_law 902 = .ok (.iload_n 3, 1) := by decide +kernel
theorem dL_law_903 : decode cL_law 903 = .ok (.iconst 1, 1) := by decide +kernel
theorem dL_law_904 : decode cL_law 904 = .ok (.iadd, 1) := by decide +kernel
theorem dL_law_905 : decode cL_law 905 = .ok (.iaload, 1) := by decide +kernel
theorem dL_law_906 : decode cL_law 906 = .ok (.aload_n 0, 1) := by decide +kernel
theorem dL_law_907 : decode cL_law 907 = .ok (.iload_n 3, 1) := by decide +kernel
theorem dL_law_908 : decode cL_law 908 = .ok (.iconst 2, 1) := by decide +kernel
theorem dL_law_909 : decode cL_law 909 = .ok (.iadd, 1) := by decide +kernel
theorem dL_law_910 : decode cL_law 910 = .ok (.iaload, 1) := by decide +kernel
theorem dL_law_911 : decode cL_law 911 = .ok (.invokevirtual 117, 3) := by decide +kernel
theorem dL_law_914 : decode cL_law 914 = .ok (.aload_n 2, 1) := by decide +kernel
theorem dL_law_915 : decode cL_law 915 = .ok (.aload_n 0, 1) := by decide +kernel
theorem dL_law_916 : decode cL_law 916 = .ok (.iload_n 3, 1) := by decide +kernel
theorem dL_law_917 : decode cL_law 917 = .ok (.iconst 1, 1) := by decide +kernel
theorem dL_law_918 : decode cL_law 918 = .ok (.iadd, 1) := by decide +kernel
theorem dL_law_919 : decode cL_law 919 = .ok (.iaload, 1) := by decide +kernel
theorem dL_law_920 : decode cL_law 920 = .ok (.aload_n 0, 1) := by decide +kernel
theorem dL_law_921 : decode cL_law 921 = .ok (.iload_n 3, 1) := by decide +kernel
theorem dL_law_922 : decode cL_law 922 = .ok (.iconst 2, 1) := by decide +kernel
theorem dL_law_923 : decode cL_law 923 = .ok (.iadd, 1) := by decide +kernel
theorem dL_law_924 : decode cL_law 924 = .ok (.iaload, 1) := by decide +kernel
theorem dL_law_925 : decode cL_law 925 = .ok (.invokevirtual 120, 3) := by decide +kernel
theorem dL_law_928 : decode cL_law 928 = .ok (.if_icmp .eq 740, 3) := by decide +kernel
theorem dL_law_931 : decode cL_law 931 = .ok (.iconst 0, 1) := by decide +kernel
theorem dL_law_932 : decode cL_law 932 = .ok (.ireturn, 1) := by decide +kernel
theorem dL_law_933 : decode cL_law 933 = .ok (.aload_n 1, 1) := by decide +kernel
theorem dL_law_934 : decode cL_law 934 = .ok (.aload_n 0, 1) := by decide +kernel
theorem dL_law_935 : decode cL_law 935 = .ok (.iload_n 3, 1) := by decide +kernel
theorem dL_law_936 : decode cL_law 936 = .ok (.iconst 1, 1) := by decide +kernel
theorem dL_law_937 : decode cL_law 937 = .ok (.iadd, 1) := by decide +kernel
theorem dL_law_938 : decode cL_law 938 = .ok (.iaload, 1) := by decide +kernel
theorem dL_law_939 : decode cL_law 939 = .ok (.invokevirtual 121, 3) := by decide +kernel
theorem dL_law_942 : decode cL_law 942 = .ok (.aload_n 2, 1) := by decide +kernel
theorem dL_law_943 : decode cL_law 943 = .ok (.aload_n 0, 1) := by decide +kernel
theorem dL_law_944 : decode cL_law 944 = .ok (.iload_n 3, 1) := by decide +kernel
theorem dL_law_945 : decode cL_law 945 = .ok (.iconst 1, 1) := by decide +kernel
theorem dL_law_946 : decode cL_law 946 = .ok (.iadd, 1) := by decide +kernel
theorem dL_law_947 : decode cL_law 947 = .ok (.iaload, 1) := by decide +kernel
theorem dL_law_948 : decode cL_law 948 = .ok (.invokevirtual 124, 3) := by decide +kernel
theorem dL_law_951 : decode cL_law 951 = .ok (.if_icmp .eq 717, 3) := by decide +kernel
theorem dL_law_954 : decode cL_law 954 = .ok (.iconst 0, 1) := by decide +kernel
theorem dL_law_955 : decode cL_law 955 = .ok (.ireturn, 1) := by decide +kernel
theorem dL_law_956 : decode cL_law 956 = .ok (.aload_n 1, 1) := by decide +kernel
theorem dL_law_957 : decode cL_law 957 = .ok (.aload_n 0, 1) := by decide +kernel
theorem dL_law_958 : decode cL_law 958 = .ok (.iload_n 3, 1) := by decide +kernel
theorem dL_law_959 : decode cL_law 959 = .ok (.iconst 1, 1) := by decide +kernel
theorem dL_law_960 : decode cL_law 960 = .ok (.iadd, 1) := by decide +kernel
theorem dL_law_961 : decode cL_law 961 = .ok (.iaload, 1) := by decide +kernel
theorem dL_law_962 : decode cL_law 962 = .ok (.invokevirtual 125, 3) := by decide +kernel
theorem dL_law_965 : decode cL_law 965 = .ok (.aload_n 2, 1) := by decide +kernel
theorem dL_law_966 : decode cL_law 966 = .ok (.aload_n 0, 1) := by decide +kernel
theorem dL_law_967 : decode cL_law 967 = .ok (.iload_n 3, 1) := by decide +kernel
theorem dL_law_968 : decode cL_law 968 = .ok (.iconst 1, 1) := by decide +kernel
theorem dL_law_969 : decode cL_law 969 = .ok (.iadd, 1) := by decide +kernel
theorem dL_law_970 : decode cL_law 970 = .ok (.iaload, 1) := by decide +kernel
theorem dL_law_971 : decode cL_law 971 = .ok (.invokevirtual 128, 3) := by decide +kernel
theorem dL_law_974 : decode cL_law 974 = .ok (.if_icmp .eq 694, 3) := by decide +kernel
theorem dL_law_977 : decode cL_law 977 = .ok (.iconst 0, 1) := by decide +kernel
theorem dL_law_978 : decode cL_law 978 = .ok (.ireturn, 1) := by decide +kernel
theorem dL_law_979 : decode cL_law 979 = .ok (.aload_n 1, 1) := by decide +kernel
theorem dL_law_980 : decode cL_law 980 = .ok (.aload_n 0, 1) := by decide +kernel
theorem dL_law_981 : decode cL_law 981 = .ok (.iload_n 3, 1) := by decide +kernel
theorem dL_law_982 : decode cL_law 982 = .ok (.iconst 1, 1) := by decide +kernel
theorem dL_law_983 : decode cL_law 983 = .ok (.iadd, 1) := by decide +kernel
theorem dL_law_984 : decode cL_law 984 = .ok (.iaload, 1) := by decide +kernel
theorem dL_law_985 : decode cL_law 985 = .ok (.aload_n 0, 1) := by decide +kernel
theorem dL_law_986 : decode cL_law 986 = .ok (.iload_n 3, 1) := by decide +kernel
theorem dL_law_987 : decode cL_law 987 = .ok (.iconst 2, 1) := by decide +kernel
theorem dL_law_988 : decode cL_law 988 = .ok (.iadd, 1) := by decide +kernel
theorem dL_law_989 : decode cL_law 989 = .ok (.iaload, 1) := by decide +kernel
theorem dL_law_990 : decode cL_law 990 = .ok (.aload_n 0, 1) := by decide +kernel
theorem dL_law_991 : decode cL_law 991 = .ok (.iload_n 3, 1) := by decide +kernel
theorem dL_law_992 : decode cL_law 992 = .ok (.iconst 3, 1) := by decide +kernel
theorem dL_law_993 : decode cL_law 993 = .ok (.iadd, 1) := by decide +kernel
theorem dL_law_994 : decode cL_law 994 = .ok (.iaload, 1) := by decide +kernel
theorem dL_law_995 : decode cL_law 995 = .ok (.aload_n 0, 1) := by decide +kernel
theorem dL_law_996 : decode cL_law 996 = .ok (.iload_n 3, 1) := by decide +kernel
theorem dL_law_997 : decode cL_law 997 = .ok (.iconst 4, 1) := by decide +kernel
theorem dL_law_998 : decode cL_law 998 = .ok (.iadd, 1) := by decide +kernel
theorem dL_law_999 : decode cL_law 999 = .ok (.iaload, 1) := by decide +kernel
theorem dL_law_1000 : decode cL_law 1000 = .ok (.invokevirtual 129, 3) := by decide +kernel
theorem dL_law_1003 : decode cL_law 1003 = .ok (.aload_n 2, 1) := by decide +kernel
theorem dL_law_1004 : decode cL_law 1004 = .ok (.aload_n 0, 1) := by decide +kernel
theorem dL_law_1005 : decode cL_law 1005 = .ok (.iload_n 3, 1) := by decide +kernel
theorem dL_law_1006 : decode cL_law 1006 = .ok (.iconst 1, 1) := by decide +kernel
theorem dL_law_1007 : decode cL_law 1007 = .ok (.iadd, 1) := by decide +kernel
theorem dL_law_1008 : decode cL_law 1008 = .ok (.iaload, 1) := by decide +kernel
theorem dL_law_1009 : decode cL_law 1009 = .ok (.aload_n 0, 1) := by decide +kernel
theorem dL_law_1010 : decode cL_law 1010 = .ok (.iload_n 3, 1) := by decide +kernel
theorem dL_law_1011 : decode cL_law 1011 = .ok (.iconst 2, 1) := by decide +kernel
theorem dL_law_1012 : decode cL_law 1012 = .ok (.iadd, 1) := by decide +kernel
theorem dL_law_1013 : decode cL_law 1013 = .ok (.iaload, 1) := by decide +kernel
theorem dL_law_1014 : decode cL_law 1014 = .ok (.aload_n 0, 1) := by decide +kernel
theorem dL_law_1015 : decode cL_law 1015 = .ok (.iload_n 3, 1) := by decide +kernel
theorem dL_law_1016 : decode cL_law 1016 = .ok (.iconst 3, 1) := by decide +kernel
theorem dL_law_1017 : decode cL_law 1017 = .ok (.iadd, 1) := by decide +kernel
theorem dL_law_1018 : decode cL_law 1018 = .ok (.iaload, 1) := by decide +kernel
theorem dL_law_1019 : decode cL_law 1019 = .ok (.aload_n 0, 1) := by decide +kernel
theorem dL_law_1020 : decode cL_law 1020 = .ok (.iload_n 3, 1) := by decide +kernel
theorem dL_law_1021 : decode cL_law 1021 = .ok (.iconst 4, 1) := by decide +kernel
theorem dL_law_1022 : decode cL_law 1022 = .ok (.iadd, 1) := by decide +kernel
theorem dL_law_1023 : decode cL_law 1023 = .ok (.iaload, 1) := by decide +kernel
theorem dL_law_1024 : decode cL_law 1024 = .ok (.invokevirtual 132, 3) := by decide +kernel
theorem dL_law_1027 : decode cL_law 1027 = .ok (.if_icmp .eq 641, 3) := by decide +kernel
theorem dL_law_1030 : decode cL_law 1030 = .ok (.iconst 0, 1) := by decide +kernel
theorem dL_law_1031 : decode cL_law 1031 = .ok (.ireturn, 1) := by decide +kernel
theorem dL_law_1032 : decode cL_law 1032 = .ok (.aload_n 1, 1) := by decide +kernel
theorem dL_law_1033 : decode cL_law 1033 = .ok (.invokevirtual 133, 3) := by decide +kernel
theorem dL_law_1036 : decode cL_law 1036 = .ok (.aload_n 2, 1) := by decide +kernel
theorem dL_law_1037 : decode cL_law 1037 = .ok (.invokevirtual 136, 3) := by decide +kernel
theorem dL_law_1040 : decode cL_law 1040 = .ok (.if_icmp .eq 628, 3) := by decide +kernel
theorem dL_law_1043 : decode cL_law 1043 = .ok (.iconst 0, 1) := by decide +kernel
theorem dL_law_1044 : decode cL_law 1044 = .ok (.ireturn, 1) := by decide +kernel
theorem dL_law_1045 : decode cL_law 1045 = .ok (.aload_n 1, 1) := by decide +kernel
theorem dL_law_1046 : decode cL_law 1046 = .ok (.aload_n 0, 1) := by decide +kernel
theorem dL_law_1047 : decode cL_law 1047 = .ok (.iload_n 3, 1) := by decide +kernel
theorem dL_law_1048 : decode cL_law 1048 = .ok (.iconst 1, 1) := by decide +kernel
theorem dL_law_1049 : decode cL_law 1049 = .ok (.iadd, 1) := by decide +kernel
theorem dL_law_1050 : decode cL_law 1050 = .ok (.iaload, 1) := by decide +kernel
theorem dL_law_1051 : decode cL_law 1051 = .ok (.invokevirtual 137, 3) := by decide +kernel
theorem dL_law_1054 : decode cL_law 1054 = .ok (.aload_n 2, 1) := by decide +kernel
theorem dL_law_1055 : decode cL_law 1055 = .ok (.aload_n 0, 1) := by decide +kernel
theorem dL_law_1056 : decode cL_law 1056 = .ok (.iload_n 3, 1) := by decide +kernel
theorem dL_law_1057 : decode cL_law 1057 = .ok (.iconst 1, 1) := by decide +kernel
theorem dL_law_1058 : decode cL_law 1058 = .ok (.iadd, 1) := by decide +kernel
theorem dL_law_1059 : decode cL_law 1059 = .ok (.iaload, 1) := by decide +kernel
theorem dL_law_1060 : decode cL_law 1060 = .ok (.invokevirtual 140, 3) := by decide +kernel
theorem dL_law_1063 : decode cL_law 1063 = .ok (.if_icmp .eq 605, 3) := by decide +kernel
theorem dL_law_1066 : decode cL_law 1066 = .ok (.iconst 0, 1) := by decide +kernel
theorem dL_law_1067 : decode cL_law 1067 = .ok (.ireturn, 1) := by decide +kernel
theorem dL_law_1068 : decode cL_law 1068 = .ok (.aload_n 1, 1) := by decide +kernel
theorem dL_law_1069 : decode cL_law 1069 = .ok (.invokevirtual 141, 3) := by decide +kernel
theorem dL_law_1072 : decode cL_law 1072 = .ok (.aload_n 2, 1) := by decide +kernel
theorem dL_law_1073 : decode cL_law 1073 = .ok (.invokevirtual 144, 3) := by decide +kernel
theorem dL_law_1076 : decode cL_law 1076 = .ok (.if_icmp .eq 592, 3) := by decide +kernel
theorem dL_law_1079 : decode cL_law 1079 = .ok (.iconst 0, 1) := by decide +kernel
theorem dL_law_1080 : decode cL_law 1080 = .ok (.ireturn, 1) := by decide +kernel
theorem dL_law_1081 : decode cL_law 1081 = .ok (.aload_n 1, 1) := by decide +kernel
theorem dL_law_1082 : decode cL_law 1082 = .ok (.aload_n 0, 1) := by decide +kernel
theorem dL_law_1083 : decode cL_law 1083 = .ok (.iload_n 3, 1) := by decide +kernel
theorem dL_law_1084 : decode cL_law 1084 = .ok (.iconst 1, 1) := by decide +kernel
theorem dL_law_1085 : decode cL_law 1085 = .ok (.iadd, 1) := by decide +kernel
theorem dL_law_1086 : decode cL_law 1086 = .ok (.iaload, 1) := by decide +kernel
theorem dL_law_1087 : decode cL_law 1087 = .ok (.invokevirtual 145, 3) := by decide +kernel
theorem dL_law_1090 : decode cL_law 1090 = .ok (.aload_n 2, 1) := by decide +kernel
theorem dL_law_1091 : decode cL_law 1091 = .ok (.aload_n 0, 1) := by decide +kernel
theorem dL_law_1092 : decode cL_law 1092 = .ok (.iload_n 3, 1) := by decide +kernel
theorem dL_law_1093 : decode cL_law 1093 = .ok (.iconst 1, 1) := by decide +kernel
theorem dL_law_1094 : decode cL_law 1094 = .ok (.iadd, 1) := by decide +kernel
theorem dL_law_1095 : decode cL_law 1095 = .ok (.iaload, 1) := by decide +kernel
theorem dL_law_1096 : decode cL_law 1096 = .ok (.invokevirtual 148, 3) := by decide +kernel
theorem dL_law_1099 : decode cL_law 1099 = .ok (.if_icmp .eq 569, 3) := by decide +kernel
theorem dL_law_1102 : decode cL_law 1102 = .ok (.iconst 0, 1) := by decide +kernel
theorem dL_law_1103 : decode cL_law 1103 = .ok (.ireturn, 1) := by decide +kernel
theorem dL_law_1104 : decode cL_law 1104 = .ok (.aload_n 1, 1) := by decide +kernel
theorem dL_law_1105 : decode cL_law 1105 = .ok (.invokevirtual 149, 3) := by decide +kernel
theorem dL_law_1108 : decode cL_law 1108 = .ok (.aload_n 2, 1) := by decide +kernel
theorem dL_law_1109 : decode cL_law 1109 = .ok (.invokevirtual 152, 3) := by decide +kernel
theorem dL_law_1112 : decode cL_law 1112 = .ok (.if_icmp .eq 556, 3) := by decide +kernel
theorem dL_law_1115 : decode cL_law 1115 = .ok (.iconst 0, 1) := by decide +kernel
theorem dL_law_1116 : decode cL_law 1116 = .ok (.ireturn, 1) := by decide +kernel
theorem dL_law_1117 : decode cL_law 1117 = .ok (.aload_n 1, 1) := by decide +kernel
theorem dL_law_1118 : decode cL_law 1118 = .ok (.aload_n 0, 1) := by decide +kernel
theorem dL_law_1119 : decode cL_law 1119 = .ok (.iload_n 3, 1) := by decide +kernel
theorem dL_law_1120 : decode cL_law 1120 = .ok (.iconst 1, 1) := by decide +kernel
theorem dL_law_1121 : decode cL_law 1121 = .ok (.iadd, 1) := by decide +kernel
theorem dL_law_1122 : decode cL_law 1122 = .ok (.iaload, 1) := by decide +kernel
theorem dL_law_1123 : decode cL_law 1123 = .ok (.aload_n 0, 1) := by decide +kernel
theorem dL_law_1124 : decode cL_law 1124 = .ok (.iload_n 3, 1) := by decide +kernel
theorem dL_law_1125 : decode cL_law 1125 = .ok (.iconst 2, 1) := by decide +kernel
theorem dL_law_1126 : decode cL_law 1126 = .ok (.iadd, 1) := by decide +kernel
theorem dL_law_1127 : decode cL_law 1127 = .ok (.iaload, 1) := by decide +kernel
theorem dL_law_1128 : decode cL_law 1128 = .ok (.invokevirtual 153, 3) := by decide +kernel
theorem dL_law_1131 : decode cL_law 1131 = .ok (.aload_n 2, 1) := by decide +kernel
theorem dL_law_1132 : decode cL_law 1132 = .ok (.aload_n 0, 1) := by decide +kernel
theorem dL_law_1133 : decode cL_law 1133 = .ok (.iload_n 3, 1) := by decide +kernel
theorem dL_law_1134 : decode cL_law 1134 = .ok (.iconst 1, 1) := by decide +kernel
theorem dL_law_1135 : decode cL_law 1135 = .ok (.iadd, 1) := by decide +kernel
theorem dL_law_1136 : decode cL_law 1136 = .ok (.iaload, 1) := by decide +kernel
theorem dL_law_1137 : decode cL_law 1137 = .ok (.aload_n 0, 1) := by decide +kernel
theorem dL_law_1138 : decode cL_law 1138 = .ok (.iload_n 3, 1) := by decide +kernel
theorem dL_law_1139 : decode cL_law 1139 = .ok (.iconst 2, 1) := by decide +kernel
theorem dL_law_1140 : decode cL_law 1140 = .ok (.iadd, 1) := by decide +kernel
theorem dL_law_1141 : decode cL_law 1141 = .ok (.iaload, 1) := by decide +kernel
theorem dL_law_1142 : decode cL_law 1142 = .ok (.invokevirtual 156, 3) := by decide +kernel
theorem dL_law_1145 : decode cL_law 1145 = .ok (.if_icmp .eq 523, 3) := by decide +kernel
theorem dL_law_1148 : decode cL_law 1148 = .ok (.iconst 0, 1) := by decide +kernel
theorem dL_law_1149 : decode cL_law 1149 = .ok (.ireturn, 1) := by decide +kernel
theorem dL_law_1150 : decode cL_law 1150 = .ok (.aload_n 1, 1) := by decide +kernel
theorem dL_law_1151 : decode cL_law 1151 = .ok (.aload_n 0, 1) := by decide +kernel
theorem dL_law_1152 : decode cL_law 1152 = .ok (.iload_n 3, 1) := by decide +kernel
theorem dL_law_1153 : decode cL_law 1153 = .ok (.iconst 1, 1) := by decide +kernel
theorem dL_law_1154 : decode cL_law 1154 = .ok (.iadd, 1) := by decide +kernel
theorem dL_law_1155 : decode cL_law 1155 = .ok (.iaload, 1) := by decide +kernel
theorem dL_law_1156 : decode cL_law 1156 = .ok (.invokevirtual 157, 3) := by decide +kernel
theorem dL_law_1159 : decode cL_law 1159 = .ok (.aload_n 2, 1) := by decide +kernel
theorem dL_law_1160 : decode cL_law 1160 = .ok (.aload_n 0, 1) := by decide +kernel
theorem dL_law_1161 : decode cL_law 1161 = .ok (.iload_n 3, 1) := by decide +kernel
theorem dL_law_1162 : decode cL_law 1162 = .ok (.iconst 1, 1) := by decide +kernel
theorem dL_law_1163 : decode cL_law 1163 = .ok (.iadd, 1) := by decide +kernel
theorem dL_law_1164 : decode cL_law 1164 = .ok (.iaload, 1) := by decide +kernel
theorem dL_law_1165 : decode cL_law 1165 = .ok (.invokevirtual 160, 3) := by decide +kernel
theorem dL_law_1168 : decode cL_law 1168 = .ok (.if_icmp .eq 500, 3) := by decide +kernel
theorem dL_law_1171 : decode cL_law 1171 = .ok (.iconst 0, 1) := by decide +kernel
theorem dL_law_1172 : decode cL_law 1172 = .ok (.ireturn, 1) := by decide +kernel
theorem dL_law_1173 : decode cL_law 1173 = .ok (.aload_n 1, 1) := by decide +kernel
theorem dL_law_1174 : decode cL_law 1174 = .ok (.aload_n 0, 1) := by decide +kernel
theorem dL_law_1175 : decode cL_law 1175 = .ok (.iload_n 3, 1) := by decide +kernel
theorem dL_law_1176 : decode cL_law 1176 = .ok (.iconst 1, 1) := by decide +kernel
theorem dL_law_1177 : decode cL_law 1177 = .ok (.iadd, 1) := by decide +kernel
theorem dL_law_1178 : decode cL_law 1178 = .ok (.iaload, 1) := by decide +kernel
theorem dL_law_1179 : decode cL_law 1179 = .ok (.aload_n 0, 1) := by decide +kernel
theorem dL_law_1180 : decode cL_law 1180 = .ok (.iload_n 3, 1) := by decide +kernel
theorem dL_law_1181 : decode cL_law 1181 = .ok (.iconst 2, 1) := by decide +kernel
theorem dL_law_1182 : decode cL_law 1182 = .ok (.iadd, 1) := by decide +kernel
theorem dL_law_1183 : decode cL_law 1183 = .ok (.iaload, 1) := by decide +kernel
theorem dL_law_1184 : decode cL_law 1184 = .ok (.invokevirtual 161, 3) := by decide +kernel
theorem dL_law_1187 : decode cL_law 1187 = .ok (.aload_n 2, 1) := by decide +kernel
theorem dL_law_1188 : decode cL_law 1188 = .ok (.aload_n 0, 1) := by decide +kernel
theorem dL_law_1189 : decode cL_law 1189 = .ok (.iload_n 3, 1) := by decide +kernel
theorem dL_law_1190 : decode cL_law 1190 = .ok (.iconst 1, 1) := by decide +kernel
theorem dL_law_1191 : decode cL_law 1191 = .ok (.iadd, 1) := by decide +kernel
theorem dL_law_1192 : decode cL_law 1192 = .ok (.iaload, 1) := by decide +kernel
theorem dL_law_1193 : decode cL_law 1193 = .ok (.aload_n 0, 1) := by decide +kernel
theorem dL_law_1194 : decode cL_law 1194 = .ok (.iload_n 3, 1) := by decide +kernel
theorem dL_law_1195 : decode cL_law 1195 = .ok (.iconst 2, 1) := by decide +kernel
theorem dL_law_1196 : decode cL_law 1196 = .ok (.iadd, 1) := by decide +kernel
theorem dL_law_1197 : decode cL_law 1197 = .ok (.iaload, 1) := by decide +kernel
theorem dL_law_1198 : decode cL_law 1198 = .ok (.invokevirtual 164, 3) := by decide +kernel
theorem dL_law_1201 : decode cL_law 1201 = .ok (.if_icmp .eq 467, 3) := by decide +kernel
theorem dL_law_1204 : decode cL_law 1204 = .ok (.iconst 0, 1) := by decide +kernel
theorem dL_law_1205 : decode cL_law 1205 = .ok (.ireturn, 1) := by decide +kernel
theorem dL_law_1206 : decode cL_law 1206 = .ok (.aload_n 1, 1) := by decide +kernel
theorem dL_law_1207 : decode cL_law 1207 = .ok (.aload_n 0, 1) := by decide +kernel
theorem dL_law_1208 : decode cL_law 1208 = .ok (.iload_n 3, 1) := by decide +kernel
theorem dL_law_1209 : decode cL_law 1209 = .ok (.iconst 1, 1) := by decide +kernel
theorem dL_law_1210 : decode cL_law 1210 = .ok (.iadd, 1) := by decide +kernel
theorem dL_law_1211 : decode cL_law 1211 = .ok (.iaload, 1) := by decide +kernel
theorem dL_law_1212 : decode cL_law 1212 = .ok (.aload_n 0, 1) := by decide +kernel
theorem dL_law_1213 : decode cL_law 1213 = .ok (.iload_n 3, 1) := by decide +kernel
theorem dL_law_1214 : decode cL_law 1214 = .ok (.iconst 2, 1) := by decide +kernel
theorem dL_law_1215 : decode cL_law 1215 = .ok (.iadd, 1) := by decide +kernel
theorem dL_law_1216 : decode cL_law 1216 = .ok (.iaload, 1) := by decide +kernel
theorem dL_law_1217 : decode cL_law 1217 = .ok (.aload_n 0, 1) := by decide +kernel
theorem dL_law_1218 : decode cL_law 1218 = .ok (.iload_n 3, 1) := by decide +kernel
theorem dL_law_1219 : decode cL_law 1219 = .ok (.iconst 3, 1) := by decide +kernel
theorem dL_law_1220 : decode cL_law 1220 = .ok (.iadd, 1) := by decide +kernel
theorem dL_law_1221 : decode cL_law 1221 = .ok (.iaload, 1) := by decide +kernel
theorem dL_law_1222 : decode cL_law 1222 = .ok (.invokevirtual 165, 3) := by decide +kernel
theorem dL_law_1225 : decode cL_law 1225 = .ok (.aload_n 2, 1) := by decide +kernel
theorem dL_law_1226 : decode cL_law 1226 = .ok (.aload_n 0, 1) := by decide +kernel
theorem dL_law_1227 : decode cL_law 1227 = .ok (.iload_n 3, 1) := by decide +kernel
theorem dL_law_1228 : decode cL_law 1228 = .ok (.iconst 1, 1) := by decide +kernel
theorem dL_law_1229 : decode cL_law 1229 = .ok (.iadd, 1) := by decide +kernel
theorem dL_law_1230 : decode cL_law 1230 = .ok (.iaload, 1) := by decide +kernel
theorem dL_law_1231 : decode cL_law 1231 = .ok (.aload_n 0, 1) := by decide +kernel
theorem dL_law_1232 : decode cL_law 1232 = .ok (.iload_n 3, 1) := by decide +kernel
theorem dL_law_1233 : decode cL_law 1233 = .ok (.iconst 2, 1) := by decide +kernel
theorem dL_law_1234 : decode cL_law 1234 = .ok (.iadd, 1) := by decide +kernel
theorem dL_law_1235 : decode cL_law 1235 = .ok (.iaload, 1) := by decide +kernel
theorem dL_law_1236 : decode cL_law 1236 = .ok (.aload_n 0, 1) := by decide +kernel
theorem dL_law_1237 : decode cL_law 1237 = .ok (.iload_n 3, 1) := by decide +kernel
theorem dL_law_1238 : decode cL_law 1238 = .ok (.iconst 3, 1) := by decide +kernel
theorem dL_law_1239 : decode cL_law 1239 = .ok (.iadd, 1) := by decide +kernel
theorem dL_law_1240 : decode cL_law 1240 = .ok (.iaload, 1) := by decide +kernel
theorem dL_law_1241 : decode cL_law 1241 = .ok (.invokevirtual 168, 3) := by decide +kernel
theorem dL_law_1244 : decode cL_law 1244 = .ok (.if_icmp .eq 424, 3) := by decide +kernel
theorem dL_law_1247 : decode cL_law 1247 = .ok (.iconst 0, 1) := by decide +kernel
theorem dL_law_1248 : decode cL_law 1248 = .ok (.ireturn, 1) := by decide +kernel
theorem dL_law_1249 : decode cL_law 1249 = .ok (.aload_n 1, 1) := by decide +kernel
theorem dL_law_1250 : decode cL_law 1250 = .ok (.invokevirtual 169, 3) := by decide +kernel
theorem dL_law_1253 : decode cL_law 1253 = .ok (.aload_n 2, 1) := by decide +kernel
theorem dL_law_1254 : decode cL_law 1254 = .ok (.invokevirtual 172, 3) := by decide +kernel
theorem dL_law_1257 : decode cL_law 1257 = .ok (.if_icmp .eq 411, 3) := by decide +kernel
theorem dL_law_1260 : decode cL_law 1260 = .ok (.iconst 0, 1) := by decide +kernel
theorem dL_law_1261 : decode cL_law 1261 = .ok (.ireturn, 1) := by decide +kernel
theorem dL_law_1262 : decode cL_law 1262 = .ok (.aload_n 1, 1) := by decide +kernel
theorem dL_law_1263 : decode cL_law 1263 = .ok (.aload_n 0, 1) := by decide +kernel
theorem dL_law_1264 : decode cL_law 1264 = .ok (.iload_n 3, 1) := by decide +kernel
theorem dL_law_1265 : decode cL_law 1265 = .ok (.iconst 1, 1) := by decide +kernel
theorem dL_law_1266 : decode cL_law 1266 = .ok (.iadd, 1) := by decide +kernel
theorem dL_law_1267 : decode cL_law 1267 = .ok (.iaload, 1) := by decide +kernel
theorem dL_law_1268 : decode cL_law 1268 = .ok (.aload_n 0, 1) := by decide +kernel
theorem dL_law_1269 : decode cL_law 1269 = .ok (.iload_n 3, 1) := by decide +kernel
theorem dL_law_1270 : decode cL_law 1270 = .ok (.iconst 2, 1) := by decide +kernel
theorem dL_law_1271 : decode cL_law 1271 = .ok (.iadd, 1) := by decide +kernel
theorem dL_law_1272 : decode cL_law 1272 = .ok (.iaload, 1) := by decide +kernel
theorem dL_law_1273 : decode cL_law 1273 = .ok (.aload_n 0, 1) := by decide +kernel
theorem dL_law_1274 : decode cL_law 1274 = .ok (.iload_n 3, 1) := by decide +kernel
theorem dL_law_1275 : decode cL_law 1275 = .ok (.iconst 3, 1) := by decide +kernel
theorem dL_law_1276 : decode cL_law 1276 = .ok (.iadd, 1) := by decide +kernel
theorem dL_law_1277 : decode cL_law 1277 = .ok (.iaload, 1) := by decide +kernel
theorem dL_law_1278 : decode cL_law 1278 = .ok (.invokevirtual 173, 3) := by decide +kernel
theorem dL_law_1281 : decode cL_law 1281 = .ok (.aload_n 2, 1) := by decide +kernel
theorem dL_law_1282 : decode cL_law 1282 = .ok (.aload_n 0, 1) := by decide +kernel
theorem dL_law_1283 : decode cL_law 1283 = .ok (.iload_n 3, 1) := by decide +kernel
theorem dL_law_1284 : decode cL_law 1284 = .ok (.iconst 1, 1) := by decide +kernel
theorem dL_law_1285 : decode cL_law 1285 = .ok (.iadd, 1) := by decide +kernel
theorem dL_law_1286 : decode cL_law 1286 = .ok (.iaload, 1) := by decide +kernel
theorem dL_law_1287 : decode cL_law 1287 = .ok (.aload_n 0, 1) := by decide +kernel
theorem dL_law_1288 : decode cL_law 1288 = .ok (.iload_n 3, 1) := by decide +kernel
theorem dL_law_1289 : decode cL_law 1289 = .ok (.iconst 2, 1) := by decide +kernel
theorem dL_law_1290 : decode cL_law 1290 = .ok (.iadd, 1) := by decide +kernel
theorem dL_law_1291 : decode cL_law 1291 = .ok (.iaload, 1) := by decide +kernel
