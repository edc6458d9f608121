theorem dX9_seat_33 : decode cX9_seat 33 = .ok (.getfield 7, 3) := by decide +kernel
theorem dX9_seat_36 : decode cX9_seat 36 = .ok (.bipush 16, 2) := by decide +kernel
theorem dX9_seat_38 : decode cX9_seat 38 = .ok (.iconst 2, 1) := by decide +kernel
theorem dX9_seat_39 : decode cX9_seat 39 = .ok (.iload_n 1, 1) := by decide +kernel
theorem dX9_seat_40 : decode cX9_seat 40 = .ok (.imul, 1) := by decide +kernel
theorem dX9_seat_41 : decode cX9_seat 41 = .ok (.iadd, 1) := by decide +kernel
theorem dX9_seat_42 : decode cX9_seat 42 = .ok (.iconst 1, 1) := by decide +kernel
theorem dX9_seat_43 : decode cX9_seat 43 = .ok (.iadd, 1) := by decide +kernel
theorem dX9_seat_44 : decode cX9_seat 44 = .ok (.iload_n 2, 1) := by decide +kernel
theorem dX9_seat_45 : decode cX9_seat 45 = .ok (.iastore, 1) := by decide +kernel
theorem dX9_seat_46 : decode cX9_seat 46 = .ok (.iconst 1, 1) := by decide +kernel
theorem dX9_seat_47 : decode cX9_seat 47 = .ok (.ireturn, 1) := by decide +kernel
theorem dX9_move_0 : decode cX9_move 0 = .ok (.bipush 10, 2) := by decide +kernel
theorem dX9_move_2 : decode cX9_move 2 = .ok (.iconst 3, 1) := by decide +kernel
theorem dX9_move_3 : decode cX9_move 3 = .ok (.iload_n 1, 1) := by decide +kernel
theorem dX9_move_4 : decode cX9_move 4 = .ok (.imul, 1) := by decide +kernel
theorem dX9_move_5 : decode cX9_move 5 = .ok (.iadd, 1) := by decide +kernel
theorem dX9_move_6 : decode cX9_move 6 = .ok (.istore_n 3, 1) := by decide +kernel
theorem dX9_move_7 : decode cX9_move 7 = .ok (.iload_n 2, 1) := by decide +kernel
theorem dX9_move_8 : decode cX9_move 8 = .ok (.aload_n 0, 1) := by decide +kernel
theorem dX9_move_9 : decode cX9_move 9 = .ok (.getfield 7, 3) := by decide +kernel
theorem dX9_move_12 : decode cX9_move 12 = .ok (.iload_n 3, 1) := by decide +kernel
theorem dX9_move_13 : decode cX9_move 13 = .ok (.iconst 1, 1) := by decide +kernel
theorem dX9_move_14 : decode cX9_move 14 = .ok (.iadd, 1) := by decide +kernel
theorem dX9_move_15 : decode cX9_move 15 = .ok (.iaload, 1) := by decide +kernel
theorem dX9_move_16 : decode cX9_move 16 = .ok (.if_icmp .gt 16, 3) := by decide +kernel
theorem dX9_move_19 : decode cX9_move 19 = .ok (.iload_n 2, 1) := by decide +kernel
theorem dX9_move_20 : decode cX9_move 20 = .ok (.ineg, 1) := by decide +kernel
theorem dX9_move_21 : decode cX9_move 21 = .ok (.aload_n 0, 1) := by decide +kernel
theorem dX9_move_22 : decode cX9_move 22 = .ok (.getfield 7, 3) := by decide +kernel
theorem dX9_move_25 : decode cX9_move 25 = .ok (.iload_n 3, 1) := by decide +kernel
theorem dX9_move_26 : decode cX9_move 26 = .ok (.iconst 2, 1) := by decide +kernel
theorem dX9_move_27 : decode cX9_move 27 = .ok (.iadd, 1) := by decide +kernel
theorem dX9_move_28 : decode cX9_move 28 = .ok (.iaload, 1) := by decide +kernel
theorem dX9_move_29 : decode cX9_move 29 = .ok (.if_icmp .le 5, 3) := by decide +kernel
theorem dX9_move_32 : decode cX9_move 32 = .ok (.iconst (-1), 1) := by decide +kernel
theorem dX9_move_33 : decode cX9_move 33 = .ok (.ireturn, 1) := by decide +kernel
theorem dX9_move_34 : decode cX9_move 34 = .ok (.aload_n 0, 1) := by decide +kernel
theorem dX9_move_35 : decode cX9_move 35 = .ok (.invokevirtual 296, 3) := by decide +kernel
theorem dX9_move_38 : decode cX9_move 38 = .ok (.aload_n 0, 1) := by decide +kernel
theorem dX9_move_39 : decode cX9_move 39 = .ok (.getfield 7, 3) := by decide +kernel
theorem dX9_move_42 : decode cX9_move 42 = .ok (.iload_n 3, 1) := by decide +kernel
theorem dX9_move_43 : decode cX9_move 43 = .ok (.iconst 1, 1) := by decide +kernel
theorem dX9_move_44 : decode cX9_move 44 = .ok (.iadd, 1) := by decide +kernel
theorem dX9_move_45 : decode cX9_move 45 = .ok (.dup2, 1) := by decide +kernel
theorem dX9_move_46 : decode cX9_move 46 = .ok (.iaload, 1) := by decide +kernel
theorem dX9_move_47 : decode cX9_move 47 = .ok (.iload_n 2, 1) := by decide +kernel
theorem dX9_move_48 : decode cX9_move 48 = .ok (.isub, 1) := by decide +kernel
theorem dX9_move_49 : decode cX9_move 49 = .ok (.iastore, 1) := by decide +kernel
theorem dX9_move_50 : decode cX9_move 50 = .ok (.aload_n 0, 1) := by decide +kernel
theorem dX9_move_51 : decode cX9_move 51 = .ok (.getfield 7, 3) := by decide +kernel
theorem dX9_move_54 : decode cX9_move 54 = .ok (.iload_n 3, 1) := by decide +kernel
theorem dX9_move_55 : decode cX9_move 55 = .ok (.iconst 2, 1) := by decide +kernel
theorem dX9_move_56 : decode cX9_move 56 = .ok (.iadd, 1) := by decide +kernel
theorem dX9_move_57 : decode cX9_move 57 = .ok (.dup2, 1) := by decide +kernel
theorem dX9_move_58 : decode cX9_move 58 = .ok (.iaload, 1) := by decide +kernel
theorem dX9_move_59 : decode cX9_move 59 = .ok (.iload_n 2, 1) := by decide +kernel
theorem dX9_move_60 : decode cX9_move 60 = .ok (.iadd, 1) := by decide +kernel
theorem dX9_move_61 : decode cX9_move 61 = .ok (.iastore, 1) := by decide +kernel
theorem dX9_move_62 : decode cX9_move 62 = .ok (.aload_n 0, 1) := by decide +kernel
theorem dX9_move_63 : decode cX9_move 63 = .ok (.getfield 7, 3) := by decide +kernel
theorem dX9_move_66 : decode cX9_move 66 = .ok (.iload_n 3, 1) := by decide +kernel
theorem dX9_move_67 : decode cX9_move 67 = .ok (.iconst 1, 1) := by decide +kernel
theorem dX9_move_68 : decode cX9_move 68 = .ok (.iadd, 1) := by decide +kernel
theorem dX9_move_69 : decode cX9_move 69 = .ok (.iaload, 1) := by decide +kernel
theorem dX9_move_70 : decode cX9_move 70 = .ok (.ireturn, 1) := by decide +kernel
theorem dX9_hide_0 : decode cX9_hide 0 = .ok (.iload_n 1, 1) := by decide +kernel
theorem dX9_hide_1 : decode cX9_hide 1 = .ok (.invokestatic 249, 3) := by decide +kernel
theorem dX9_hide_4 : decode cX9_hide 4 = .ok (.ifCond .eq 22, 3) := by decide +kernel
theorem dX9_hide_7 : decode cX9_hide 7 = .ok (.iload_n 2, 1) := by decide +kernel
theorem dX9_hide_8 : decode cX9_hide 8 = .ok (.iconst 1, 1) := by decide +kernel
theorem dX9_hide_9 : decode cX9_hide 9 = .ok (.bipush 9, 2) := by decide +kernel
theorem dX9_hide_11 : decode cX9_hide 11 = .ok (.invokestatic 56, 3) := by decide +kernel
theorem dX9_hide_14 : decode cX9_hide 14 = .ok (.ifCond .eq 12, 3) := by decide +kernel
theorem dX9_hide_17 : decode cX9_hide 17 = .ok (.aload_n 0, 1) := by decide +kernel
theorem dX9_hide_18 : decode cX9_hide 18 = .ok (.iload_n 1, 1) := by decide +kernel
theorem dX9_hide_19 : decode cX9_hide 19 = .ok (.iload_n 2, 1) := by decide +kernel
theorem dX9_hide_20 : decode cX9_hide 20 = .ok (.invokevirtual 299, 3) := by decide +kernel
theorem dX9_hide_23 : decode cX9_hide 23 = .ok (.goto 4, 3) := by decide +kernel
theorem dX9_hide_26 : decode cX9_hide 26 = .ok (.iconst (-1), 1) := by decide +kernel
theorem dX9_hide_27 : decode cX9_hide 27 = .ok (.ireturn, 1) := by decide +kernel
theorem dX9_give_0 : decode cX9_give 0 = .ok (.iload_n 1, 1) := by decide +kernel
theorem dX9_give_1 : decode cX9_give 1 = .ok (.invokestatic 249, 3) := by decide +kernel
theorem dX9_give_4 : decode cX9_give 4 = .ok (.ifCond .eq 23, 3) := by decide +kernel
theorem dX9_give_7 : decode cX9_give 7 = .ok (.iload_n 2, 1) := by decide +kernel
theorem dX9_give_8 : decode cX9_give 8 = .ok (.iconst 1, 1) := by decide +kernel
theorem dX9_give_9 : decode cX9_give 9 = .ok (.bipush 9, 2) := by decide +kernel
theorem dX9_give_11 : decode cX9_give 11 = .ok (.invokestatic 56, 3) := by decide +kernel
theorem dX9_give_14 : decode cX9_give 14 = .ok (.ifCond .eq 13, 3) := by decide +kernel
theorem dX9_give_17 : decode cX9_give 17 = .ok (.aload_n 0, 1) := by decide +kernel
theorem dX9_give_18 : decode cX9_give 18 = .ok (.iload_n 1, 1) := by decide +kernel
theorem dX9_give_19 : decode cX9_give 19 = .ok (.iload_n 2, 1) := by decide +kernel
theorem dX9_give_20 : decode cX9_give 20 = .ok (.ineg, 1) := by decide +kernel
theorem dX9_give_21 : decode cX9_give 21 = .ok (.invokevirtual 299, 3) := by decide +kernel
theorem dX9_give_24 : decode cX9_give 24 = .ok (.goto 4, 3) := by decide +kernel
theorem dX9_give_27 : decode cX9_give 27 = .ok (.iconst (-1), 1) := by decide +kernel
theorem dX9_give_28 : decode cX9_give 28 = .ok (.ireturn, 1) := by decide +kernel
theorem dX9_passOne_0 : decode cX9_passOne 0 = .ok (.aload_n 0, 1) := by decide +kernel
theorem dX9_passOne_1 : decode cX9_passOne 1 = .ok (.invokevirtual 296, 3) := by decide +kernel
theorem dX9_passOne_4 : decode cX9_passOne 4 = .ok (.aload_n 0, 1) := by decide +kernel
theorem dX9_passOne_5 : decode cX9_passOne 5 = .ok (.getfield 7, 3) := by decide +kernel
theorem dX9_passOne_8 : decode cX9_passOne 8 = .ok (.iconst 1, 1) := by decide +kernel
theorem dX9_passOne_9 : decode cX9_passOne 9 = .ok (.dup2, 1) := by decide +kernel
theorem dX9_passOne_10 : decode cX9_passOne 10 = .ok (.iaload, 1) := by decide +kernel
theorem dX9_passOne_11 : decode cX9_passOne 11 = .ok (.iconst 1, 1) := by decide +kernel
theorem dX9_passOne_12 : decode cX9_passOne 12 = .ok (.iadd, 1) := by decide +kernel
theorem dX9_passOne_13 : decode cX9_passOne 13 = .ok (.iastore, 1) := by decide +kernel
theorem dX9_passOne_14 : decode cX9_passOne 14 = .ok (.iconst 0, 1) := by decide +kernel
theorem dX9_passOne_15 : decode cX9_passOne 15 = .ok (.istore_n 1, 1) := by decide +kernel
theorem dX9_passOne_16 : decode cX9_passOne 16 = .ok (.iconst 0, 1) := by decide +kernel
theorem dX9_passOne_17 : decode cX9_passOne 17 = .ok (.istore_n 2, 1) := by decide +kernel
theorem dX9_passOne_18 : decode cX9_passOne 18 = .ok (.iload_n 2, 1) := by decide +kernel
theorem dX9_passOne_19 : decode cX9_passOne 19 = .ok (.iconst 2, 1) := by decide +kernel
theorem dX9_passOne_20 : decode cX9_passOne 20 = .ok (.if_icmp .ge 153, 3) := by decide +kernel
theorem dX9_passOne_23 : decode cX9_passOne 23 = .ok (.aload_n 0, 1) := by decide +kernel
theorem dX9_passOne_24 : decode cX9_passOne 24 = .ok (.iload_n 2, 1) := by decide +kernel
theorem dX9_passOne_25 : decode cX9_passOne 25 = .ok (.invokevirtual 302, 3) := by decide +kernel
theorem dX9_passOne_28 : decode cX9_passOne 28 = .ok (.aload_n 0, 1) := by decide +kernel
theorem dX9_passOne_29 : decode cX9_passOne 29 = .ok (.aload_n 0, 1) := by decide +kernel
theorem dX9_passOne_30 : decode cX9_passOne 30 = .ok (.getfield 7, 3) := by decide +kernel
theorem dX9_passOne_33 : decode cX9_passOne 33 = .ok (.iconst 1, 1) := by decide +kernel
theorem dX9_passOne_34 : decode cX9_passOne 34 = .ok (.iaload, 1) := by decide +kernel
theorem dX9_passOne_35 : decode cX9_passOne 35 = .ok (.invokevirtual 287, 3) := by decide +kernel
theorem dX9_passOne_38 : decode cX9_passOne 38 = .ok (.iload_n 1, 1) := by decide +kernel
theorem dX9_passOne_39 : decode cX9_passOne 39 = .ok (.aload_n 0, 1) := by decide +kernel
theorem dX9_passOne_40 : decode cX9_passOne 40 = .ok (.aload_n 0, 1) := by decide +kernel
theorem dX9_passOne_41 : decode cX9_passOne 41 = .ok (.getfield 7, 3) := by decide +kernel
theorem dX9_passOne_44 : decode cX9_passOne 44 = .ok (.iconst 1, 1) := by decide +kernel
theorem dX9_passOne_45 : decode cX9_passOne 45 = .ok (.iaload, 1) := by decide +kernel
theorem dX9_passOne_46 : decode cX9_passOne 46 = .ok (.invokevirtual 290, 3) := by decide +kernel
theorem dX9_passOne_49 : decode cX9_passOne 49 = .ok (.iadd, 1) := by decide +kernel
theorem dX9_passOne_50 : decode cX9_passOne 50 = .ok (.istore_n 1, 1) := by decide +kernel
theorem dX9_passOne_51 : decode cX9_passOne 51 = .ok (.aload_n 0, 1) := by decide +kernel
theorem dX9_passOne_52 : decode cX9_passOne 52 = .ok (.getfield 7, 3) := by decide +kernel
theorem dX9_passOne_55 : decode cX9_passOne 55 = .ok (.iconst 3, 1) := by decide +kernel
theorem dX9_passOne_56 : decode cX9_passOne 56 = .ok (.iaload, 1) := by decide +kernel
theorem dX9_passOne_57 : decode cX9_passOne 57 = .ok (.bipush 10, 2) := by decide +kernel
theorem dX9_passOne_59 : decode cX9_passOne 59 = .ok (.irem, 1) := by decide +kernel
theorem dX9_passOne_60 : decode cX9_passOne 60 = .ok (.aload_n 0, 1) := by decide +kernel
theorem dX9_passOne_61 : decode cX9_passOne 61 = .ok (.getfield 7, 3) := by decide +kernel
theorem dX9_passOne_64 : decode cX9_passOne 64 = .ok (.iconst 2, 1) := by decide +kernel
theorem dX9_passOne_65 : decode cX9_passOne 65 = .ok (.iaload, 1) := by decide +kernel
theorem dX9_passOne_66 : decode cX9_passOne 66 = .ok (.if_icmp .ge 14, 3) := by decide +kernel
theorem dX9_passOne_69 : decode cX9_passOne 69 = .ok (.aload_n 0, 1) := by decide +kernel
theorem dX9_passOne_70 : decode cX9_passOne 70 = .ok (.getfield 267, 3) := by decide +kernel
theorem dX9_passOne_73 : decode cX9_passOne 73 = .ok (.ifCond .le 7, 3) := by decide +kernel
theorem dX9_passOne_76 : decode cX9_passOne 76 = .ok (.iconst 1, 1) := by decide +kernel
theorem dX9_passOne_77 : decode cX9_passOne 77 = .ok (.goto 4, 3) := by decide +kernel
theorem dX9_passOne_80 : decode cX9_passOne 80 = .ok (.iconst 0, 1) := by decide +kernel
theorem dX9_passOne_81 : decode cX9_passOne 81 = .ok (.istore_n 3, 1) := by decide +kernel
theorem dX9_passOne_82 : decode cX9_passOne 82 = .ok (.aload_n 0, 1) := by decide +kernel
theorem dX9_passOne_83 : decode cX9_passOne 83 = .ok (.getfield 7, 3) := by decide +kernel
theorem dX9_passOne_86 : decode cX9_passOne 86 = .ok (.iconst 3, 1) := by decide +kernel
theorem dX9_passOne_87 : decode cX9_passOne 87 = .ok (.aload_n 0, 1) := by decide +kernel
theorem dX9_passOne_88 : decode cX9_passOne 88 = .ok (.getfield 7, 3) := by decide +kernel
theorem dX9_passOne_91 : decode cX9_passOne 91 = .ok (.iconst 3, 1) := by decide +kernel
theorem dX9_passOne_92 : decode cX9_passOne 92 = .ok (.iaload, 1) := by decide +kernel
theorem dX9_passOne_93 : decode cX9_passOne 93 = .ok (.sipush 173, 3) := by decide +kernel
theorem dX9_passOne_96 : decode cX9_passOne 96 = .ok (.imul, 1) := by decide +kernel
theorem dX9_passOne_97 : decode cX9_passOne 97 = .ok (.bipush 79, 2) := by decide +kernel
theorem dX9_passOne_99 : decode cX9_passOne 99 = .ok (.iadd, 1) := by decide +kernel
theorem dX9_passOne_100 : decode cX9_passOne 100 = .ok (.sipush 30089, 3) := by decide +kernel
theorem dX9_passOne_103 : decode cX9_passOne 103 = .ok (.irem, 1) := by decide +kernel
theorem dX9_passOne_104 : decode cX9_passOne 104 = .ok (.iastore, 1) := by decide +kernel
theorem dX9_passOne_105 : decode cX9_passOne 105 = .ok (.iload_n 1, 1) := by decide +kernel
theorem dX9_passOne_106 : decode cX9_passOne 106 = .ok (.iload_n 3, 1) := by decide +kernel
theorem dX9_passOne_107 : decode cX9_passOne 107 = .ok (.ifCond .eq 7, 3) := by decide +kernel
theorem dX9_passOne_110 : decode cX9_passOne 110 = .ok (.iconst 1, 1) := by decide +kernel
theorem dX9_passOne_111 : decode cX9_passOne 111 = .ok (.goto 4, 3) := by decide +kernel
theorem dX9_passOne_114 : decode cX9_passOne 114 = .ok (.iconst 0, 1) := by decide +kernel
theorem dX9_passOne_115 : decode cX9_passOne 115 = .ok (.iadd, 1) := by decide +kernel
theorem dX9_passOne_116 : decode cX9_passOne 116 = .ok (.istore_n 1, 1) := by decide +kernel
theorem dX9_passOne_117 : decode cX9_passOne 117 = .ok (.aload_n 0, 1) := by decide +kernel
theorem dX9_passOne_118 : decode cX9_passOne 118 = .ok (.dup, 1) := by decide +kernel
theorem dX9_passOne_119 : decode cX9_passOne 119 = .ok (.getfield 267, 3) := by decide +kernel
theorem dX9_passOne_122 : decode cX9_passOne 122 = .ok (.iload_n 3, 1) := by decide +kernel
theorem dX9_passOne_123 : decode cX9_passOne 123 = .ok (.ifCond .eq 7, 3) := by decide +kernel
theorem dX9_passOne_126 : decode cX9_passOne 126 = .ok (.iconst 1, 1) := by decide +kernel
theorem dX9_passOne_127 : decode cX9_passOne 127 = .ok (.goto 4, 3) := by decide +kernel
theorem dX9_passOne_130 : decode cX9_passOne 130 = .ok (.iconst 0, 1) := by decide +kernel
theorem dX9_passOne_131 : decode cX9_passOne 131 = .ok (.isub, 1) := by decide +kernel
theorem dX9_passOne_132 : decode cX9_passOne 132 = .ok (.putfield 267, 3) := by decide +kernel
theorem dX9_passOne_135 : decode cX9_passOne 135 = .ok (.aload_n 0, 1) := by decide +kernel
theorem dX9_passOne_136 : decode cX9_passOne 136 = .ok (.getfield 7, 3) := by decide +kernel
theorem dX9_passOne_139 : decode cX9_passOne 139 = .ok (.bipush 10, 2) := by decide +kernel
theorem dX9_passOne_141 : decode cX9_passOne 141 = .ok (.iconst 3, 1) := by decide +kernel
theorem dX9_passOne_142 : decode cX9_passOne 142 = .ok (.iload_n 2, 1) := by decide +kernel
theorem dX9_passOne_143 : decode cX9_passOne 143 = .ok (.imul, 1) := by decide +kernel
theorem dX9_passOne_144 : decode cX9_passOne 144 = .ok (.iadd, 1) := by decide +kernel
theorem dX9_passOne_145 : decode cX9_passOne 145 = .ok (.aload_n 0, 1) := by decide +kernel
theorem dX9_passOne_146 : decode cX9_passOne 146 = .ok (.getfield 264, 3) := by decide +kernel
theorem dX9_passOne_149 : decode cX9_passOne 149 = .ok (.iastore, 1) := by decide +kernel
theorem dX9_passOne_150 : decode cX9_passOne 150 = .ok (.aload_n 0, 1) := by decide +kernel
theorem dX9_passOne_151 : decode cX9_passOne 151 = .ok (.getfield 7, 3) := by decide +kernel
theorem dX9_passOne_154 : decode cX9_passOne 154 = .ok (.bipush 10, 2) := by decide +kernel
theorem dX9_passOne_156 : decode cX9_passOne 156 = .ok (.iconst 3, 1) := by decide +kernel
theorem dX9_passOne_157 : decode cX9_passOne 157 = .ok (.iload_n 2, 1) := by decide +kernel
theorem dX9_passOne_158 : decode cX9_passOne 158 = .ok (.imul, 1) := by decide +kernel
theorem dX9_passOne_159 : decode cX9_passOne 159 = .ok (.iadd, 1) := by decide +kernel
theorem dX9_passOne_160 : decode cX9_passOne 160 = .ok (.iconst 1, 1) := by decide +kernel
theorem dX9_passOne_161 : decode cX9_passOne 161 = .ok (.iadd, 1) := by decide +kernel
theorem dX9_passOne_162 : decode cX9_passOne 162 = .ok (.aload_n 0, 1) := by decide +kernel
theorem dX9_passOne_163 : decode cX9_passOne 163 = .ok (.getfield 267, 3) := by decide +kernel
theorem dX9_passOne_166 : decode cX9_passOne 166 = .ok (.iastore, 1) := by decide +kernel
theorem dX9_passOne_167 : decode cX9_passOne 167 = .ok (.iinc 2 1, 3) := by decide +kernel
theorem dX9_passOne_170 : decode cX9_passOne 170 = .ok (.goto (-152), 3) := by decide +kernel
theorem dX9_passOne_173 : decode cX9_passOne 173 = .ok (.iload_n 1, 1) := by decide +kernel
theorem dX9_passOne_174 : decode cX9_passOne 174 = .ok (.ireturn, 1) := by decide +kernel
theorem dX9_pass_0 : decode cX9_pass 0 = .ok (.iload_n 1, 1) := by decide +kernel
theorem dX9_pass_1 : decode cX9_pass 1 = .ok (.iconst 1, 1) := by decide +kernel
theorem dX9_pass_2 : decode cX9_pass 2 = .ok (.bipush 99, 2) := by decide +kernel
theorem dX9_pass_4 : decode cX9_pass 4 = .ok (.invokestatic 56, 3) := by decide +kernel
theorem dX9_pass_7 : decode cX9_pass 7 = .ok (.ifCond .eq 17, 3) := by decide +kernel
theorem dX9_pass_10 : decode cX9_pass 10 = .ok (.aload_n 0, 1) := by decide +kernel
theorem dX9_pass_11 : decode cX9_pass 11 = .ok (.getfield 7, 3) := by decide +kernel
theorem dX9_pass_14 : decode cX9_pass 14 = .ok (.iconst 1, 1) := by decide +kernel
theorem dX9_pass_15 : decode cX9_pass 15 = .ok (.iaload, 1) := by decide +kernel
theorem dX9_pass_16 : decode cX9_pass 16 = .ok (.iload_n 1, 1) := by decide +kernel
theorem dX9_pass_17 : decode cX9_pass 17 = .ok (.iadd, 1) := by decide +kernel
theorem dX9_pass_18 : decode cX9_pass 18 = .ok (.sipush 999, 3) := by decide +kernel
theorem dX9_pass_21 : decode cX9_pass 21 = .ok (.if_icmp .le 5, 3) := by decide +kernel
theorem dX9_pass_24 : decode cX9_pass 24 = .ok (.iconst (-1), 1) := by decide +kernel
theorem dX9_pass_25 : decode cX9_pass 25 = .ok (.ireturn, 1) := by decide +kernel
theorem dX9_pass_26 : decode cX9_pass 26 = .ok (.iconst 0, 1) := by decide +kernel
theorem dX9_pass_27 : decode cX9_pass 27 = .ok (.istore_n 2, 1) := by decide +kernel
theorem dX9_pass_28 : decode cX9_pass 28 = .ok (.iconst 0, 1) := by decide +kernel
theorem dX9_pass_29 : decode cX9_pass 29 = .ok (.istore_n 3, 1) := by decide +kernel
theorem dX9_pass_30 : decode cX9_pass 30 = .ok (.iload_n 3, 1) := by decide +kernel
theorem dX9_pass_31 : decode cX9_pass 31 = .ok (.iload_n 1, 1) := by decide +kernel
theorem dX9_pass_32 : decode cX9_pass 32 = .ok (.if_icmp .ge 16, 3) := by decide +kernel
theorem dX9_pass_35 : decode cX9_pass 35 = .ok (.iload_n 2, 1) := by decide +kernel
theorem dX9_pass_36 : decode cX9_pass 36 = .ok (.aload_n 0, 1) := by decide +kernel
theorem dX9_pass_37 : decode cX9_pass 37 = .ok (.invokevirtual 305, 3) := by decide +kernel
theorem dX9_pass_40 : decode cX9_pass 40 = .ok (.iadd, 1) := by decide +kernel
theorem dX9_pass_41 : decode cX9_pass 41 = .ok (.istore_n 2, 1) := by decide +kernel
theorem dX9_pass_42 : decode cX9_pass 42 = .ok (.iinc 3 1, 3) := by decide +kernel
theorem dX9_pass_45 : decode cX9_pass 45 = .ok (.goto (-15), 3) := by decide +kernel
theorem dX9_pass_48 : decode cX9_pass 48 = .ok (.iload_n 2, 1) := by decide +kernel
theorem dX9_pass_49 : decode cX9_pass 49 = .ok (.ireturn, 1) := by decide +kernel
theorem dX9_isPlayed_0 : decode cX9_isPlayed 0 = .ok (.aload_n 0, 1) := by decide +kernel
theorem dX9_isPlayed_1 : decode cX9_isPlayed 1 = .ok (.getfield 16, 3) := by decide +kernel
theorem dX9_isPlayed_4 : decode cX9_isPlayed 4 = .ok (.iload_n 1, 1) := by decide +kernel
theorem dX9_isPlayed_5 : decode cX9_isPlayed 5 = .ok (.iaload, 1) := by decide +kernel
theorem dX9_isPlayed_6 : decode cX9_isPlayed 6 = .ok (.tableswitch 130 2 5 #[30, 51, 80, 109], 30) := by decide +kernel
theorem dX9_isPlayed_36 : decode cX9_isPlayed 36 = .ok (.aload_n 0, 1) := by decide +kernel
theorem dX9_isPlayed_37 : decode cX9_isPlayed 37 = .ok (.aload_n 0, 1) := by decide +kernel
theorem dX9_isPlayed_38 : decode cX9_isPlayed 38 = .ok (.getfield 16, 3) := by decide +kernel
theorem dX9_isPlayed_41 : decode cX9_isPlayed 41 = .ok (.iload_n 1, 1) := by decide +kernel
theorem dX9_isPlayed_42 : decode cX9_isPlayed 42 = .ok (.iconst 1, 1) := by decide +kernel
theorem dX9_isPlayed_43 : decode cX9_isPlayed 43 = .ok (.iadd, 1) := by decide +kernel
theorem dX9_isPlayed_44 : decode cX9_isPlayed 44 = .ok (.iaload, 1) := by decide +kernel
theorem dX9_isPlayed_45 : decode cX9_isPlayed 45 = .ok (.aload_n 0, 1) := by decide +kernel
theorem dX9_isPlayed_46 : decode cX9_isPlayed 46 = .ok (.getfield 16, 3) := by decide +kernel
theorem dX9_isPlayed_49 : decode cX9_isPlayed 49 = .ok (.iload_n 1, 1) := by decide +kernel
theorem dX9_isPlayed_50 : decode cX9_isPlayed 50 = .ok (.iconst 2, 1) := by decide +kernel
theorem dX9_isPlayed_51 : decode cX9_isPlayed 51 = .ok (.iadd, 1) := by decide +kernel
theorem dX9_isPlayed_52 : decode cX9_isPlayed 52 = .ok (.iaload, 1) := by decide +kernel
theorem dX9_isPlayed_53 : decode cX9_isPlayed 53 = .ok (.invokevirtual 308, 3) := by decide +kernel
theorem dX9_isPlayed_56 : decode cX9_isPlayed 56 = .ok (.ireturn, 1) := by decide +kernel
theorem dX9_isPlayed_57 : decode cX9_isPlayed 57 = .ok (.aload_n 0, 1) := by decide +kernel
theorem dX9_isPlayed_58 : decode cX9_isPlayed 58 = .ok (.aload_n 0, 1) := by decide +kernel
theorem dX9_isPlayed_59 : decode cX9_isPlayed 59 = .ok (.getfield 16, 3) := by decide +kernel
theorem dX9_isPlayed_62 : decode cX9_isPlayed 62 = .ok (.iload_n 1, 1) := by decide +kernel
theorem dX9_isPlayed_63 : decode cX9_isPlayed 63 = .ok (.iconst 2, 1) := by decide +kernel
theorem dX9_isPlayed_64 : decode cX9_isPlayed 64 = .ok (.iadd, 1) := by decide +kernel
theorem dX9_isPlayed_65 : decode cX9_isPlayed 65 = .ok (.iaload, 1) := by decide +kernel
theorem dX9_isPlayed_66 : decode cX9_isPlayed 66 = .ok (.aload_n 0, 1) := by decide +kernel
theorem dX9_isPlayed_67 : decode cX9_isPlayed 67 = .ok (.getfield 16, 3) := by decide +kernel
theorem dX9_isPlayed_70 : decode cX9_isPlayed 70 = .ok (.iload_n 1, 1) := by decide +kernel
theorem dX9_isPlayed_71 : decode cX9_isPlayed 71 = .ok (.iconst 1, 1) := by decide +kernel
theorem dX9_isPlayed_72 : decode cX9_isPlayed 72 = .ok (.iadd, 1) := by decide +kernel
theorem dX9_isPlayed_73 : decode cX9_isPlayed 73 = .ok (.iaload, 1) := by decide +kernel
theorem dX9_isPlayed_74 : decode cX9_isPlayed 74 = .ok (.invokevirtual 311, 3) := by decide +kernel
theorem dX9_isPlayed_77 : decode cX9_isPlayed 77 = .ok (.ifCond .lt 7, 3) := by decide +kernel
theorem dX9_isPlayed_80 : decode cX9_isPlayed 80 = .ok (.iconst 1, 1) := by decide +kernel
theorem dX9_isPlayed_81 : decode cX9_isPlayed 81 = .ok (.goto 4, 3) := by decide +kernel
theorem dX9_isPlayed_84 : decode cX9_isPlayed 84 = .ok (.iconst 0, 1) := by decide +kernel
theorem dX9_isPlayed_85 : decode cX9_isPlayed 85 = .ok (.ireturn, 1) := by decide +kernel
theorem dX9_isPlayed_86 : decode cX9_isPlayed 86 = .ok (.aload_n 0, 1) := by decide +kernel
theorem dX9_isPlayed_87 : decode cX9_isPlayed 87 = .ok (.aload_n 0, 1) := by decide +kernel
theorem dX9_isPlayed_88 : decode cX9_isPlayed 88 = .ok (.getfield 16, 3) := by decide +kernel
theorem dX9_isPlayed_91 : decode cX9_isPlayed 91 = .ok (.iload_n 1, 1) := by decide +kernel
theorem dX9_isPlayed_92 : decode cX9_isPlayed 92 = .ok (.iconst 2, 1) := by decide +kernel
theorem dX9_isPlayed_93 : decode cX9_isPlayed 93 = .ok (.iadd, 1) := by decide +kernel
theorem dX9_isPlayed_94 : decode cX9_isPlayed 94 = .ok (.iaload, 1) := by decide +kernel
theorem dX9_isPlayed_95 : decode cX9_isPlayed 95 = .ok (.aload_n 0, 1) := by decide +kernel
theorem dX9_isPlayed_96 : decode cX9_isPlayed 96 = .ok (.getfield 16, 3) := by decide +kernel
theorem dX9_isPlayed_99 : decode cX9_isPlayed 99 = .ok (.iload_n 1, 1) := by decide +kernel
theorem dX9_isPlayed_100 : decode cX9_isPlayed 100 = .ok (.iconst 1, 1) := by decide +kernel
theorem dX9_isPlayed_101 : decode cX9_isPlayed 101 = .ok (.iadd, 1) := by decide +kernel
theorem dX9_isPlayed_102 : decode cX9_isPlayed 102 = .ok (.iaload, 1) := by decide +kernel
theorem dX9_isPlayed_103 : decode cX9_isPlayed 103 = .ok (.invokevirtual 314, 3) := by decide +kernel
theorem dX9_isPlayed_106 : decode cX9_isPlayed 106 = .ok (.ifCond .lt 7, 3) := by decide +kernel
theorem dX9_isPlayed_109 : decode cX9_isPlayed 109 = .ok (.iconst 1, 1) := by decide +kernel
theorem dX9_isPlayed_110 : decode cX9_isPlayed 110 = .ok (.goto 4, 3) := by decide +kernel
theorem dX9_isPlayed_113 : decode cX9_isPlayed 113 = .ok (.iconst 0, 1) := by decide +kernel
theorem dX9_isPlayed_114 : decode cX9_isPlayed 114 = .ok (.ireturn, 1) := by decide +kernel
theorem dX9_isPlayed_115 : decode cX9_isPlayed 115 = .ok (.aload_n 0, 1) := by decide +kernel
theorem dX9_isPlayed_116 : decode cX9_isPlayed 116 = .ok (.aload_n 0, 1) := by decide +kernel
theorem dX9_isPlayed_117 : decode cX9_isPlayed 117 = .ok (.getfield 16, 3) := by decide +kernel
theorem dX9_isPlayed_120 : decode cX9_isPlayed 120 = .ok (.iload_n 1, 1) := by decide +kernel
theorem dX9_isPlayed_121 : decode cX9_isPlayed 121 = .ok (.iconst 1, 1) := by decide +kernel
theorem dX9_isPlayed_122 : decode cX9_isPlayed 122 = .ok (.iadd, 1) := by decide +kernel
theorem dX9_isPlayed_123 : decode cX9_isPlayed 123 = .ok (.iaload, 1) := by decide +kernel
theorem dX9_isPlayed_124 : decode cX9_isPlayed 124 = .ok (.invokevirtual 317, 3) := by decide +kernel
theorem dX9_isPlayed_127 : decode cX9_isPlayed 127 = .ok (.ifCond .lt 7, 3) := by decide +kernel
theorem dX9_isPlayed_130 : decode cX9_isPlayed 130 = .ok (.iconst 1, 1) := by decide +kernel
theorem dX9_isPlayed_131 : decode cX9_isPlayed 131 = .ok (.goto 4, 3) := by decide +kernel
theorem dX9_isPlayed_134 : decode cX9_isPlayed 134 = .ok (.iconst 0, 1) := by decide +kernel
theorem dX9_isPlayed_135 : decode cX9_isPlayed 135 = .ok (.ireturn, 1) := by decide +kernel
theorem dX9_isPlayed_136 : decode cX9_isPlayed 136 = .ok (.iconst 1, 1) := by decide +kernel
theorem dX9_isPlayed_137 : decode cX9_isPlayed 137 = .ok (.ireturn, 1) := by decide +kernel
theorem dX9_played_0 : decode cX9_played 0 = .ok (.iload_n 1, 1) := by decide +kernel
theorem dX9_played_1 : decode cX9_played 1 = .ok (.iconst 0, 1) := by decide +kernel
theorem dX9_played_2 : decode cX9_played 2 = .ok (.aload_n 0, 1) := by decide +kernel
theorem dX9_played_3 : decode cX9_played 3 = .ok (.getfield 7, 3) := by decide +kernel
theorem dX9_played_6 : decode cX9_played 6 = .ok (.iconst 4, 1) := by decide +kernel
theorem dX9_played_7 : decode cX9_played 7 = .ok (.iaload, 1) := by decide +kernel
theorem dX9_played_8 : decode cX9_played 8 = .ok (.iconst 1, 1) := by decide +kernel
theorem dX9_played_9 : decode cX9_played 9 = .ok (.isub, 1) := by decide +kernel
theorem dX9_played_10 : decode cX9_played 10 = .ok (.invokestatic 56, 3) := by decide +kernel
theorem dX9_played_13 : decode cX9_played 13 = .ok (.ifCond .ne 6, 3) := by decide +kernel
theorem dX9_played_16 : decode cX9_played 16 = .ok (.bipush (-2), 2) := by decide +kernel
theorem dX9_played_18 : decode cX9_played 18 = .ok (.ireturn, 1) := by decide +kernel
theorem dX9_played_19 : decode cX9_played 19 = .ok (.iconst 0, 1) := by decide +kernel
theorem dX9_played_20 : decode cX9_played 20 = .ok (.istore_n 2, 1) := by decide +kernel
theorem dX9_played_21 : decode cX9_played 21 = .ok (.iload_n 2, 1) := by decide +kernel
theorem dX9_played_22 : decode cX9_played 22 = .ok (.aload_n 0, 1) := by decide +kernel
theorem dX9_played_23 : decode cX9_played 23 = .ok (.getfield 16, 3) := by decide +kernel
theorem dX9_played_26 : decode cX9_played 26 = .ok (.sipush 680, 3) := by decide +kernel
theorem dX9_played_29 : decode cX9_played 29 = .ok (.iload_n 1, 1) := by decide +kernel
theorem dX9_played_30 : decode cX9_played 30 = .ok (.imul, 1) := by decide +kernel
theorem dX9_played_31 : decode cX9_played 31 = .ok (.iaload, 1) := by decide +kernel
theorem dX9_played_32 : decode cX9_played 32 = .ok (.if_icmp .ge 29, 3) := by decide +kernel
theorem dX9_played_35 : decode cX9_played 35 = .ok (.aload_n 0, 1) := by decide +kernel
theorem dX9_played_36 : decode cX9_played 36 = .ok (.sipush 680, 3) := by decide +kernel
theorem dX9_played_39 : decode cX9_played 39 = .ok (.iload_n 1, 1) := by decide +kernel
theorem dX9_played_40 : decode cX9_played 40 = .ok (.imul, 1) := by decide +kernel
theorem dX9_played_41 : decode cX9_played 41 = .ok (.iconst 1, 1) := by decide +kernel
theorem dX9_played_42 : decode cX9_played 42 = .ok (.iadd, 1) := by decide +kernel
theorem dX9_played_43 : decode cX9_played 43 = .ok (.iconst 3, 1) := by decide +kernel
theorem dX9_played_44 : decode cX9_played 44 = .ok (.iload_n 2, 1) := by decide +kernel
theorem dX9_played_45 : decode cX9_played 45 = .ok (.imul, 1) := by decide +kernel
theorem dX9_played_46 : decode cX9_played 46 = .ok (.iadd, 1) := by decide +kernel
theorem dX9_played_47 : decode cX9_played 47 = .ok (.invokevirtual 320, 3) := by decide +kernel
theorem dX9_played_50 : decode cX9_played 50 = .ok (.ifCond .ne 5, 3) := by decide +kernel
theorem dX9_played_53 : decode cX9_played 53 = .ok (.iload_n 2, 1) := by decide +kernel
theorem dX9_played_54 : decode cX9_played 54 = .ok (.ireturn, 1) := by decide +kernel
theorem dX9_played_55 : decode cX9_played 55 = .ok (.iinc 2 1, 3) := by decide +kernel
theorem dX9_played_58 : decode cX9_played 58 = .ok (.goto (-37), 3) := by decide +kernel
theorem dX9_played_61 : decode cX9_played 61 = .ok (.iconst (-1), 1) := by decide +kernel
theorem dX9_played_62 : decode cX9_played 62 = .ok (.ireturn, 1) := by decide +kernel
theorem dX9_of_0 : decode cX9_of 0 = .ok (.iload_n 1, 1) := by decide +kernel
theorem dX9_of_1 : decode cX9_of 1 = .ok (.invokestatic 249, 3) := by decide +kernel
theorem dX9_of_4 : decode cX9_of 4 = .ok (.ifCond .eq 12, 3) := by decide +kernel
theorem dX9_of_7 : decode cX9_of 7 = .ok (.iload_n 2, 1) := by decide +kernel
theorem dX9_of_8 : decode cX9_of 8 = .ok (.iconst 0, 1) := by decide +kernel
theorem dX9_of_9 : decode cX9_of 9 = .ok (.iconst 3, 1) := by decide +kernel
theorem dX9_of_10 : decode cX9_of 10 = .ok (.invokestatic 56, 3) := by decide +kernel
theorem dX9_of_13 : decode cX9_of 13 = .ok (.ifCond .ne 5, 3) := by decide +kernel
theorem dX9_of_16 : decode cX9_of 16 = .ok (.iconst (-1), 1) := by decide +kernel
theorem dX9_of_17 : decode cX9_of 17 = .ok (.ireturn, 1) := by decide +kernel
theorem dX9_of_18 : decode cX9_of 18 = .ok (.iload_n 2, 1) := by decide +kernel
theorem dX9_of_19 : decode cX9_of 19 = .ok (.iconst 3, 1) := by decide +kernel
theorem dX9_of_20 : decode cX9_of 20 = .ok (.if_icmp .ge 19, 3) := by decide +kernel
theorem dX9_of_23 : decode cX9_of 23 = .ok (.aload_n 0, 1) := by decide +kernel
theorem dX9_of_24 : decode cX9_of 24 = .ok (.getfield 7, 3) := by decide +kernel
theorem dX9_of_27 : decode cX9_of 27 = .ok (.bipush 10, 2) := by decide +kernel
theorem dX9_of_29 : decode cX9_of 29 = .ok (.iconst 3, 1) := by decide +kernel
theorem dX9_of_30 : decode cX9_of 30 = .ok (.iload_n 1, 1) := by decide +kernel
theorem dX9_of_31 : decode cX9_of 31 = .ok (.imul, 1) := by decide +kernel
theorem dX9_of_32 : decode cX9_of 32 = .ok (.iadd, 1) := by decide +kernel
theorem dX9_of_33 : decode cX9_of 33 = .ok (.iload_n 2, 1) := by decide +kernel
theorem dX9_of_34 : decode cX9_of 34 = .ok (.iadd, 1) := by decide +kernel
theorem dX9_of_35 : decode cX9_of 35 = .ok (.iaload, 1) := by decide +kernel
theorem dX9_of_36 : decode cX9_of 36 = .ok (.goto 8, 3) := by decide +kernel
theorem dX9_of_39 : decode cX9_of 39 = .ok (.aload_n 0, 1) := by decide +kernel
theorem dX9_of_40 : decode cX9_of 40 = .ok (.iload_n 1, 1) := by decide +kernel
theorem dX9_of_41 : decode cX9_of 41 = .ok (.invokevirtual 273, 3) := by decide +kernel
theorem dX9_of_44 : decode cX9_of 44 = .ok (.ireturn, 1) := by decide +kernel
theorem dX9_sisterOf_0 : decode cX9_sisterOf 0 = .ok (.aload_n 0, 1) := by decide +kernel
theorem dX9_sisterOf_1 : decode cX9_sisterOf 1 = .ok (.iload_n 1, 1) := by decide +kernel
theorem dX9_sisterOf_2 : decode cX9_sisterOf 2 = .ok (.invokevirtual 293, 3) := by decide +kernel
theorem dX9_sisterOf_5 : decode cX9_sisterOf 5 = .ok (.ifCond .eq 12, 3) := by decide +kernel
theorem dX9_sisterOf_8 : decode cX9_sisterOf 8 = .ok (.iload_n 2, 1) := by decide +kernel
theorem dX9_sisterOf_9 : decode cX9_sisterOf 9 = .ok (.iconst 0, 1) := by decide +kernel
theorem dX9_sisterOf_10 : decode cX9_sisterOf 10 = .ok (.iconst 2, 1) := by decide +kernel
theorem dX9_sisterOf_11 : decode cX9_sisterOf 11 = .ok (.invokestatic 56, 3) := by decide +kernel
theorem dX9_sisterOf_14 : decode cX9_sisterOf 14 = .ok (.ifCond .ne 5, 3) := by decide +kernel
theorem dX9_sisterOf_17 : decode cX9_sisterOf 17 = .ok (.iconst (-1), 1) := by decide +kernel
theorem dX9_sisterOf_18 : decode cX9_sisterOf 18 = .ok (.ireturn, 1) := by decide +kernel
theorem dX9_sisterOf_19 : decode cX9_sisterOf 19 = .ok (.iload_n 2, 1) := by decide +kernel
theorem dX9_sisterOf_20 : decode cX9_sisterOf 20 = .ok (.iconst 2, 1) := by decide +kernel
theorem dX9_sisterOf_21 : decode cX9_sisterOf 21 = .ok (.if_icmp .ge 17, 3) := by decide +kernel
theorem dX9_sisterOf_24 : decode cX9_sisterOf 24 = .ok (.aload_n 0, 1) := by decide +kernel
theorem dX9_sisterOf_25 : decode cX9_sisterOf 25 = .ok (.getfield 7, 3) := by decide +kernel
theorem dX9_sisterOf_28 : decode cX9_sisterOf 28 = .ok (.bipush 16, 2) := by decide +kernel
theorem dX9_sisterOf_30 : decode cX9_sisterOf 30 = .ok (.iconst 2, 1) := by decide +kernel
theorem dX9_sisterOf_31 : decode cX9_sisterOf 31 = .ok (.iload_n 1, 1) := by decide +kernel
theorem dX9_sisterOf_32 : decode cX9_sisterOf 32 = .ok (.imul, 1) := by decide +kernel
theorem dX9_sisterOf_33 : decode cX9_sisterOf 33 = .ok (.iadd, 1) := by decide +kernel
theorem dX9_sisterOf_34 : decode cX9_sisterOf 34 = .ok (.iload_n 2, 1) := by decide +kernel
theorem dX9_sisterOf_35 : decode cX9_sisterOf 35 = .ok (.iadd, 1) := by decide +kernel
theorem dX9_sisterOf_36 : decode cX9_sisterOf 36 = .ok (.iaload, 1) := by decide +kernel
theorem dX9_sisterOf_37 : decode cX9_sisterOf 37 = .ok (.ireturn, 1) := by decide +kernel
theorem dX9_sisterOf_38 : decode cX9_sisterOf 38 = .ok (.aload_n 0, 1) := by decide +kernel
theorem dX9_sisterOf_39 : decode cX9_sisterOf 39 = .ok (.iload_n 1, 1) := by decide +kernel
theorem dX9_sisterOf_40 : decode cX9_sisterOf 40 = .ok (.invokevirtual 258, 3) := by decide +kernel
theorem dX9_sisterOf_43 : decode cX9_sisterOf 43 = .ok (.istore_n 3, 1) := by decide +kernel
theorem dX9_sisterOf_44 : decode cX9_sisterOf 44 = .ok (.iload_n 3, 1) := by decide +kernel
theorem dX9_sisterOf_45 : decode cX9_sisterOf 45 = .ok (.iconst 2, 1) := by decide +kernel
theorem dX9_sisterOf_46 : decode cX9_sisterOf 46 = .ok (.if_icmp .ne 7, 3) := by decide +kernel
theorem dX9_sisterOf_49 : decode cX9_sisterOf 49 = .ok (.iconst 0, 1) := by decide +kernel
theorem dX9_sisterOf_50 : decode cX9_sisterOf 50 = .ok (.goto 39, 3) := by decide +kernel
theorem dX9_sisterOf_53 : decode cX9_sisterOf 53 = .ok (.aload_n 0, 1) := by decide +kernel
theorem dX9_sisterOf_54 : decode cX9_sisterOf 54 = .ok (.iload_n 1, 1) := by decide +kernel
theorem dX9_sisterOf_55 : decode cX9_sisterOf 55 = .ok (.iload_n 3, 1) := by decide +kernel
theorem dX9_sisterOf_56 : decode cX9_sisterOf 56 = .ok (.aload_n 0, 1) := by decide +kernel
theorem dX9_sisterOf_57 : decode cX9_sisterOf 57 = .ok (.getfield 7, 3) := by decide +kernel
theorem dX9_sisterOf_60 : decode cX9_sisterOf 60 = .ok (.bipush 10, 2) := by decide +kernel
theorem dX9_sisterOf_62 : decode cX9_sisterOf 62 = .ok (.iconst 3, 1) := by decide +kernel
theorem dX9_sisterOf_63 : decode cX9_sisterOf 63 = .ok (.iload_n 3, 1) := by decide +kernel
theorem dX9_sisterOf_64 : decode cX9_sisterOf 64 = .ok (.imul, 1) := by decide +kernel
theorem dX9_sisterOf_65 : decode cX9_sisterOf 65 = .ok (.iadd, 1) := by decide +kernel
theorem dX9_sisterOf_66 : decode cX9_sisterOf 66 = .ok (.iaload, 1) := by decide +kernel
theorem dX9_sisterOf_67 : decode cX9_sisterOf 67 = .ok (.aload_n 0, 1) := by decide +kernel
theorem dX9_sisterOf_68 : decode cX9_sisterOf 68 = .ok (.getfield 7, 3) := by decide +kernel
theorem dX9_sisterOf_71 : decode cX9_sisterOf 71 = .ok (.iconst 1, 1) := by decide +kernel
theorem dX9_sisterOf_72 : decode cX9_sisterOf 72 = .ok (.iaload, 1) := by decide +kernel
theorem dX9_sisterOf_73 : decode cX9_sisterOf 73 = .ok (.aload_n 0, 1) := by decide +kernel
theorem dX9_sisterOf_74 : decode cX9_sisterOf 74 = .ok (.getfield 7, 3) := by decide +kernel
theorem dX9_sisterOf_77 : decode cX9_sisterOf 77 = .ok (.bipush 10, 2) := by decide +kernel
theorem dX9_sisterOf_79 : decode cX9_sisterOf 79 = .ok (.iconst 3, 1) := by decide +kernel
theorem dX9_sisterOf_80 : decode cX9_sisterOf 80 = .ok (.iload_n 3, 1) := by decide +kernel
theorem dX9_sisterOf_81 : decode cX9_sisterOf 81 = .ok (.imul, 1) := by decide +kernel
theorem dX9_sisterOf_82 : decode cX9_sisterOf 82 = .ok (.iadd, 1) := by decide +kernel
theorem dX9_sisterOf_83 : decode cX9_sisterOf 83 = .ok (.iconst 1, 1) := by decide +kernel
theorem dX9_sisterOf_84 : decode cX9_sisterOf 84 = .ok (.iadd, 1) := by decide +kernel
theorem dX9_sisterOf_85 : decode cX9_sisterOf 85 = .ok (.iaload, 1) := by decide +kernel
theorem dX9_sisterOf_86 : decode cX9_sisterOf 86 = .ok (.invokevirtual 283, 3) := by decide +kernel
theorem dX9_sisterOf_89 : decode cX9_sisterOf 89 = .ok (.ireturn, 1) := by decide +kernel
theorem dX9_comes_0 : decode cX9_comes 0 = .ok (.iload_n 1, 1) := by decide +kernel
theorem dX9_comes_1 : decode cX9_comes 1 = .ok (.invokestatic 249, 3) := by decide +kernel
theorem dX9_comes_4 : decode cX9_comes 4 = .ok (.ifCond .eq 10, 3) := by decide +kernel
theorem dX9_comes_7 : decode cX9_comes 7 = .ok (.iload_n 2, 1) := by decide +kernel
theorem dX9_comes_8 : decode cX9_comes 8 = .ok (.invokestatic 252, 3) := by decide +kernel
theorem dX9_comes_11 : decode cX9_comes 11 = .ok (.ifCond .ne 5, 3) := by decide +kernel
theorem dX9_comes_14 : decode cX9_comes 14 = .ok (.iconst (-1), 1) := by decide +kernel
theorem dX9_comes_15 : decode cX9_comes 15 = .ok (.ireturn, 1) := by decide +kernel
theorem dX9_comes_16 : decode cX9_comes 16 = .ok (.aload_n 0, 1) := by decide +kernel
theorem dX9_comes_17 : decode cX9_comes 17 = .ok (.iload_n 1, 1) := by decide +kernel
theorem dX9_comes_18 : decode cX9_comes 18 = .ok (.invokevirtual 302, 3) := by decide +kernel
theorem dX9_comes_21 : decode cX9_comes 21 = .ok (.iconst 0, 1) := by decide +kernel
theorem dX9_comes_22 : decode cX9_comes 22 = .ok (.istore 4, 2) := by decide +kernel
theorem dX9_comes_24 : decode cX9_comes 24 = .ok (.iload 4, 2) := by decide +kernel
theorem dX9_comes_26 : decode cX9_comes 26 = .ok (.bipush 60, 2) := by decide +kernel
theorem dX9_comes_28 : decode cX9_comes 28 = .ok (.if_icmp .gt 47, 3) := by decide +kernel
theorem dX9_comes_31 : decode cX9_comes 31 = .ok (.iload 4, 2) := by decide +kernel
theorem dX9_comes_33 : decode cX9_comes 33 = .ok (.ifCond .le 25, 3) := by decide +kernel
theorem dX9_comes_36 : decode cX9_comes 36 = .ok (.aload_n 0, 1) := by decide +kernel
theorem dX9_comes_37 : decode cX9_comes 37 = .ok (.aload_n 0, 1) := by decide +kernel
theorem dX9_comes_38 : decode cX9_comes 38 = .ok (.getfield 7, 3) := by decide +kernel
theorem dX9_comes_41 : decode cX9_comes 41 = .ok (.iconst 1, 1) := by decide +kernel
theorem dX9_comes_42 : decode cX9_comes 42 = .ok (.iaload, 1) := by decide +kernel
theorem dX9_comes_43 : decode cX9_comes 43 = .ok (.iload 4, 2) := by decide +kernel
theorem dX9_comes_45 : decode cX9_comes 45 = .ok (.iadd, 1) := by decide +kernel
theorem dX9_comes_46 : decode cX9_comes 46 = .ok (.iload_n 3, 1) := by decide +kernel
theorem dX9_comes_47 : decode cX9_comes 47 = .ok (.ifCond .ne 7, 3) := by decide +kernel
theorem dX9_comes_50 : decode cX9_comes 50 = .ok (.iconst 1, 1) := by decide +kernel
theorem dX9_comes_51 : decode cX9_comes 51 = .ok (.goto 4, 3) := by decide +kernel
theorem dX9_comes_54 : decode cX9_comes 54 = .ok (.iconst 0, 1) := by decide +kernel
theorem dX9_comes_55 : decode cX9_comes 55 = .ok (.invokevirtual 323, 3) := by decide +kernel
theorem dX9_comes_58 : decode cX9_comes 58 = .ok (.aload_n 0, 1) := by decide +kernel
theorem dX9_comes_59 : decode cX9_comes 59 = .ok (.getfield 264, 3) := by decide +kernel
theorem dX9_comes_62 : decode cX9_comes 62 = .ok (.iload_n 2, 1) := by decide +kernel
theorem dX9_comes_63 : decode cX9_comes 63 = .ok (.if_icmp .lt 6, 3) := by decide +kernel
theorem dX9_comes_66 : decode cX9_comes 66 = .ok (.iload 4, 2) := by decide +kernel
theorem dX9_comes_68 : decode cX9_comes 68 = .ok (.ireturn, 1) := by decide +kernel
theorem dX9_comes_69 : decode cX9_comes 69 = .ok (.iinc 4 1, 3) := by decide +kernel
theorem dX9_comes_72 : decode cX9_comes 72 = .ok (.goto (-48), 3) := by decide +kernel
theorem dX9_comes_75 : decode cX9_comes 75 = .ok (.iconst (-1), 1) := by decide +kernel
theorem dX9_comes_76 : decode cX9_comes 76 = .ok (.ireturn, 1) := by decide +kernel
theorem dX9_common_0 : decode cX9_common 0 = .ok (.lload_n 0, 1) := by decide +kernel
theorem dX9_common_1 : decode cX9_common 1 = .ok (.lstore 4, 2) := by decide +kernel
theorem dX9_common_3 : decode cX9_common 3 = .ok (.lload_n 2, 1) := by decide +kernel
theorem dX9_common_4 : decode cX9_common 4 = .ok (.lstore 6, 2) := by decide +kernel
theorem dX9_common_6 : decode cX9_common 6 = .ok (.lload 6, 2) := by decide +kernel
theorem dX9_common_8 : decode cX9_common 8 = .ok (.lconst 0, 1) := by decide +kernel
theorem dX9_common_9 : decode cX9_common 9 = .ok (.lcmp, 1) := by decide +kernel
theorem dX9_common_10 : decode cX9_common 10 = .ok (.ifCond .eq 21, 3) := by decide +kernel
theorem dX9_common_13 : decode cX9_common 13 = .ok (.lload 4, 2) := by decide +kernel
theorem dX9_common_15 : decode cX9_common 15 = .ok (.lload 6, 2) := by decide +kernel
theorem dX9_common_17 : decode cX9_common 17 = .ok (.lrem, 1) := by decide +kernel
theorem dX9_common_18 : decode cX9_common 18 = .ok (.lstore 8, 2) := by decide +kernel
theorem dX9_common_20 : decode cX9_common 20 = .ok (.lload 6, 2) := by decide +kernel
theorem dX9_common_22 : decode cX9_common 22 = .ok (.lstore 4, 2) := by decide +kernel
theorem dX9_common_24 : decode cX9_common 24 = .ok (.lload 8, 2) := by decide +kernel
theorem dX9_common_26 : decode cX9_common 26 = .ok (.lstore 6, 2) := by decide +kernel
theorem dX9_common_28 : decode cX9_common 28 = .ok (.goto (-22), 3) := by decide +kernel
theorem dX9_common_31 : decode cX9_common 31 = .ok (.lload 4, 2) := by decide +kernel
theorem dX9_common_33 : decode cX9_common 33 = .ok (.lreturn, 1) := by decide +kernel
theorem dX9_spread_0 : decode cX9_spread 0 = .ok (.iconst 0, 1) := by decide +kernel
theorem dX9_spread_1 : decode cX9_spread 1 = .ok (.istore_n 3, 1) := by decide +kernel
theorem dX9_spread_2 : decode cX9_spread 2 = .ok (.iload_n 3, 1) := by decide +kernel
theorem dX9_spread_3 : decode cX9_spread 3 = .ok (.sipush 976, 3) := by decide +kernel
theorem dX9_spread_6 : decode cX9_spread 6 = .ok (.if_icmp .ge 16, 3) := by decide +kernel
theorem dX9_spread_9 : decode cX9_spread 9 = .ok (.aload_n 0, 1) := by decide +kernel
theorem dX9_spread_10 : decode cX9_spread 10 = .ok (.getfield 46, 3) := by decide +kernel
theorem dX9_spread_13 : decode cX9_spread 13 = .ok (.iload_n 3, 1) := by decide +kernel
theorem dX9_spread_14 : decode cX9_spread 14 = .ok (.lconst 0, 1) := by decide +kernel
theorem dX9_spread_15 : decode cX9_spread 15 = .ok (.lastore, 1) := by decide +kernel
theorem dX9_spread_16 : decode cX9_spread 16 = .ok (.iinc 3 1, 3) := by decide +kernel
theorem dX9_spread_19 : decode cX9_spread 19 = .ok (.goto (-17), 3) := by decide +kernel
theorem dX9_spread_22 : decode cX9_spread 22 = .ok (.iconst 0, 1) := by decide +kernel
theorem dX9_spread_23 : decode cX9_spread 23 = .ok (.istore_n 3, 1) := by decide +kernel
theorem dX9_spread_24 : decode cX9_spread 24 = .ok (.iload_n 3, 1) := by decide +kernel
theorem dX9_spread_25 : decode cX9_spread 25 = .ok (.sipush 976, 3) := by decide +kernel
theorem dX9_spread_28 : decode cX9_spread 28 = .ok (.if_icmp .ge 128, 3) := by decide +kernel
theorem dX9_spread_31 : decode cX9_spread 31 = .ok (.aload_n 0, 1) := by decide +kernel
theorem dX9_spread_32 : decode cX9_spread 32 = .ok (.getfield 43, 3) := by decide +kernel
theorem dX9_spread_35 : decode cX9_spread 35 = .ok (.iload_n 3, 1) := by decide +kernel
theorem dX9_spread_36 : decode cX9_spread 36 = .ok (.laload, 1) := by decide +kernel
theorem dX9_spread_37 : decode cX9_spread 37 = .ok (.lconst 0, 1) := by decide +kernel
theorem dX9_spread_38 : decode cX9_spread 38 = .ok (.lcmp, 1) := by decide +kernel
theorem dX9_spread_39 : decode cX9_spread 39 = .ok (.ifCond .ne 6, 3) := by decide +kernel
theorem dX9_spread_42 : decode cX9_spread 42 = .ok (.goto 108, 3) := by decide +kernel
theorem dX9_spread_45 : decode cX9_spread 45 = .ok (.aload_n 0, 1) := by decide +kernel
theorem dX9_spread_46 : decode cX9_spread 46 = .ok (.iload_n 1, 1) := by decide +kernel
theorem dX9_spread_47 : decode cX9_spread 47 = .ok (.iload_n 3, 1) := by decide +kernel
theorem dX9_spread_48 : decode cX9_spread 48 = .ok (.bipush 61, 2) := by decide +kernel
theorem dX9_spread_50 : decode cX9_spread 50 = .ok (.idiv, 1) := by decide +kernel
theorem dX9_spread_51 : decode cX9_spread 51 = .ok (.iadd, 1) := by decide +kernel
theorem dX9_spread_52 : decode cX9_spread 52 = .ok (.putfield 264, 3) := by decide +kernel
theorem dX9_spread_55 : decode cX9_spread 55 = .ok (.aload_n 0, 1) := by decide +kernel
theorem dX9_spread_56 : decode cX9_spread 56 = .ok (.iload_n 3, 1) := by decide +kernel
theorem dX9_spread_57 : decode cX9_spread 57 = .ok (.bipush 61, 2) := by decide +kernel
theorem dX9_spread_59 : decode cX9_spread 59 = .ok (.irem, 1) := by decide +kernel
theorem dX9_spread_60 : decode cX9_spread 60 = .ok (.putfield 267, 3) := by decide +kernel
theorem dX9_spread_63 : decode cX9_spread 63 = .ok (.aload_n 0, 1) := by decide +kernel
theorem dX9_spread_64 : decode cX9_spread 64 = .ok (.iload_n 2, 1) := by decide +kernel
theorem dX9_spread_65 : decode cX9_spread 65 = .ok (.iconst 0, 1) := by decide +kernel
theorem dX9_spread_66 : decode cX9_spread 66 = .ok (.invokevirtual 323, 3) := by decide +kernel
theorem dX9_spread_69 : decode cX9_spread 69 = .ok (.bipush 61, 2) := by decide +kernel
theorem dX9_spread_71 : decode cX9_spread 71 = .ok (.aload_n 0, 1) := by decide +kernel
theorem dX9_spread_72 : decode cX9_spread 72 = .ok (.getfield 264, 3) := by decide +kernel
theorem dX9_spread_75 : decode cX9_spread 75 = .ok (.iload_n 1, 1) := by decide +kernel
theorem dX9_spread_76 : decode cX9_spread 76 = .ok (.isub, 1) := by decide +kernel
theorem dX9_spread_77 : decode cX9_spread 77 = .ok (.imul, 1) := by decide +kernel
theorem dX9_spread_78 : decode cX9_spread 78 = .ok (.aload_n 0, 1) := by decide +kernel
theorem dX9_spread_79 : decode cX9_spread 79 = .ok (.getfield 267, 3) := by decide +kernel
theorem dX9_spread_82 : decode cX9_spread 82 = .ok (.iadd, 1) := by decide +kernel
theorem dX9_spread_83 : decode cX9_spread 83 = .ok (.istore 4, 2) := by decide +kernel
theorem dX9_spread_85 : decode cX9_spread 85 = .ok (.aload_n 0, 1) := by decide +kernel
theorem dX9_spread_86 : decode cX9_spread 86 = .ok (.getfield 46, 3) := by decide +kernel
theorem dX9_spread_89 : decode cX9_spread 89 = .ok (.aload_n 0, 1) := by decide +kernel
theorem dX9_spread_90 : decode cX9_spread 90 = .ok (.getfield 267, 3) := by decide +kernel
theorem dX9_spread_93 : decode cX9_spread 93 = .ok (.ifCond .le 10, 3) := by decide +kernel
theorem dX9_spread_96 : decode cX9_spread 96 = .ok (.iload 4, 2) := by decide +kernel
theorem dX9_spread_98 : decode cX9_spread 98 = .ok (.iconst 1, 1) := by decide +kernel
theorem dX9_spread_99 : decode cX9_spread 99 = .ok (.isub, 1) := by decide +kernel
theorem dX9_spread_100 : decode cX9_spread 100 = .ok (.goto 5, 3) := by decide +kernel
theorem dX9_spread_103 : decode cX9_spread 103 = .ok (.iload 4, 2) := by decide +kernel
theorem dX9_spread_105 : decode cX9_spread 105 = .ok (.dup2, 1) := by decide +kernel
theorem dX9_spread_106 : decode cX9_spread 106 = .ok (.laload, 1) := by decide +kernel
theorem dX9_spread_107 : decode cX9_spread 107 = .ok (.aload_n 0, 1) := by decide +kernel
theorem dX9_spread_108 : decode cX9_spread 108 = .ok (.getfield 43, 3) := by decide +kernel
theorem dX9_spread_111 : decode cX9_spread 111 = .ok (.iload_n 3, 1) := by decide +kernel
theorem dX9_spread_112 : decode cX9_spread 112 = .ok (.laload, 1) := by decide +kernel
theorem dX9_spread_113 : decode cX9_spread 113 = .ok (.aload_n 0, 1) := by decide +kernel
theorem dX9_spread_114 : decode cX9_spread 114 = .ok (.getfield 7, 3) := by decide +kernel
theorem dX9_spread_117 : decode cX9_spread 117 = .ok (.iconst 2, 1) := by decide +kernel
theorem dX9_spread_118 : decode cX9_spread 118 = .ok (.iaload, 1) := by decide +kernel
theorem dX9_spread_119 : decode cX9_spread 119 = .ok (.i2l, 1) := by decide +kernel
theorem dX9_spread_120 : decode cX9_spread 120 = .ok (.lmul, 1) := by decide +kernel
theorem dX9_spread_121 : decode cX9_spread 121 = .ok (.ladd, 1) := by decide +kernel
theorem dX9_spread_122 : decode cX9_spread 122 = .ok (.lastore, 1) := by decide +kernel
theorem dX9_spread_123 : decode cX9_spread 123 = .ok (.aload_n 0, 1) := by decide +kernel
theorem dX9_spread_124 : decode cX9_spread 124 = .ok (.getfield 46, 3) := by decide +kernel
theorem dX9_spread_127 : decode cX9_spread 127 = .ok (.iload 4, 2) := by decide +kernel
theorem dX9_spread_129 : decode cX9_spread 129 = .ok (.dup2, 1) := by decide +kernel
theorem dX9_spread_130 : decode cX9_spread 130 = .ok (.laload, 1) := by decide +kernel
theorem dX9_spread_131 : decode cX9_spread 131 = .ok (.aload_n 0, 1) := by decide +kernel
theorem dX9_spread_132 : decode cX9_spread 132 = .ok (.getfield 43, 3) := by decide +kernel
theorem dX9_spread_135 : decode cX9_spread 135 = .ok (.iload_n 3, 1) := by decide +kernel
theorem dX9_spread_136 : decode cX9_spread 136 = .ok (.laload, 1) := by decide +kernel
theorem dX9_spread_137 : decode cX9_spread 137 = .ok (.bipush 10, 2) := by decide +kernel
theorem dX9_spread_139 : decode cX9_spread 139 = .ok (.aload_n 0, 1) := by decide +kernel
theorem dX9_spread_140 : decode cX9_spread 140 = .ok (.getfield 7, 3) := by decide +kernel
theorem dX9_spread_143 : decode cX9_spread 143 = .ok (.iconst 2, 1) := by decide +kernel
theorem dX9_spread_144 : decode cX9_spread 144 = .ok (.iaload, 1) := by decide +kernel
theorem dX9_spread_145 : decode cX9_spread 145 = .ok (.isub, 1) := by decide +kernel
theorem dX9_spread_146 : decode cX9_spread 146 = .ok (.i2l, 1) := by decide +kernel
theorem dX9_spread_147 : decode cX9_spread 147 = .ok (.lmul, 1) := by decide +kernel
theorem dX9_spread_148 : decode cX9_spread 148 = .ok (.ladd, 1) := by decide +kernel
theorem dX9_spread_149 : decode cX9_spread 149 = .ok (.lastore, 1) := by decide +kernel
theorem dX9_spread_150 : decode cX9_spread 150 = .ok (.iinc 3 1, 3) := by decide +kernel
theorem dX9_spread_153 : decode cX9_spread 153 = .ok (.goto (-129), 3) := by decide +kernel
theorem dX9_spread_156 : decode cX9_spread 156 = .ok (.iconst 0, 1) := by decide +kernel
theorem dX9_spread_157 : decode cX9_spread 157 = .ok (.istore_n 3, 1) := by decide +kernel
theorem dX9_spread_158 : decode cX9_spread 158 = .ok (.iload_n 3, 1) := by decide +kernel
theorem dX9_spread_159 : decode cX9_spread 159 = .ok (.sipush 976, 3) := by decide +kernel
theorem dX9_spread_162 : decode cX9_spread 162 = .ok (.if_icmp .ge 21, 3) := by decide +kernel
theorem dX9_spread_165 : decode cX9_spread 165 = .ok (.aload_n 0, 1) := by decide +kernel
theorem dX9_spread_166 : decode cX9_spread 166 = .ok (.getfield 43, 3) := by decide +kernel
theorem dX9_spread_169 : decode cX9_spread 169 = .ok (.iload_n 3, 1) := by decide +kernel
theorem dX9_spread_170 : decode cX9_spread 170 = .ok (.aload_n 0, 1) := by decide +kernel
theorem dX9_spread_171 : decode cX9_spread 171 = .ok (.getfield 46, 3) := by decide +kernel
theorem dX9_spread_174 : decode cX9_spread 174 = .ok (.iload_n 3, 1) := by decide +kernel
theorem dX9_spread_175 : decode cX9_spread 175 = .ok (.laload, 1) := by decide +kernel
theorem dX9_spread_176 : decode cX9_spread 176 = .ok (.lastore, 1) := by decide +kernel
theorem dX9_spread_177 : decode cX9_spread 177 = .ok (.iinc 3 1, 3) := by decide +kernel
theorem dX9_spread_180 : decode cX9_spread 180 = .ok (.goto (-22), 3) := by decide +kernel
theorem dX9_spread_183 : decode cX9_spread 183 = .ok (.return_, 1) := by decide +kernel
theorem dX9_odds_0 : decode cX9_odds 0 = .ok (.iload_n 1, 1) := by decide +kernel
theorem dX9_odds_1 : decode cX9_odds 1 = .ok (.invokestatic 249, 3) := by decide +kernel
theorem dX9_odds_4 : decode cX9_odds 4 = .ok (.ifCond .eq 30, 3) := by decide +kernel
theorem dX9_odds_7 : decode cX9_odds 7 = .ok (.iload_n 2, 1) := by decide +kernel
theorem dX9_odds_8 : decode cX9_odds 8 = .ok (.invokestatic 252, 3) := by decide +kernel
theorem dX9_odds_11 : decode cX9_odds 11 = .ok (.ifCond .eq 23, 3) := by decide +kernel
theorem dX9_odds_14 : decode cX9_odds 14 = .ok (.iload_n 3, 1) := by decide +kernel
theorem dX9_odds_15 : decode cX9_odds 15 = .ok (.iconst 0, 1) := by decide +kernel
theorem dX9_odds_16 : decode cX9_odds 16 = .ok (.bipush 15, 2) := by decide +kernel
theorem dX9_odds_18 : decode cX9_odds 18 = .ok (.invokestatic 56, 3) := by decide +kernel
theorem dX9_odds_21 : decode cX9_odds 21 = .ok (.ifCond .eq 13, 3) := by decide +kernel
theorem dX9_odds_24 : decode cX9_odds 24 = .ok (.iload 4, 2) := by decide +kernel
theorem dX9_odds_26 : decode cX9_odds 26 = .ok (.iconst 0, 1) := by decide +kernel
theorem dX9_odds_27 : decode cX9_odds 27 = .ok (.iconst 1, 1) := by decide +kernel
theorem dX9_odds_28 : decode cX9_odds 28 = .ok (.invokestatic 56, 3) := by decide +kernel
theorem dX9_odds_31 : decode cX9_odds 31 = .ok (.ifCond .ne 7, 3) := by decide +kernel
theorem dX9_odds_34 : decode cX9_odds 34 = .ok (.ldc2_w 327, 3) := by decide +kernel
theorem dX9_odds_37 : decode cX9_odds 37 = .ok (.lreturn, 1) := by decide +kernel
theorem dX9_odds_38 : decode cX9_odds 38 = .ok (.aload_n 0, 1) := by decide +kernel
theorem dX9_odds_39 : decode cX9_odds 39 = .ok (.iload_n 1, 1) := by decide +kernel
theorem dX9_odds_40 : decode cX9_odds 40 = .ok (.invokevirtual 302, 3) := by decide +kernel
theorem dX9_odds_43 : decode cX9_odds 43 = .ok (.aload_n 0, 1) := by decide +kernel
theorem dX9_odds_44 : decode cX9_odds 44 = .ok (.getfield 264, 3) := by decide +kernel
theorem dX9_odds_47 : decode cX9_odds 47 = .ok (.istore 5, 2) := by decide +kernel
theorem dX9_odds_49 : decode cX9_odds 49 = .ok (.iconst 0, 1) := by decide +kernel
theorem dX9_odds_50 : decode cX9_odds 50 = .ok (.istore 6, 2) := by decide +kernel
theorem dX9_odds_52 : decode cX9_odds 52 = .ok (.iload 6, 2) := by decide +kernel
theorem dX9_odds_54 : decode cX9_odds 54 = .ok (.sipush 976, 3) := by decide +kernel
theorem dX9_odds_57 : decode cX9_odds 57 = .ok (.if_icmp .ge 30, 3) := by decide +kernel
theorem dX9_odds_60 : decode cX9_odds 60 = .ok (.aload_n 0, 1) := by decide +kernel
theorem dX9_odds_61 : decode cX9_odds 61 = .ok (.getfield 43, 3) := by decide +kernel
theorem dX9_odds_64 : decode cX9_odds 64 = .ok (.iload 6, 2) := by decide +kernel
theorem dX9_odds_66 : decode cX9_odds 66 = .ok (.iload 6, 2) := by decide +kernel
theorem dX9_odds_68 : decode cX9_odds 68 = .ok (.aload_n 0, 1) := by decide +kernel
theorem dX9_odds_69 : decode cX9_odds 69 = .ok (.getfield 267, 3) := by decide +kernel
theorem dX9_odds_72 : decode cX9_odds 72 = .ok (.if_icmp .ne 7, 3) := by decide +kernel
theorem dX9_odds_75 : decode cX9_odds 75 = .ok (.lconst 1, 1) := by decide +kernel
theorem dX9_odds_76 : decode cX9_odds 76 = .ok (.goto 4, 3) := by decide +kernel
theorem dX9_odds_79 : decode cX9_odds 79 = .ok (.lconst 0, 1) := by decide +kernel
theorem dX9_odds_80 : decode cX9_odds 80 = .ok (.lastore, 1) := by decide +kernel
theorem dX9_odds_81 : decode cX9_odds 81 = .ok (.iinc 6 1, 3) := by decide +kernel
theorem dX9_odds_84 : decode cX9_odds 84 = .ok (.goto (-32), 3) := by decide +kernel
theorem dX9_odds_87 : decode cX9_odds 87 = .ok (.lconst 1, 1) := by decide +kernel
theorem dX9_odds_88 : decode cX9_odds 88 = .ok (.lstore 6, 2) := by decide +kernel
theorem dX9_odds_90 : decode cX9_odds 90 = .ok (.iconst 1, 1) := by decide +kernel
theorem dX9_odds_91 : decode cX9_odds 91 = .ok (.istore 8, 2) := by decide +kernel
theorem dX9_odds_93 : decode cX9_odds 93 = .ok (.iload 8, 2) := by decide +kernel
theorem dX9_odds_95 : decode cX9_odds 95 = .ok (.iload_n 3, 1) := by decide +kernel
theorem dX9_odds_96 : decode cX9_odds 96 = .ok (.if_icmp .gt 32, 3) := by decide +kernel
theorem dX9_odds_99 : decode cX9_odds 99 = .ok (.aload_n 0, 1) := by decide +kernel
theorem dX9_odds_100 : decode cX9_odds 100 = .ok (.iload 5, 2) := by decide +kernel
theorem dX9_odds_102 : decode cX9_odds 102 = .ok (.aload_n 0, 1) := by decide +kernel
theorem dX9_odds_103 : decode cX9_odds 103 = .ok (.getfield 7, 3) := by decide +kernel
theorem dX9_odds_106 : decode cX9_odds 106 = .ok (.iconst 1, 1) := by decide +kernel
theorem dX9_odds_107 : decode cX9_odds 107 = .ok (.iaload, 1) := by decide +kernel
theorem dX9_odds_108 : decode cX9_odds 108 = .ok (.iload 8, 2) := by decide +kernel
theorem dX9_odds_110 : decode cX9_odds 110 = .ok (.iadd, 1) := by decide +kernel
theorem dX9_odds_111 : decode cX9_odds 111 = .ok (.invokevirtual 329, 3) := by decide +kernel
theorem dX9_odds_114 : decode cX9_odds 114 = .ok (.lload 6, 2) := by decide +kernel
theorem dX9_odds_116 : decode cX9_odds 116 = .ok (.ldc2_w 332, 3) := by decide +kernel
theorem dX9_odds_119 : decode cX9_odds 119 = .ok (.lmul, 1) := by decide +kernel
theorem dX9_odds_120 : decode cX9_odds 120 = .ok (.lstore 6, 2) := by decide +kernel
theorem dX9_odds_122 : decode cX9_odds 122 = .ok (.iinc 8 1, 3) := by decide +kernel
theorem dX9_odds_125 : decode cX9_odds 125 = .ok (.goto (-32), 3) := by decide +kernel
theorem dX9_odds_128 : decode cX9_odds 128 = .ok (.lconst 0, 1) := by decide +kernel
theorem dX9_odds_129 : decode cX9_odds 129 = .ok (.lstore 8, 2) := by decide +kernel
theorem dX9_odds_131 : decode cX9_odds 131 = .ok (.iconst 0, 1) := by decide +kernel
theorem dX9_odds_132 : decode cX9_odds 132 = .ok (.istore 10, 2) := by decide +kernel
theorem dX9_odds_134 : decode cX9_odds 134 = .ok (.iload 10, 2) := by decide +kernel
theorem dX9_odds_136 : decode cX9_odds 136 = .ok (.sipush 976, 3) := by decide +kernel
theorem dX9_odds_139 : decode cX9_odds 139 = .ok (.if_icmp .ge 37, 3) := by decide +kernel
theorem dX9_odds_142 : decode cX9_odds 142 = .ok (.lload 8, 2) := by decide +kernel
theorem dX9_odds_144 : decode cX9_odds 144 = .ok (.iload 5, 2) := by decide +kernel
theorem dX9_odds_146 : decode cX9_odds 146 = .ok (.iload 10, 2) := by decide +kernel
theorem dX9_odds_148 : decode cX9_odds 148 = .ok (.bipush 61, 2) := by decide +kernel
theorem dX9_odds_150 : decode cX9_odds 150 = .ok (.idiv, 1) := by decide +kernel
theorem dX9_odds_151 : decode cX9_odds 151 = .ok (.iadd, 1) := by decide +kernel
theorem dX9_odds_152 : decode cX9_odds 152 = .ok (.iload_n 2, 1) := by decide +kernel
theorem dX9_odds_153 : decode cX9_odds 153 = .ok (.if_icmp .lt 13, 3) := by decide +kernel
theorem dX9_odds_156 : decode cX9_odds 156 = .ok (.aload_n 0, 1) := by decide +kernel
theorem dX9_odds_157 : decode cX9_odds 157 = .ok (.getfield 43, 3) := by decide +kernel
theorem dX9_odds_160 : decode cX9_odds 160 = .ok (.iload 10, 2) := by decide +kernel
theorem dX9_odds_162 : decode cX9_odds 162 = .ok (.laload, 1) := by decide +kernel
theorem dX9_odds_163 : decode cX9_odds 163 = .ok (.goto 4, 3) := by decide +kernel
theorem dX9_odds_166 : decode cX9_odds 166 = .ok (.lconst 0, 1) := by decide +kernel
theorem dX9_odds_167 : decode cX9_odds 167 = .ok (.ladd, 1) := by decide +kernel
theorem dX9_odds_168 : decode cX9_odds 168 = .ok (.lstore 8, 2) := by decide +kernel
theorem dX9_odds_170 : decode cX9_odds 170 = .ok (.iinc 10 1, 3) := by decide +kernel
theorem dX9_odds_173 : decode cX9_odds 173 = .ok (.goto (-39), 3) := by decide +kernel
theorem dX9_odds_176 : decode cX9_odds 176 = .ok (.iload 4, 2) := by decide +kernel
theorem dX9_odds_178 : decode cX9_odds 178 = .ok (.ifCond .ne 8, 3) := by decide +kernel
theorem dX9_odds_181 : decode cX9_odds 181 = .ok (.lload 8, 2) := by decide +kernel
theorem dX9_odds_183 : decode cX9_odds 183 = .ok (.goto 5, 3) := by decide +kernel
theorem dX9_odds_186 : decode cX9_odds 186 = .ok (.lload 6, 2) := by decide +kernel
theorem dX9_odds_188 : decode cX9_odds 188 = .ok (.lload 8, 2) := by decide +kernel
theorem dX9_odds_190 : decode cX9_odds 190 = .ok (.lload 6, 2) := by decide +kernel
theorem dX9_odds_192 : decode cX9_odds 192 = .ok (.invokestatic 334, 3) := by decide +kernel
theorem dX9_odds_195 : decode cX9_odds 195 = .ok (.ldiv, 1) := by decide +kernel
theorem dX9_odds_196 : decode cX9_odds 196 = .ok (.lreturn, 1) := by decide +kernel
theorem dX9_dayBehind_0 : decode cX9_dayBehind 0 = .ok (.aload_n 0, 1) := by decide +kernel
theorem dX9_dayBehind_1 : decode cX9_dayBehind 1 = .ok (.iload_n 1, 1) := by decide +kernel
theorem dX9_dayBehind_2 : decode cX9_dayBehind 2 = .ok (.invokevirtual 302, 3) := by decide +kernel
theorem dX9_dayBehind_5 : decode cX9_dayBehind 5 = .ok (.iconst 1, 1) := by decide +kernel
theorem dX9_dayBehind_6 : decode cX9_dayBehind 6 = .ok (.istore_n 3, 1) := by decide +kernel
theorem dX9_dayBehind_7 : decode cX9_dayBehind 7 = .ok (.iload_n 3, 1) := by decide +kernel
theorem dX9_dayBehind_8 : decode cX9_dayBehind 8 = .ok (.iload_n 2, 1) := by decide +kernel
theorem dX9_dayBehind_9 : decode cX9_dayBehind 9 = .ok (.if_icmp .gt 22, 3) := by decide +kernel
theorem dX9_dayBehind_12 : decode cX9_dayBehind 12 = .ok (.aload_n 0, 1) := by decide +kernel
theorem dX9_dayBehind_13 : decode cX9_dayBehind 13 = .ok (.aload_n 0, 1) := by decide +kernel
theorem dX9_dayBehind_14 : decode cX9_dayBehind 14 = .ok (.getfield 7, 3) := by decide +kernel
theorem dX9_dayBehind_17 : decode cX9_dayBehind 17 = .ok (.iconst 1, 1) := by decide +kernel
theorem dX9_dayBehind_18 : decode cX9_dayBehind 18 = .ok (.iaload, 1) := by decide +kernel
theorem dX9_dayBehind_19 : decode cX9_dayBehind 19 = .ok (.iload_n 3, 1) := by decide +kernel
theorem dX9_dayBehind_20 : decode cX9_dayBehind 20 = .ok (.iadd, 1) := by decide +kernel
theorem dX9_dayBehind_21 : decode cX9_dayBehind 21 = .ok (.iconst 0, 1) := by decide +kernel
theorem dX9_dayBehind_22 : decode cX9_dayBehind 22 = .ok (.invokevirtual 323, 3) := by decide +kernel
theorem dX9_dayBehind_25 : decode cX9_dayBehind 25 = .ok (.iinc 3 1, 3) := by decide +kernel
theorem dX9_dayBehind_28 : decode cX9_dayBehind 28 = .ok (.goto (-21), 3) := by decide +kernel
theorem dX9_dayBehind_31 : decode cX9_dayBehind 31 = .ok (.aload_n 0, 1) := by decide +kernel
theorem dX9_dayBehind_32 : decode cX9_dayBehind 32 = .ok (.getfield 264, 3) := by decide +kernel
theorem dX9_dayBehind_35 : decode cX9_dayBehind 35 = .ok (.ireturn, 1) := by decide +kernel
theorem dX9_apart_0 : decode cX9_apart 0 = .ok (.iload_n 1, 1) := by decide +kernel
theorem dX9_apart_1 : decode cX9_apart 1 = .ok (.iconst 0, 1) := by decide +kernel
theorem dX9_apart_2 : decode cX9_apart 2 = .ok (.bipush 60, 2) := by decide +kernel
theorem dX9_apart_4 : decode cX9_apart 4 = .ok (.invokestatic 56, 3) := by decide +kernel
theorem dX9_apart_7 : decode cX9_apart 7 = .ok (.ifCond .ne 7, 3) := by decide +kernel
theorem dX9_apart_10 : decode cX9_apart 10 = .ok (.sipush (-1000), 3) := by decide +kernel
theorem dX9_apart_13 : decode cX9_apart 13 = .ok (.ireturn, 1) := by decide +kernel
theorem dX9_apart_14 : decode cX9_apart 14 = .ok (.aload_n 0, 1) := by decide +kernel
theorem dX9_apart_15 : decode cX9_apart 15 = .ok (.iconst 0, 1) := by decide +kernel
theorem dX9_apart_16 : decode cX9_apart 16 = .ok (.iload_n 1, 1) := by decide +kernel
theorem dX9_apart_17 : decode cX9_apart 17 = .ok (.invokevirtual 338, 3) := by decide +kernel
theorem dX9_apart_20 : decode cX9_apart 20 = .ok (.istore_n 2, 1) := by decide +kernel
theorem dX9_apart_21 : decode cX9_apart 21 = .ok (.iload_n 2, 1) := by decide +kernel
theorem dX9_apart_22 : decode cX9_apart 22 = .ok (.aload_n 0, 1) := by decide +kernel
theorem dX9_apart_23 : decode cX9_apart 23 = .ok (.iconst 1, 1) := by decide +kernel
theorem dX9_apart_24 : decode cX9_apart 24 = .ok (.iload_n 1, 1) := by decide +kernel
theorem dX9_apart_25 : decode cX9_apart 25 = .ok (.invokevirtual 338, 3) := by decide +kernel
theorem dX9_apart_28 : decode cX9_apart 28 = .ok (.isub, 1) := by decide +kernel
theorem dX9_apart_29 : decode cX9_apart 29 = .ok (.ireturn, 1) := by decide +kernel
theorem dX9_flour_0 : decode cX9_flour 0 = .ok (.iload_n 1, 1) := by decide +kernel
theorem dX9_flour_1 : decode cX9_flour 1 = .ok (.invokestatic 249, 3) := by decide +kernel
theorem dX9_flour_4 : decode cX9_flour 4 = .ok (.ifCond .eq 22, 3) := by decide +kernel
theorem dX9_flour_7 : decode cX9_flour 7 = .ok (.iload_n 2, 1) := by decide +kernel
theorem dX9_flour_8 : decode cX9_flour 8 = .ok (.invokestatic 252, 3) := by decide +kernel
theorem dX9_flour_11 : decode cX9_flour 11 = .ok (.ifCond .eq 15, 3) := by decide +kernel
theorem dX9_flour_14 : decode cX9_flour 14 = .ok (.iload_n 3, 1) := by decide +kernel
theorem dX9_flour_15 : decode cX9_flour 15 = .ok (.invokestatic 252, 3) := by decide +kernel
theorem dX9_flour_18 : decode cX9_flour 18 = .ok (.ifCond .eq 8, 3) := by decide +kernel
theorem dX9_flour_21 : decode cX9_flour 21 = .ok (.iload_n 3, 1) := by decide +kernel
theorem dX9_flour_22 : decode cX9_flour 22 = .ok (.iload_n 2, 1) := by decide +kernel
theorem dX9_flour_23 : decode cX9_flour 23 = .ok (.if_icmp .ge 5, 3) := by decide +kernel
theorem dX9_flour_26 : decode cX9_flour 26 = .ok (.iconst (-1), 1) := by decide +kernel
theorem dX9_flour_27 : decode cX9_flour 27 = .ok (.ireturn, 1) := by decide +kernel
theorem dX9_flour_28 : decode cX9_flour 28 = .ok (.iconst 0, 1) := by decide +kernel
theorem dX9_flour_29 : decode cX9_flour 29 = .ok (.istore 4, 2) := by decide +kernel
theorem dX9_flour_31 : decode cX9_flour 31 = .ok (.iload_n 2, 1) := by decide +kernel
theorem dX9_flour_32 : decode cX9_flour 32 = .ok (.istore 5, 2) := by decide +kernel
theorem dX9_flour_34 : decode cX9_flour 34 = .ok (.iload 5, 2) := by decide +kernel
theorem dX9_flour_36 : decode cX9_flour 36 = .ok (.iload_n 3, 1) := by decide +kernel
theorem dX9_flour_37 : decode cX9_flour 37 = .ok (.if_icmp .gt 27, 3) := by decide +kernel
theorem dX9_flour_40 : decode cX9_flour 40 = .ok (.iload 4, 2) := by decide +kernel
theorem dX9_flour_42 : decode cX9_flour 42 = .ok (.aload_n 0, 1) := by decide +kernel
theorem dX9_flour_43 : decode cX9_flour 43 = .ok (.iload_n 1, 1) := by decide +kernel
theorem dX9_flour_44 : decode cX9_flour 44 = .ok (.iload 5, 2) := by decide +kernel
theorem dX9_flour_46 : decode cX9_flour 46 = .ok (.aload_n 0, 1) := by decide +kernel
theorem dX9_flour_47 : decode cX9_flour 47 = .ok (.getfield 7, 3) := by decide +kernel
theorem dX9_flour_50 : decode cX9_flour 50 = .ok (.iconst 1, 1) := by decide +kernel
theorem dX9_flour_51 : decode cX9_flour 51 = .ok (.iaload, 1) := by decide +kernel
theorem dX9_flour_52 : decode cX9_flour 52 = .ok (.invokevirtual 255, 3) := by decide +kernel
theorem dX9_flour_55 : decode cX9_flour 55 = .ok (.iadd, 1) := by decide +kernel
theorem dX9_flour_56 : decode cX9_flour 56 = .ok (.istore 4, 2) := by decide +kernel
theorem dX9_flour_58 : decode cX9_flour 58 = .ok (.iinc 5 1, 3) := by decide +kernel
theorem dX9_flour_61 : decode cX9_flour 61 = .ok (.goto (-27), 3) := by decide +kernel
theorem dX9_flour_64 : decode cX9_flour 64 = .ok (.iload 4, 2) := by decide +kernel
theorem dX9_flour_66 : decode cX9_flour 66 = .ok (.ireturn, 1) := by decide +kernel
theorem dX9_isSaint_0 : decode cX9_isSaint 0 = .ok (.aload_n 0, 1) := by decide +kernel
theorem dX9_isSaint_1 : decode cX9_isSaint 1 = .ok (.iload_n 1, 1) := by decide +kernel
theorem dX9_isSaint_2 : decode cX9_isSaint 2 = .ok (.invokevirtual 302, 3) := by decide +kernel
theorem dX9_isSaint_5 : decode cX9_isSaint 5 = .ok (.aload_n 0, 1) := by decide +kernel
theorem dX9_isSaint_6 : decode cX9_isSaint 6 = .ok (.iload 4, 2) := by decide +kernel
theorem dX9_isSaint_8 : decode cX9_isSaint 8 = .ok (.putfield 276, 3) := by decide +kernel
theorem dX9_isSaint_11 : decode cX9_isSaint 11 = .ok (.iconst 1, 1) := by decide +kernel
theorem dX9_isSaint_12 : decode cX9_isSaint 12 = .ok (.istore 5, 2) := by decide +kernel
theorem dX9_isSaint_14 : decode cX9_isSaint 14 = .ok (.iload 5, 2) := by decide +kernel
theorem dX9_isSaint_16 : decode cX9_isSaint 16 = .ok (.iload_n 3, 1) := by decide +kernel
theorem dX9_isSaint_17 : decode cX9_isSaint 17 = .ok (.if_icmp .gt 33, 3) := by decide +kernel
theorem dX9_isSaint_20 : decode cX9_isSaint 20 = .ok (.aload_n 0, 1) := by decide +kernel
theorem dX9_isSaint_21 : decode cX9_isSaint 21 = .ok (.getfield 264, 3) := by decide +kernel
theorem dX9_isSaint_24 : decode cX9_isSaint 24 = .ok (.iload_n 2, 1) := by decide +kernel
theorem dX9_isSaint_25 : decode cX9_isSaint 25 = .ok (.if_icmp .lt 5, 3) := by decide +kernel
theorem dX9_isSaint_28 : decode cX9_isSaint 28 = .ok (.iconst 0, 1) := by decide +kernel
theorem dX9_isSaint_29 : decode cX9_isSaint 29 = .ok (.ireturn, 1) := by decide +kernel
theorem dX9_isSaint_30 : decode cX9_isSaint 30 = .ok (.aload_n 0, 1) := by decide +kernel
theorem dX9_isSaint_31 : decode cX9_isSaint 31 = .ok (.aload_n 0, 1) := by decide +kernel
theorem dX9_isSaint_32 : decode cX9_isSaint 32 = .ok (.getfield 7, 3) := by decide +kernel
theorem dX9_isSaint_35 : decode cX9_isSaint 35 = .ok (.iconst 1, 1) := by decide +kernel
theorem dX9_isSaint_36 : decode cX9_isSaint 36 = .ok (.iaload, 1) := by decide +kernel
theorem dX9_isSaint_37 : decode cX9_isSaint 37 = .ok (.iload 5, 2) := by decide +kernel
theorem dX9_isSaint_39 : decode cX9_isSaint 39 = .ok (.iadd, 1) := by decide +kernel
theorem dX9_isSaint_40 : decode cX9_isSaint 40 = .ok (.iconst 0, 1) := by decide +kernel
theorem dX9_isSaint_41 : decode cX9_isSaint 41 = .ok (.invokevirtual 323, 3) := by decide +kernel
theorem dX9_isSaint_44 : decode cX9_isSaint 44 = .ok (.iinc 5 1, 3) := by decide +kernel
theorem dX9_isSaint_47 : decode cX9_isSaint 47 = .ok (.goto (-33), 3) := by decide +kernel
theorem dX9_isSaint_50 : decode cX9_isSaint 50 = .ok (.aload_n 0, 1) := by decide +kernel
theorem dX9_isSaint_51 : decode cX9_isSaint 51 = .ok (.getfield 264, 3) := by decide +kernel
theorem dX9_isSaint_54 : decode cX9_isSaint 54 = .ok (.iload_n 2, 1) := by decide +kernel
theorem dX9_isSaint_55 : decode cX9_isSaint 55 = .ok (.if_icmp .lt 7, 3) := by decide +kernel
theorem dX9_isSaint_58 : decode cX9_isSaint 58 = .ok (.iconst 1, 1) := by decide +kernel
theorem dX9_isSaint_59 : decode cX9_isSaint 59 = .ok (.goto 4, 3) := by decide +kernel
theorem dX9_isSaint_62 : decode cX9_isSaint 62 = .ok (.iconst 0, 1) := by decide +kernel
theorem dX9_isSaint_63 : decode cX9_isSaint 63 = .ok (.ireturn, 1) := by decide +kernel
theorem dX9_power_0 : decode cX9_power 0 = .ok (.iconst 1, 1) := by decide +kernel
theorem dX9_power_1 : decode cX9_power 1 = .ok (.istore_n 1, 1) := by decide +kernel
theorem dX9_power_2 : decode cX9_power 2 = .ok (.iconst 0, 1) := by decide +kernel
theorem dX9_power_3 : decode cX9_power 3 = .ok (.istore_n 2, 1) := by decide +kernel
theorem dX9_power_4 : decode cX9_power 4 = .ok (.iload_n 2, 1) := by decide +kernel
theorem dX9_power_5 : decode cX9_power 5 = .ok (.iload_n 0, 1) := by decide +kernel
theorem dX9_power_6 : decode cX9_power 6 = .ok (.if_icmp .ge 13, 3) := by decide +kernel
theorem dX9_power_9 : decode cX9_power 9 = .ok (.iload_n 1, 1) := by decide +kernel
theorem dX9_power_10 : decode cX9_power 10 = .ok (.iconst 3, 1) := by decide +kernel
theorem dX9_power_11 : decode cX9_power 11 = .ok (.imul, 1) := by decide +kernel
theorem dX9_power_12 : decode cX9_power 12 = .ok (.istore_n 1, 1) := by decide +kernel
theorem dX9_power_13 : decode cX9_power 13 = .ok (.iinc 2 1, 3) := by decide +kernel
theorem dX9_power_16 : decode cX9_power 16 = .ok (.goto (-12), 3) := by decide +kernel
theorem dX9_power_19 : decode cX9_power 19 = .ok (.iload_n 1, 1) := by decide +kernel
theorem dX9_power_20 : decode cX9_power 20 = .ok (.ireturn, 1) := by decide +kernel
theorem dX9_seatIn_0 : decode cX9_seatIn 0 = .ok (.iload_n 1, 1) := by decide +kernel
theorem dX9_seatIn_1 : decode cX9_seatIn 1 = .ok (.aload_n 0, 1) := by decide +kernel
theorem dX9_seatIn_2 : decode cX9_seatIn 2 = .ok (.getfield 7, 3) := by decide +kernel
theorem dX9_seatIn_5 : decode cX9_seatIn 5 = .ok (.iconst 0, 1) := by decide +kernel
theorem dX9_seatIn_6 : decode cX9_seatIn 6 = .ok (.iaload, 1) := by decide +kernel
theorem dX9_seatIn_7 : decode cX9_seatIn 7 = .ok (.iconst 1, 1) := by decide +kernel
theorem dX9_seatIn_8 : decode cX9_seatIn 8 = .ok (.isub, 1) := by decide +kernel
theorem dX9_seatIn_9 : decode cX9_seatIn 9 = .ok (.iload_n 2, 1) := by decide +kernel
theorem dX9_seatIn_10 : decode cX9_seatIn 10 = .ok (.isub, 1) := by decide +kernel
theorem dX9_seatIn_11 : decode cX9_seatIn 11 = .ok (.invokestatic 341, 3) := by decide +kernel
theorem dX9_seatIn_14 : decode cX9_seatIn 14 = .ok (.idiv, 1) := by decide +kernel
theorem dX9_seatIn_15 : decode cX9_seatIn 15 = .ok (.iconst 3, 1) := by decide +kernel
theorem dX9_seatIn_16 : decode cX9_seatIn 16 = .ok (.irem, 1) := by decide +kernel
theorem dX9_seatIn_17 : decode cX9_seatIn 17 = .ok (.ireturn, 1) := by decide +kernel
theorem dX9_saint_0 : decode cX9_saint 0 = .ok (.iload_n 1, 1) := by decide +kernel
theorem dX9_saint_1 : decode cX9_saint 1 = .ok (.invokestatic 249, 3) := by decide +kernel
theorem dX9_saint_4 : decode cX9_saint 4 = .ok (.ifCond .eq 35, 3) := by decide +kernel
theorem dX9_saint_7 : decode cX9_saint 7 = .ok (.iload_n 2, 1) := by decide +kernel
theorem dX9_saint_8 : decode cX9_saint 8 = .ok (.invokestatic 252, 3) := by decide +kernel
theorem dX9_saint_11 : decode cX9_saint 11 = .ok (.ifCond .eq 28, 3) := by decide +kernel
theorem dX9_saint_14 : decode cX9_saint 14 = .ok (.iload_n 3, 1) := by decide +kernel
theorem dX9_saint_15 : decode cX9_saint 15 = .ok (.iconst 1, 1) := by decide +kernel
theorem dX9_saint_16 : decode cX9_saint 16 = .ok (.bipush 30, 2) := by decide +kernel
theorem dX9_saint_18 : decode cX9_saint 18 = .ok (.invokestatic 56, 3) := by decide +kernel
theorem dX9_saint_21 : decode cX9_saint 21 = .ok (.ifCond .eq 18, 3) := by decide +kernel
theorem dX9_saint_24 : decode cX9_saint 24 = .ok (.iload 4, 2) := by decide +kernel
theorem dX9_saint_26 : decode cX9_saint 26 = .ok (.iconst (-1), 1) := by decide +kernel
theorem dX9_saint_27 : decode cX9_saint 27 = .ok (.if_icmp .eq 14, 3) := by decide +kernel
theorem dX9_saint_30 : decode cX9_saint 30 = .ok (.aload_n 0, 1) := by decide +kernel
theorem dX9_saint_31 : decode cX9_saint 31 = .ok (.iload 4, 2) := by decide +kernel
theorem dX9_saint_33 : decode cX9_saint 33 = .ok (.invokevirtual 293, 3) := by decide +kernel
theorem dX9_saint_36 : decode cX9_saint 36 = .ok (.ifCond .ne 5, 3) := by decide +kernel
theorem dX9_saint_39 : decode cX9_saint 39 = .ok (.iconst (-1), 1) := by decide +kernel
theorem dX9_saint_40 : decode cX9_saint 40 = .ok (.ireturn, 1) := by decide +kernel
theorem dX9_saint_41 : decode cX9_saint 41 = .ok (.iconst 0, 1) := by decide +kernel
theorem dX9_saint_42 : decode cX9_saint 42 = .ok (.istore 5, 2) := by decide +kernel
theorem dX9_saint_44 : decode cX9_saint 44 = .ok (.iload 5, 2) := by decide +kernel
theorem dX9_saint_46 : decode cX9_saint 46 = .ok (.bipush 64, 2) := by decide +kernel
theorem dX9_saint_48 : decode cX9_saint 48 = .ok (.if_icmp .ge 17, 3) := by decide +kernel
theorem dX9_saint_51 : decode cX9_saint 51 = .ok (.aload_n 0, 1) := by decide +kernel
theorem dX9_saint_52 : decode cX9_saint 52 = .ok (.getfield 49, 3) := by decide +kernel
theorem dX9_saint_55 : decode cX9_saint 55 = .ok (.iload 5, 2) := by decide +kernel
theorem dX9_saint_57 : decode cX9_saint 57 = .ok (.iconst 0, 1) := by decide +kernel
theorem dX9_saint_58 : decode cX9_saint 58 = .ok (.iastore, 1) := by decide +kernel
theorem dX9_saint_59 : decode cX9_saint 59 = .ok (.iinc 5 1, 3) := by decide +kernel
theorem dX9_saint_62 : decode cX9_saint 62 = .ok (.goto (-18), 3) := by decide +kernel
theorem dX9_saint_65 : decode cX9_saint 65 = .ok (.iconst (-1), 1) := by decide +kernel
theorem dX9_saint_66 : decode cX9_saint 66 = .ok (.istore 5, 2) := by decide +kernel
theorem dX9_saint_68 : decode cX9_saint 68 = .ok (.bipush 100, 2) := by decide +kernel
theorem dX9_saint_70 : decode cX9_saint 70 = .ok (.istore 6, 2) := by decide +kernel
theorem dX9_saint_72 : decode cX9_saint 72 = .ok (.iconst 0, 1) := by decide +kernel
theorem dX9_saint_73 : decode cX9_saint 73 = .ok (.istore 7, 2) := by decide +kernel
theorem dX9_saint_75 : decode cX9_saint 75 = .ok (.iload 7, 2) := by decide +kernel
theorem dX9_saint_77 : decode cX9_saint 77 = .ok (.aload_n 0, 1) := by decide +kernel
theorem dX9_saint_78 : decode cX9_saint 78 = .ok (.getfield 7, 3) := by decide +kernel
theorem dX9_saint_81 : decode cX9_saint 81 = .ok (.iconst 0, 1) := by decide +kernel
theorem dX9_saint_82 : decode cX9_saint 82 = .ok (.iaload, 1) := by decide +kernel
theorem dX9_saint_83 : decode cX9_saint 83 = .ok (.invokestatic 341, 3) := by decide +kernel
theorem dX9_saint_86 : decode cX9_saint 86 = .ok (.if_icmp .ge 153, 3) := by decide +kernel
theorem dX9_saint_89 : decode cX9_saint 89 = .ok (.iconst 0, 1) := by decide +kernel
theorem dX9_saint_90 : decode cX9_saint 90 = .ok (.istore 8, 2) := by decide +kernel
theorem dX9_saint_92 : decode cX9_saint 92 = .ok (.iconst 0, 1) := by decide +kernel
theorem dX9_saint_93 : decode cX9_saint 93 = .ok (.istore 9, 2) := by decide +kernel
theorem dX9_saint_95 : decode cX9_saint 95 = .ok (.iconst 0, 1) := by decide +kernel
theorem dX9_saint_96 : decode cX9_saint 96 = .ok (.istore 10, 2) := by decide +kernel
theorem dX9_saint_98 : decode cX9_saint 98 = .ok (.iload 10, 2) := by decide +kernel
theorem dX9_saint_100 : decode cX9_saint 100 = .ok (.aload_n 0, 1) := by decide +kernel
theorem dX9_saint_101 : decode cX9_saint 101 = .ok (.getfield 7, 3) := by decide +kernel
theorem dX9_saint_104 : decode cX9_saint 104 = .ok (.iconst 0, 1) := by decide +kernel
theorem dX9_saint_105 : decode cX9_saint 105 = .ok (.iaload, 1) := by decide +kernel
theorem dX9_saint_106 : decode cX9_saint 106 = .ok (.if_icmp .ge 61, 3) := by decide +kernel
theorem dX9_saint_109 : decode cX9_saint 109 = .ok (.iload 8, 2) := by decide +kernel
theorem dX9_saint_111 : decode cX9_saint 111 = .ok (.aload_n 0, 1) := by decide +kernel
theorem dX9_saint_112 : decode cX9_saint 112 = .ok (.iload 7, 2) := by decide +kernel
theorem dX9_saint_114 : decode cX9_saint 114 = .ok (.iload 10, 2) := by decide +kernel
theorem dX9_saint_116 : decode cX9_saint 116 = .ok (.invokevirtual 344, 3) := by decide +kernel
theorem dX9_saint_119 : decode cX9_saint 119 = .ok (.iload_n 1, 1) := by decide +kernel
theorem dX9_saint_120 : decode cX9_saint 120 = .ok (.if_icmp .ne 10, 3) := by decide +kernel
theorem dX9_saint_123 : decode cX9_saint 123 = .ok (.iconst 1, 1) := by decide +kernel
theorem dX9_saint_124 : decode cX9_saint 124 = .ok (.iload 10, 2) := by decide +kernel
theorem dX9_saint_126 : decode cX9_saint 126 = .ok (.ishl, 1) := by decide +kernel
theorem dX9_saint_127 : decode cX9_saint 127 = .ok (.goto 4, 3) := by decide +kernel
theorem dX9_saint_130 : decode cX9_saint 130 = .ok (.iconst 0, 1) := by decide +kernel
theorem dX9_saint_131 : decode cX9_saint 131 = .ok (.ior, 1) := by decide +kernel
theorem dX9_saint_132 : decode cX9_saint 132 = .ok (.istore 8, 2) := by decide +kernel
theorem dX9_saint_134 : decode cX9_saint 134 = .ok (.iload 9, 2) := by decide +kernel
theorem dX9_saint_136 : decode cX9_saint 136 = .ok (.aload_n 0, 1) := by decide +kernel
theorem dX9_saint_137 : decode cX9_saint 137 = .ok (.iload 7, 2) := by decide +kernel
theorem dX9_saint_139 : decode cX9_saint 139 = .ok (.iload 10, 2) := by decide +kernel
theorem dX9_saint_141 : decode cX9_saint 141 = .ok (.invokevirtual 344, 3) := by decide +kernel
theorem dX9_saint_144 : decode cX9_saint 144 = .ok (.aload_n 0, 1) := by decide +kernel
theorem dX9_saint_145 : decode cX9_saint 145 = .ok (.iload 10, 2) := by decide +kernel
theorem dX9_saint_147 : decode cX9_saint 147 = .ok (.invokevirtual 258, 3) := by decide +kernel
theorem dX9_saint_150 : decode cX9_saint 150 = .ok (.if_icmp .eq 7, 3) := by decide +kernel
theorem dX9_saint_153 : decode cX9_saint 153 = .ok (.iconst 1, 1) := by decide +kernel
theorem dX9_saint_154 : decode cX9_saint 154 = .ok (.goto 4, 3) := by decide +kernel
theorem dX9_saint_157 : decode cX9_saint 157 = .ok (.iconst 0, 1) := by decide +kernel
theorem dX9_saint_158 : decode cX9_saint 158 = .ok (.iadd, 1) := by decide +kernel
theorem dX9_saint_159 : decode cX9_saint 159 = .ok (.istore 9, 2) := by decide +kernel
theorem dX9_saint_161 : decode cX9_saint 161 = .ok (.iinc 10 1, 3) := by decide +kernel
theorem dX9_saint_164 : decode cX9_saint 164 = .ok (.goto (-66), 3) := by decide +kernel
theorem dX9_saint_167 : decode cX9_saint 167 = .ok (.iload 9, 2) := by decide +kernel
theorem dX9_saint_169 : decode cX9_saint 169 = .ok (.iload 6, 2) := by decide +kernel
theorem dX9_saint_171 : decode cX9_saint 171 = .ok (.if_icmp .lt 6, 3) := by decide +kernel
theorem dX9_saint_174 : decode cX9_saint 174 = .ok (.goto 59, 3) := by decide +kernel
theorem dX9_saint_177 : decode cX9_saint 177 = .ok (.aload_n 0, 1) := by decide +kernel
theorem dX9_saint_178 : decode cX9_saint 178 = .ok (.getfield 49, 3) := by decide +kernel
theorem dX9_saint_181 : decode cX9_saint 181 = .ok (.iload 8, 2) := by decide +kernel
theorem dX9_saint_183 : decode cX9_saint 183 = .ok (.iaload, 1) := by decide +kernel
theorem dX9_saint_184 : decode cX9_saint 184 = .ok (.ifCond .ne 27, 3) := by decide +kernel
theorem dX9_saint_187 : decode cX9_saint 187 = .ok (.aload_n 0, 1) := by decide +kernel
theorem dX9_saint_188 : decode cX9_saint 188 = .ok (.getfield 49, 3) := by decide +kernel
theorem dX9_saint_191 : decode cX9_saint 191 = .ok (.iload 8, 2) := by decide +kernel
theorem dX9_saint_193 : decode cX9_saint 193 = .ok (.aload_n 0, 1) := by decide +kernel
theorem dX9_saint_194 : decode cX9_saint 194 = .ok (.iload_n 1, 1) := by decide +kernel
theorem dX9_saint_195 : decode cX9_saint 195 = .ok (.iload_n 2, 1) := by decide +kernel
theorem dX9_saint_196 : decode cX9_saint 196 = .ok (.iload_n 3, 1) := by decide +kernel
theorem dX9_saint_197 : decode cX9_saint 197 = .ok (.iload 8, 2) := by decide +kernel
theorem dX9_saint_199 : decode cX9_saint 199 = .ok (.invokevirtual 347, 3) := by decide +kernel
theorem dX9_saint_202 : decode cX9_saint 202 = .ok (.ifCond .eq 7, 3) := by decide +kernel
theorem dX9_saint_205 : decode cX9_saint 205 = .ok (.iconst 2, 1) := by decide +kernel
theorem dX9_saint_206 : decode cX9_saint 206 = .ok (.goto 4, 3) := by decide +kernel
theorem dX9_saint_209 : decode cX9_saint 209 = .ok (.iconst 1, 1) := by decide +kernel
theorem dX9_saint_210 : decode cX9_saint 210 = .ok (.iastore, 1) := by decide +kernel
theorem dX9_saint_211 : decode cX9_saint 211 = .ok (.aload_n 0, 1) := by decide +kernel
theorem dX9_saint_212 : decode cX9_saint 212 = .ok (.getfield 49, 3) := by decide +kernel
theorem dX9_saint_215 : decode cX9_saint 215 = .ok (.iload 8, 2) := by decide +kernel
theorem dX9_saint_217 : decode cX9_saint 217 = .ok (.iaload, 1) := by decide +kernel
theorem dX9_saint_218 : decode cX9_saint 218 = .ok (.iconst 1, 1) := by decide +kernel
theorem dX9_saint_219 : decode cX9_saint 219 = .ok (.if_icmp .ne 6, 3) := by decide +kernel
theorem dX9_saint_222 : decode cX9_saint 222 = .ok (.goto 11, 3) := by decide +kernel
theorem dX9_saint_225 : decode cX9_saint 225 = .ok (.iload 7, 2) := by decide +kernel
theorem dX9_saint_227 : decode cX9_saint 227 = .ok (.istore 5, 2) := by decide +kernel
theorem dX9_saint_229 : decode cX9_saint 229 = .ok (.iload 9, 2) := by decide +kernel
theorem dX9_saint_231 : decode cX9_saint 231 = .ok (.istore 6, 2) := by decide +kernel
theorem dX9_saint_233 : decode cX9_saint 233 = .ok (.iinc 7 1, 3) := by decide +kernel
theorem dX9_saint_236 : decode cX9_saint 236 = .ok (.goto (-161), 3) := by decide +kernel
theorem dX9_saint_239 : decode cX9_saint 239 = .ok (.iload 5, 2) := by decide +kernel
theorem dX9_saint_241 : decode cX9_saint 241 = .ok (.ifCond .ge 5, 3) := by decide +kernel
theorem dX9_saint_244 : decode cX9_saint 244 = .ok (.iconst (-1), 1) := by decide +kernel
theorem dX9_saint_245 : decode cX9_saint 245 = .ok (.ireturn, 1) := by decide +kernel
theorem dX9_saint_246 : decode cX9_saint 246 = .ok (.iload 4, 2) := by decide +kernel
theorem dX9_saint_248 : decode cX9_saint 248 = .ok (.iconst (-1), 1) := by decide +kernel
theorem dX9_saint_249 : decode cX9_saint 249 = .ok (.if_icmp .ne 8, 3) := by decide +kernel
theorem dX9_saint_252 : decode cX9_saint 252 = .ok (.iload 6, 2) := by decide +kernel
theorem dX9_saint_254 : decode cX9_saint 254 = .ok (.goto 11, 3) := by decide +kernel
theorem dX9_saint_257 : decode cX9_saint 257 = .ok (.aload_n 0, 1) := by decide +kernel
theorem dX9_saint_258 : decode cX9_saint 258 = .ok (.iload 5, 2) := by decide +kernel
theorem dX9_saint_260 : decode cX9_saint 260 = .ok (.iload 4, 2) := by decide +kernel
theorem dX9_saint_262 : decode cX9_saint 262 = .ok (.invokevirtual 344, 3) := by decide +kernel
theorem dX9_saint_265 : decode cX9_saint 265 = .ok (.ireturn, 1) := by decide +kernel
theorem dX9_seen_0 : decode cX9_seen 0 = .ok (.iload_n 1, 1) := by decide +kernel
theorem dX9_seen_1 : decode cX9_seen 1 = .ok (.iconst (-1), 1) := by decide +kernel
theorem dX9_seen_2 : decode cX9_seen 2 = .ok (.if_icmp .ne 13, 3) := by decide +kernel
theorem dX9_seen_5 : decode cX9_seen 5 = .ok (.aload_n 0, 1) := by decide +kernel
theorem dX9_seen_6 : decode cX9_seen 6 = .ok (.getfield 7, 3) := by decide +kernel
theorem dX9_seen_9 : decode cX9_seen 9 = .ok (.bipush 7, 2) := by decide +kernel
theorem dX9_seen_11 : decode cX9_seen 11 = .ok (.iconst 0, 1) := by decide +kernel
theorem dX9_seen_12 : decode cX9_seen 12 = .ok (.iastore, 1) := by decide +kernel
theorem dX9_seen_13 : decode cX9_seen 13 = .ok (.iconst 0, 1) := by decide +kernel
theorem dX9_seen_14 : decode cX9_seen 14 = .ok (.ireturn, 1) := by decide +kernel
theorem dX9_seen_15 : decode cX9_seen 15 = .ok (.iload_n 1, 1) := by decide +kernel
theorem dX9_seen_16 : decode cX9_seen 16 = .ok (.iconst 0, 1) := by decide +kernel
theorem dX9_seen_17 : decode cX9_seen 17 = .ok (.bipush 60, 2) := by decide +kernel
theorem dX9_seen_19 : decode cX9_seen 19 = .ok (.invokestatic 56, 3) := by decide +kernel
theorem dX9_seen_22 : decode cX9_seen 22 = .ok (.ifCond .eq 15, 3) := by decide +kernel
theorem dX9_seen_25 : decode cX9_seen 25 = .ok (.aload_n 0, 1) := by decide +kernel
theorem dX9_seen_26 : decode cX9_seen 26 = .ok (.getfield 7, 3) := by decide +kernel
theorem dX9_seen_29 : decode cX9_seen 29 = .ok (.bipush 7, 2) := by decide +kernel
theorem dX9_seen_31 : decode cX9_seen 31 = .ok (.iaload, 1) := by decide +kernel
theorem dX9_seen_32 : decode cX9_seen 32 = .ok (.bipush 8, 2) := by decide +kernel
theorem dX9_seen_34 : decode cX9_seen 34 = .ok (.if_icmp .ne 6, 3) := by decide +kernel
theorem dX9_seen_37 : decode cX9_seen 37 = .ok (.bipush (-2), 2) := by decide +kernel
theorem dX9_seen_39 : decode cX9_seen 39 = .ok (.ireturn, 1) := by decide +kernel
theorem dX9_seen_40 : decode cX9_seen 40 = .ok (.aload_n 0, 1) := by decide +kernel
theorem dX9_seen_41 : decode cX9_seen 41 = .ok (.getfield 7, 3) := by decide +kernel
theorem dX9_seen_44 : decode cX9_seen 44 = .ok (.bipush 28, 2) := by decide +kernel
theorem dX9_seen_46 : decode cX9_seen 46 = .ok (.aload_n 0, 1) := by decide +kernel
theorem dX9_seen_47 : decode cX9_seen 47 = .ok (.getfield 7, 3) := by decide +kernel
theorem dX9_seen_50 : decode cX9_seen 50 = .ok (.bipush 7, 2) := by decide +kernel
theorem dX9_seen_52 : decode cX9_seen 52 = .ok (.iaload, 1) := by decide +kernel
theorem dX9_seen_53 : decode cX9_seen 53 = .ok (.iadd, 1) := by decide +kernel
theorem dX9_seen_54 : decode cX9_seen 54 = .ok (.iload_n 1, 1) := by decide +kernel
theorem dX9_seen_55 : decode cX9_seen 55 = .ok (.iastore, 1) := by decide +kernel
theorem dX9_seen_56 : decode cX9_seen 56 = .ok (.aload_n 0, 1) := by decide +kernel
theorem dX9_seen_57 : decode cX9_seen 57 = .ok (.getfield 7, 3) := by decide +kernel
theorem dX9_seen_60 : decode cX9_seen 60 = .ok (.bipush 7, 2) := by decide +kernel
theorem dX9_seen_62 : decode cX9_seen 62 = .ok (.dup2, 1) := by decide +kernel
theorem dX9_seen_63 : decode cX9_seen 63 = .ok (.iaload, 1) := by decide +kernel
theorem dX9_seen_64 : decode cX9_seen 64 = .ok (.iconst 1, 1) := by decide +kernel
theorem dX9_seen_65 : decode cX9_seen 65 = .ok (.iadd, 1) := by decide +kernel
theorem dX9_seen_66 : decode cX9_seen 66 = .ok (.iastore, 1) := by decide +kernel
theorem dX9_seen_67 : decode cX9_seen 67 = .ok (.aload_n 0, 1) := by decide +kernel
theorem dX9_seen_68 : decode cX9_seen 68 = .ok (.getfield 7, 3) := by decide +kernel
theorem dX9_seen_71 : decode cX9_seen 71 = .ok (.bipush 7, 2) := by decide +kernel
theorem dX9_seen_73 : decode cX9_seen 73 = .ok (.iaload, 1) := by decide +kernel
theorem dX9_seen_74 : decode cX9_seen 74 = .ok (.ireturn, 1) := by decide +kernel
theorem dX9_canBe_0 : decode cX9_canBe 0 = .ok (.aload_n 0, 1) := by decide +kernel
theorem dX9_canBe_1 : decode cX9_canBe 1 = .ok (.iload_n 1, 1) := by decide +kernel
theorem dX9_canBe_2 : decode cX9_canBe 2 = .ok (.putfield 261, 3) := by decide +kernel
theorem dX9_canBe_5 : decode cX9_canBe 5 = .ok (.aload_n 0, 1) := by decide +kernel
theorem dX9_canBe_6 : decode cX9_canBe 6 = .ok (.iload_n 2, 1) := by decide +kernel
theorem dX9_canBe_7 : decode cX9_canBe 7 = .ok (.putfield 264, 3) := by decide +kernel
theorem dX9_canBe_10 : decode cX9_canBe 10 = .ok (.aload_n 0, 1) := by decide +kernel
theorem dX9_canBe_11 : decode cX9_canBe 11 = .ok (.iload_n 3, 1) := by decide +kernel
theorem dX9_canBe_12 : decode cX9_canBe 12 = .ok (.putfield 276, 3) := by decide +kernel
theorem dX9_canBe_15 : decode cX9_canBe 15 = .ok (.aload_n 0, 1) := by decide +kernel
theorem dX9_canBe_16 : decode cX9_canBe 16 = .ok (.aload_n 0, 1) := by decide +kernel
theorem dX9_canBe_17 : decode cX9_canBe 17 = .ok (.iload_n 1, 1) := by decide +kernel
theorem dX9_canBe_18 : decode cX9_canBe 18 = .ok (.iload_n 2, 1) := by decide +kernel
theorem dX9_canBe_19 : decode cX9_canBe 19 = .ok (.aload_n 0, 1) := by decide +kernel
theorem dX9_canBe_20 : decode cX9_canBe 20 = .ok (.getfield 7, 3) := by decide +kernel
theorem dX9_canBe_23 : decode cX9_canBe 23 = .ok (.iconst 1, 1) := by decide +kernel
theorem dX9_canBe_24 : decode cX9_canBe 24 = .ok (.iaload, 1) := by decide +kernel
theorem dX9_canBe_25 : decode cX9_canBe 25 = .ok (.iconst 1, 1) := by decide +kernel
theorem dX9_canBe_26 : decode cX9_canBe 26 = .ok (.iadd, 1) := by decide +kernel
theorem dX9_canBe_27 : decode cX9_canBe 27 = .ok (.invokevirtual 255, 3) := by decide +kernel
theorem dX9_canBe_30 : decode cX9_canBe 30 = .ok (.putfield 267, 3) := by decide +kernel
theorem dX9_canBe_33 : decode cX9_canBe 33 = .ok (.iconst 0, 1) := by decide +kernel
theorem dX9_canBe_34 : decode cX9_canBe 34 = .ok (.istore 4, 2) := by decide +kernel
theorem dX9_canBe_36 : decode cX9_canBe 36 = .ok (.iload 4, 2) := by decide +kernel
theorem dX9_canBe_38 : decode cX9_canBe 38 = .ok (.aload_n 0, 1) := by decide +kernel
theorem dX9_canBe_39 : decode cX9_canBe 39 = .ok (.getfield 7, 3) := by decide +kernel
theorem dX9_canBe_42 : decode cX9_canBe 42 = .ok (.bipush 7, 2) := by decide +kernel
theorem dX9_canBe_44 : decode cX9_canBe 44 = .ok (.iaload, 1) := by decide +kernel
theorem dX9_canBe_45 : decode cX9_canBe 45 = .ok (.if_icmp .ge 45, 3) := by decide +kernel
theorem dX9_canBe_48 : decode cX9_canBe 48 = .ok (.aload_n 0, 1) := by decide +kernel
theorem dX9_canBe_49 : decode cX9_canBe 49 = .ok (.aload_n 0, 1) := by decide +kernel
theorem dX9_canBe_50 : decode cX9_canBe 50 = .ok (.getfield 7, 3) := by decide +kernel
theorem dX9_canBe_53 : decode cX9_canBe 53 = .ok (.iconst 1, 1) := by decide +kernel
theorem dX9_canBe_54 : decode cX9_canBe 54 = .ok (.iaload, 1) := by decide +kernel
theorem dX9_canBe_55 : decode cX9_canBe 55 = .ok (.iconst 1, 1) := by decide +kernel
theorem dX9_canBe_56 : decode cX9_canBe 56 = .ok (.iadd, 1) := by decide +kernel
theorem dX9_canBe_57 : decode cX9_canBe 57 = .ok (.iload 4, 2) := by decide +kernel
theorem dX9_canBe_59 : decode cX9_canBe 59 = .ok (.iadd, 1) := by decide +kernel
theorem dX9_canBe_60 : decode cX9_canBe 60 = .ok (.invokevirtual 290, 3) := by decide +kernel
theorem dX9_canBe_63 : decode cX9_canBe 63 = .ok (.istore 5, 2) := by decide +kernel
theorem dX9_canBe_65 : decode cX9_canBe 65 = .ok (.aload_n 0, 1) := by decide +kernel
theorem dX9_canBe_66 : decode cX9_canBe 66 = .ok (.getfield 267, 3) := by decide +kernel
theorem dX9_canBe_69 : decode cX9_canBe 69 = .ok (.aload_n 0, 1) := by decide +kernel
theorem dX9_canBe_70 : decode cX9_canBe 70 = .ok (.getfield 7, 3) := by decide +kernel
theorem dX9_canBe_73 : decode cX9_canBe 73 = .ok (.bipush 28, 2) := by decide +kernel
theorem dX9_canBe_75 : decode cX9_canBe 75 = .ok (.iload 4, 2) := by decide +kernel
theorem dX9_canBe_77 : decode cX9_canBe 77 = .ok (.iadd, 1) := by decide +kernel
theorem dX9_canBe_78 : decode cX9_canBe 78 = .ok (.iaload, 1) := by decide +kernel
theorem dX9_canBe_79 : decode cX9_canBe 79 = .ok (.if_icmp .eq 5, 3) := by decide +kernel
theorem dX9_canBe_82 : decode cX9_canBe 82 = .ok (.iconst 0, 1) := by decide +kernel
theorem dX9_canBe_83 : decode cX9_canBe 83 = .ok (.ireturn, 1) := by decide +kernel
theorem dX9_canBe_84 : decode cX9_canBe 84 = .ok (.iinc 4 1, 3) := by decide +kernel
theorem dX9_canBe_87 : decode cX9_canBe 87 = .ok (.goto (-51), 3) := by decide +kernel
theorem dX9_canBe_90 : decode cX9_canBe 90 = .ok (.iconst 1, 1) := by decide +kernel
theorem dX9_canBe_91 : decode cX9_canBe 91 = .ok (.ireturn, 1) := by decide +kernel
theorem dX9_who_0 : decode cX9_who 0 = .ok (.iload_n 1, 1) := by decide +kernel
theorem dX9_who_1 : decode cX9_who 1 = .ok (.invokestatic 249, 3) := by decide +kernel
theorem dX9_who_4 : decode cX9_who 4 = .ok (.ifCond .eq 15, 3) := by decide +kernel
theorem dX9_who_7 : decode cX9_who 7 = .ok (.iload_n 2, 1) := by decide +kernel
theorem dX9_who_8 : decode cX9_who 8 = .ok (.invokestatic 252, 3) := by decide +kernel
theorem dX9_who_11 : decode cX9_who 11 = .ok (.ifCond .eq 8, 3) := by decide +kernel
theorem dX9_who_14 : decode cX9_who 14 = .ok (.iload_n 3, 1) := by decide +kernel
theorem dX9_who_15 : decode cX9_who 15 = .ok (.iconst (-1), 1) := by decide +kernel
theorem dX9_who_16 : decode cX9_who 16 = .ok (.if_icmp .ge 5, 3) := by decide +kernel
theorem dX9_who_19 : decode cX9_who 19 = .ok (.iconst (-1), 1) := by decide +kernel
theorem dX9_who_20 : decode cX9_who 20 = .ok (.ireturn, 1) := by decide +kernel
theorem dX9_who_21 : decode cX9_who 21 = .ok (.iconst 0, 1) := by decide +kernel
theorem dX9_who_22 : decode cX9_who 22 = .ok (.istore 4, 2) := by decide +kernel
theorem dX9_who_24 : decode cX9_who 24 = .ok (.iconst 0, 1) := by decide +kernel
theorem dX9_who_25 : decode cX9_who 25 = .ok (.istore 5, 2) := by decide +kernel
theorem dX9_who_27 : decode cX9_who 27 = .ok (.iload 5, 2) := by decide +kernel
theorem dX9_who_29 : decode cX9_who 29 = .ok (.iconst 1, 1) := by decide +kernel
theorem dX9_who_30 : decode cX9_who 30 = .ok (.aload_n 0, 1) := by decide +kernel
theorem dX9_who_31 : decode cX9_who 31 = .ok (.getfield 7, 3) := by decide +kernel
theorem dX9_who_34 : decode cX9_who 34 = .ok (.iconst 0, 1) := by decide +kernel
theorem dX9_who_35 : decode cX9_who 35 = .ok (.iaload, 1) := by decide +kernel
theorem dX9_who_36 : decode cX9_who 36 = .ok (.ishl, 1) := by decide +kernel
theorem dX9_who_37 : decode cX9_who 37 = .ok (.if_icmp .ge 35, 3) := by decide +kernel
theorem dX9_who_40 : decode cX9_who 40 = .ok (.aload_n 0, 1) := by decide +kernel
theorem dX9_who_41 : decode cX9_who 41 = .ok (.iload_n 1, 1) := by decide +kernel
theorem dX9_who_42 : decode cX9_who 42 = .ok (.iload_n 2, 1) := by decide +kernel
theorem dX9_who_43 : decode cX9_who 43 = .ok (.iload 5, 2) := by decide +kernel
theorem dX9_who_45 : decode cX9_who 45 = .ok (.invokevirtual 351, 3) := by decide +kernel
theorem dX9_who_48 : decode cX9_who 48 = .ok (.ifCond .ne 6, 3) := by decide +kernel
theorem dX9_who_51 : decode cX9_who 51 = .ok (.goto 15, 3) := by decide +kernel
theorem dX9_who_54 : decode cX9_who 54 = .ok (.iload 4, 2) := by decide +kernel
theorem dX9_who_56 : decode cX9_who 56 = .ok (.iload_n 3, 1) := by decide +kernel
theorem dX9_who_57 : decode cX9_who 57 = .ok (.if_icmp .ne 6, 3) := by decide +kernel
theorem dX9_who_60 : decode cX9_who 60 = .ok (.iload 5, 2) := by decide +kernel
theorem dX9_who_62 : decode cX9_who 62 = .ok (.ireturn, 1) := by decide +kernel
theorem dX9_who_63 : decode cX9_who 63 = .ok (.iinc 4 1, 3) := by decide +kernel
theorem dX9_who_66 : decode cX9_who 66 = .ok (.iinc 5 1, 3) := by decide +kernel
theorem dX9_who_69 : decode cX9_who 69 = .ok (.goto (-42), 3) := by decide +kernel
theorem dX9_who_72 : decode cX9_who 72 = .ok (.iload_n 3, 1) := by decide +kernel
theorem dX9_who_73 : decode cX9_who 73 = .ok (.iconst (-1), 1) := by decide +kernel
theorem dX9_who_74 : decode cX9_who 74 = .ok (.if_icmp .ne 8, 3) := by decide +kernel
theorem dX9_who_77 : decode cX9_who 77 = .ok (.iload 4, 2) := by decide +kernel
theorem dX9_who_79 : decode cX9_who 79 = .ok (.goto 4, 3) := by decide +kernel
theorem dX9_who_82 : decode cX9_who 82 = .ok (.iconst (-1), 1) := by decide +kernel
theorem dX9_who_83 : decode cX9_who 83 = .ok (.ireturn, 1) := by decide +kernel
theorem dX9_image_0 : decode cX9_image 0 = .ok (.aload_n 0, 1) := by decide +kernel
theorem dX9_image_1 : decode cX9_image 1 = .ok (.getfield 7, 3) := by decide +kernel
theorem dX9_image_4 : decode cX9_image 4 = .ok (.aload_n 0, 1) := by decide +kernel
theorem dX9_image_5 : decode cX9_image 5 = .ok (.getfield 13, 3) := by decide +kernel
theorem dX9_image_8 : decode cX9_image 8 = .ok (.invokestatic 52, 3) := by decide +kernel
theorem dX9_image_11 : decode cX9_image 11 = .ok (.aload_n 0, 1) := by decide +kernel
theorem dX9_image_12 : decode cX9_image 12 = .ok (.getfield 7, 3) := by decide +kernel
theorem dX9_image_15 : decode cX9_image 15 = .ok (.iconst 1, 1) := by decide +kernel
theorem dX9_image_16 : decode cX9_image 16 = .ok (.iaload, 1) := by decide +kernel
theorem dX9_image_17 : decode cX9_image 17 = .ok (.ireturn, 1) := by decide +kernel
theorem dX9_back_0 : decode cX9_back 0 = .ok (.aload_n 0, 1) := by decide +kernel
theorem dX9_back_1 : decode cX9_back 1 = .ok (.getfield 13, 3) := by decide +kernel
theorem dX9_back_4 : decode cX9_back 4 = .ok (.aload_n 0, 1) := by decide +kernel
theorem dX9_back_5 : decode cX9_back 5 = .ok (.getfield 7, 3) := by decide +kernel
theorem dX9_back_8 : decode cX9_back 8 = .ok (.invokestatic 52, 3) := by decide +kernel
theorem dX9_back_11 : decode cX9_back 11 = .ok (.aload_n 0, 1) := by decide +kernel
theorem dX9_back_12 : decode cX9_back 12 = .ok (.getfield 7, 3) := by decide +kernel
theorem dX9_back_15 : decode cX9_back 15 = .ok (.iconst 1, 1) := by decide +kernel
theorem dX9_back_16 : decode cX9_back 16 = .ok (.iaload, 1) := by decide +kernel
theorem dX9_back_17 : decode cX9_back 17 = .ok (.ireturn, 1) := by decide +kernel
theorem dX9_about_0 : decode cX9_about 0 = .ok (.iload_n 1, 1) := by decide +kernel
theorem dX9_about_1 : decode cX9_about 1 = .ok (.iconst 0, 1) := by decide +kernel
theorem dX9_about_2 : decode cX9_about 2 = .ok (.bipush 7, 2) := by decide +kernel
theorem dX9_about_4 : decode cX9_about 4 = .ok (.invokestatic 56, 3) := by decide +kernel
theorem dX9_about_7 : decode cX9_about 7 = .ok (.ifCond .eq 12, 3) := by decide +kernel
theorem dX9_about_10 : decode cX9_about 10 = .ok (.aload_n 0, 1) := by decide +kernel
theorem dX9_about_11 : decode cX9_about 11 = .ok (.getfield 7, 3) := by decide +kernel
theorem dX9_about_14 : decode cX9_about 14 = .ok (.iload_n 1, 1) := by decide +kernel
theorem dX9_about_15 : decode cX9_about 15 = .ok (.iaload, 1) := by decide +kernel
theorem dX9_about_16 : decode cX9_about 16 = .ok (.goto 18, 3) := by decide +kernel
theorem dX9_about_19 : decode cX9_about 19 = .ok (.iload_n 1, 1) := by decide +kernel
theorem dX9_about_20 : decode cX9_about 20 = .ok (.bipush 8, 2) := by decide +kernel
theorem dX9_about_22 : decode cX9_about 22 = .ok (.if_icmp .ne 10, 3) := by decide +kernel
theorem dX9_about_25 : decode cX9_about 25 = .ok (.aload_n 0, 1) := by decide +kernel
theorem dX9_about_26 : decode cX9_about 26 = .ok (.getfield 60, 3) := by decide +kernel
theorem dX9_about_29 : decode cX9_about 29 = .ok (.goto 5, 3) := by decide +kernel
theorem dX9_about_32 : decode cX9_about 32 = .ok (.bipush (-2), 2) := by decide +kernel
theorem dX9_about_34 : decode cX9_about 34 = .ok (.ireturn, 1) := by decide +kernel
theorem dJ9_max_7cf53_0 : decode cJ9_max_7cf53 0 = .ok (.iload_n 0, 1) := by decide +kernel
theorem dJ9_max_7cf53_1 : decode cJ9_max_7cf53 1 = .ok (.iload_n 1, 1) := by decide +kernel
theorem dJ9_max_7cf53_2 : decode cJ9_max_7cf53 2 = .ok (.if_icmp .lt 7, 3) := by decide +kernel
theorem dJ9_max_7cf53_5 : decode cJ9_max_7cf53 5 = .ok (.iload_n 0, 1) := by decide +kernel
theorem dJ9_max_7cf53_6 : decode cJ9_max_7cf53 6 = .ok (.goto 4, 3) := by decide +kernel
theorem dJ9_max_7cf53_9 : decode cJ9_max_7cf53 9 = .ok (.iload_n 1, 1) := by decide +kernel
theorem dJ9_max_7cf53_10 : decode cJ9_max_7cf53 10 = .ok (.ireturn, 1) := by decide +kernel
theorem dJ9_min_7cf53_0 : decode cJ9_min_7cf53 0 = .ok (.iload_n 0, 1) := by decide +kernel
theorem dJ9_min_7cf53_1 : decode cJ9_min_7cf53 1 = .ok (.iload_n 1, 1) := by decide +kernel
theorem dJ9_min_7cf53_2 : decode cJ9_min_7cf53 2 = .ok (.if_icmp .gt 7, 3) := by decide +kernel
theorem dJ9_min_7cf53_5 : decode cJ9_min_7cf53 5 = .ok (.iload_n 0, 1) := by decide +kernel
theorem dJ9_min_7cf53_6 : decode cJ9_min_7cf53 6 = .ok (.goto 4, 3) := by decide +kernel
theorem dJ9_min_7cf53_9 : decode cJ9_min_7cf53 9 = .ok (.iload_n 1, 1) := by decide +kernel
theorem dJ9_min_7cf53_10 : decode cJ9_min_7cf53 10 = .ok (.ireturn, 1) := by decide +kernel
theorem dJ0_length_8abf5_0 : decode cJ0_length_8abf5 0 = .ok (.aload_n 0, 1) := by decide +kernel
theorem dJ0_length_8abf5_1 : decode cJ0_length_8abf5 1 = .ok (.getfield 9, 3) := by decide +kernel
theorem dJ0_length_8abf5_4 : decode cJ0_length_8abf5 4 = .ok (.arraylength, 1) := by decide +kernel
theorem dJ0_length_8abf5_5 : decode cJ0_length_8abf5 5 = .ok (.aload_n 0, 1) := by decide +kernel
theorem dJ0_length_8abf5_6 : decode cJ0_length_8abf5 6 = .ok (.invokevirtual 335, 3) := by decide +kernel
theorem dJ0_length_8abf5_9 : decode cJ0_length_8abf5 9 = .ok (.ishr, 1) := by decide +kernel
theorem dJ0_length_8abf5_10 : decode cJ0_length_8abf5 10 = .ok (.ireturn, 1) := by decide +kernel
theorem dJ0_charAt_5068e_0 : decode cJ0_charAt_5068e 0 = .ok (.aload_n 0, 1) := by decide +kernel
theorem dJ0_charAt_5068e_1 : decode cJ0_charAt_5068e 1 = .ok (.invokevirtual 492, 3) := by decide +kernel
theorem dJ0_charAt_5068e_4 : decode cJ0_charAt_5068e 4 = .ok (.ifCond .eq 12, 3) := by decide +kernel
theorem dJ0_charAt_5068e_7 : decode cJ0_charAt_5068e 7 = .ok (.aload_n 0, 1) := by decide +kernel
theorem dJ0_charAt_5068e_8 : decode cJ0_charAt_5068e 8 = .ok (.getfield 9, 3) := by decide +kernel
theorem dJ0_charAt_5068e_11 : decode cJ0_charAt_5068e 11 = .ok (.iload_n 1, 1) := by decide +kernel
theorem dJ0_charAt_5068e_12 : decode cJ0_charAt_5068e 12 = .ok (.invokestatic 495, 3) := by decide +kernel
theorem dJ0_charAt_5068e_15 : decode cJ0_charAt_5068e 15 = .ok (.ireturn, 1) := by decide +kernel
theorem dJ0_charAt_5068e_16 : decode cJ0_charAt_5068e 16 = .ok (.aload_n 0, 1) := by decide +kernel
theorem dJ0_charAt_5068e_17 : decode cJ0_charAt_5068e 17 = .ok (.getfield 9, 3) := by decide +kernel
theorem dJ0_charAt_5068e_20 : decode cJ0_charAt_5068e 20 = .ok (.iload_n 1, 1) := by decide +kernel
theorem dJ0_charAt_5068e_21 : decode cJ0_charAt_5068e 21 = .ok (.invokestatic 498, 3) := by decide +kernel
theorem dJ0_charAt_5068e_24 : decode cJ0_charAt_5068e 24 = .ok (.ireturn, 1) := by decide +kernel
theorem dJ0_coder_7d493_0 : decode cJ0_coder_7d493 0 = .ok (.getstatic 38, 3) := by decide +kernel
theorem dJ0_coder_7d493_3 : decode cJ0_coder_7d493 3 = .ok (.ifCond .eq 10, 3) := by decide +kernel
theorem dJ0_coder_7d493_6 : decode cJ0_coder_7d493 6 = .ok (.aload_n 0, 1) := by decide +kernel
theorem dJ0_coder_7d493_7 : decode cJ0_coder_7d493 7 = .ok (.getfield 15, 3) := by decide +kernel
theorem dJ0_coder_7d493_10 : decode cJ0_coder_7d493 10 = .ok (.goto 4, 3) := by decide +kernel
theorem dJ0_coder_7d493_13 : decode cJ0_coder_7d493 13 = .ok (.iconst 1, 1) := by decide +kernel
theorem dJ0_coder_7d493_14 : decode cJ0_coder_7d493 14 = .ok (.ireturn, 1) := by decide +kernel
theorem dJ0_isLatin1_aae02_0 : decode cJ0_isLatin1_aae02 0 = .ok (.getstatic 38, 3) := by decide +kernel
theorem dJ0_isLatin1_aae02_3 : decode cJ0_isLatin1_aae02 3 = .ok (.ifCond .eq 14, 3) := by decide +kernel
theorem dJ0_isLatin1_aae02_6 : decode cJ0_isLatin1_aae02 6 = .ok (.aload_n 0, 1) := by decide +kernel
theorem dJ0_isLatin1_aae02_7 : decode cJ0_isLatin1_aae02 7 = .ok (.getfield 15, 3) := by decide +kernel
theorem dJ0_isLatin1_aae02_10 : decode cJ0_isLatin1_aae02 10 = .ok (.ifCond .ne 7, 3) := by decide +kernel
theorem dJ0_isLatin1_aae02_13 : decode cJ0_isLatin1_aae02 13 = .ok (.iconst 1, 1) := by decide +kernel
theorem dJ0_isLatin1_aae02_14 : decode cJ0_isLatin1_aae02 14 = .ok (.goto 4, 3) := by decide +kernel
theorem dJ0_isLatin1_aae02_17 : decode cJ0_isLatin1_aae02 17 = .ok (.iconst 0, 1) := by decide +kernel
theorem dJ0_isLatin1_aae02_18 : decode cJ0_isLatin1_aae02 18 = .ok (.ireturn, 1) := by decide +kernel
theorem dJ0_checkIndex_df160_0 : decode cJ0_checkIndex_df160 0 = .ok (.iload_n 0, 1) := by decide +kernel
theorem dJ0_checkIndex_df160_1 : decode cJ0_checkIndex_df160 1 = .ok (.iload_n 1, 1) := by decide +kernel
theorem dJ0_checkIndex_df160_2 : decode cJ0_checkIndex_df160 2 = .ok (.getstatic 1053, 3) := by decide +kernel
theorem dJ0_checkIndex_df160_5 : decode cJ0_checkIndex_df160 5 = .ok (.invokestatic 1059, 3) := by decide +kernel
theorem dJ0_checkIndex_df160_8 : decode cJ0_checkIndex_df160 8 = .ok (.pop, 1) := by decide +kernel
theorem dJ0_checkIndex_df160_9 : decode cJ0_checkIndex_df160 9 = .ok (.return_, 1) := by decide +kernel
theorem dJ1_charAt_3b067_0 : decode cJ1_charAt_3b067 0 = .ok (.iload_n 1, 1) := by decide +kernel
theorem dJ1_charAt_3b067_1 : decode cJ1_charAt_3b067 1 = .ok (.aload_n 0, 1) := by decide +kernel
theorem dJ1_charAt_3b067_2 : decode cJ1_charAt_3b067 2 = .ok (.arraylength, 1) := by decide +kernel
theorem dJ1_charAt_3b067_3 : decode cJ1_charAt_3b067 3 = .ok (.invokestatic 9, 3) := by decide +kernel
theorem dJ1_charAt_3b067_6 : decode cJ1_charAt_3b067 6 = .ok (.aload_n 0, 1) := by decide +kernel
theorem dJ1_charAt_3b067_7 : decode cJ1_charAt_3b067 7 = .ok (.iload_n 1, 1) := by decide +kernel
theorem dJ1_charAt_3b067_8 : decode cJ1_charAt_3b067 8 = .ok (.baload, 1) := by decide +kernel
theorem dJ1_charAt_3b067_9 : decode cJ1_charAt_3b067 9 = .ok (.sipush 255, 3) := by decide +kernel
theorem dJ1_charAt_3b067_12 : decode cJ1_charAt_3b067 12 = .ok (.iand, 1) := by decide +kernel
theorem dJ1_charAt_3b067_13 : decode cJ1_charAt_3b067 13 = .ok (.i2c, 1) := by decide +kernel
theorem dJ1_charAt_3b067_14 : decode cJ1_charAt_3b067 14 = .ok (.ireturn, 1) := by decide +kernel
theorem dJ2_getChar_3b067_0 : decode cJ2_getChar_3b067 0 = .ok (.getstatic 44, 3) := by decide +kernel
theorem dJ2_getChar_3b067_3 : decode cJ2_getChar_3b067 3 = .ok (.ifCond .ne 25, 3) := by decide +kernel
theorem dJ2_getChar_3b067_6 : decode cJ2_getChar_3b067 6 = .ok (.iload_n 1, 1) := by decide +kernel
theorem dJ2_getChar_3b067_7 : decode cJ2_getChar_3b067 7 = .ok (.ifCond .lt 11, 3) := by decide +kernel
theorem dJ2_getChar_3b067_10 : decode cJ2_getChar_3b067 10 = .ok (.iload_n 1, 1) := by decide +kernel
theorem dJ2_getChar_3b067_11 : decode cJ2_getChar_3b067 11 = .ok (.aload_n 0, 1) := by decide +kernel
theorem dJ2_getChar_3b067_12 : decode cJ2_getChar_3b067 12 = .ok (.invokestatic 48, 3) := by decide +kernel
theorem dJ2_getChar_3b067_15 : decode cJ2_getChar_3b067 15 = .ok (.if_icmp .lt 13, 3) := by decide +kernel
theorem dJ2_getChar_3b067_18 : decode cJ2_getChar_3b067 18 = .ok (.new 52, 3) := by decide +kernel
theorem dJ2_getChar_3b067_21 : decode cJ2_getChar_3b067 21 = .ok (.dup, 1) := by decide +kernel
theorem dJ2_getChar_3b067_22 : decode cJ2_getChar_3b067 22 = .ok (.ldc 54, 2) := by decide +kernel
theorem dJ2_getChar_3b067_24 : decode cJ2_getChar_3b067 24 = .ok (.invokespecial 56, 3) := by decide +kernel
theorem dJ2_getChar_3b067_27 : decode cJ2_getChar_3b067 27 = .ok (.athrow, 1) := by decide +kernel
theorem dJ2_getChar_3b067_28 : decode cJ2_getChar_3b067 28 = .ok (.iload_n 1, 1) := by decide +kernel
theorem dJ2_getChar_3b067_29 : decode cJ2_getChar_3b067 29 = .ok (.iconst 1, 1) := by decide +kernel
theorem dJ2_getChar_3b067_30 : decode cJ2_getChar_3b067 30 = .ok (.ishl, 1) := by decide +kernel
theorem dJ2_getChar_3b067_31 : decode cJ2_getChar_3b067 31 = .ok (.istore_n 1, 1) := by decide +kernel
theorem dJ2_getChar_3b067_32 : decode cJ2_getChar_3b067 32 = .ok (.aload_n 0, 1) := by decide +kernel
theorem dJ2_getChar_3b067_33 : decode cJ2_getChar_3b067 33 = .ok (.iload_n 1, 1) := by decide +kernel
theorem dJ2_getChar_3b067_34 : decode cJ2_getChar_3b067 34 = .ok (.iinc 1 1, 3) := by decide +kernel
theorem dJ2_getChar_3b067_37 : decode cJ2_getChar_3b067 37 = .ok (.baload, 1) := by decide +kernel
theorem dJ2_getChar_3b067_38 : decode cJ2_getChar_3b067 38 = .ok (.sipush 255, 3) := by decide +kernel
theorem dJ2_getChar_3b067_41 : decode cJ2_getChar_3b067 41 = .ok (.iand, 1) := by decide +kernel
theorem dJ2_getChar_3b067_42 : decode cJ2_getChar_3b067 42 = .ok (.getstatic 59, 3) := by decide +kernel
theorem dJ2_getChar_3b067_45 : decode cJ2_getChar_3b067 45 = .ok (.ishl, 1) := by decide +kernel
theorem dJ2_getChar_3b067_46 : decode cJ2_getChar_3b067 46 = .ok (.aload_n 0, 1) := by decide +kernel
theorem dJ2_getChar_3b067_47 : decode cJ2_getChar_3b067 47 = .ok (.iload_n 1, 1) := by decide +kernel
theorem dJ2_getChar_3b067_48 : decode cJ2_getChar_3b067 48 = .ok (.baload, 1) := by decide +kernel
theorem dJ2_getChar_3b067_49 : decode cJ2_getChar_3b067 49 = .ok (.sipush 255, 3) := by decide +kernel
theorem dJ2_getChar_3b067_52 : decode cJ2_getChar_3b067 52 = .ok (.iand, 1) := by decide +kernel
theorem dJ2_getChar_3b067_53 : decode cJ2_getChar_3b067 53 = .ok (.getstatic 63, 3) := by decide +kernel
theorem dJ2_getChar_3b067_56 : decode cJ2_getChar_3b067 56 = .ok (.ishl, 1) := by decide +kernel
theorem dJ2_getChar_3b067_57 : decode cJ2_getChar_3b067 57 = .ok (.ior, 1) := by decide +kernel
theorem dJ2_getChar_3b067_58 : decode cJ2_getChar_3b067 58 = .ok (.i2c, 1) := by decide +kernel
theorem dJ2_getChar_3b067_59 : decode cJ2_getChar_3b067 59 = .ok (.ireturn, 1) := by decide +kernel
theorem dJ2_length_9d52b_0 : decode cJ2_length_9d52b 0 = .ok (.aload_n 0, 1) := by decide +kernel
theorem dJ2_length_9d52b_1 : decode cJ2_length_9d52b 1 = .ok (.arraylength, 1) := by decide +kernel
theorem dJ2_length_9d52b_2 : decode cJ2_length_9d52b 2 = .ok (.iconst 1, 1) := by decide +kernel
theorem dJ2_length_9d52b_3 : decode cJ2_length_9d52b 3 = .ok (.ishr, 1) := by decide +kernel
theorem dJ2_length_9d52b_4 : decode cJ2_length_9d52b 4 = .ok (.ireturn, 1) := by decide +kernel
theorem dJ2_charAt_3b067_0 : decode cJ2_charAt_3b067 0 = .ok (.iload_n 1, 1) := by decide +kernel
theorem dJ2_charAt_3b067_1 : decode cJ2_charAt_3b067 1 = .ok (.aload_n 0, 1) := by decide +kernel
theorem dJ2_charAt_3b067_2 : decode cJ2_charAt_3b067 2 = .ok (.invokestatic 67, 3) := by decide +kernel
theorem dJ2_charAt_3b067_5 : decode cJ2_charAt_3b067 5 = .ok (.aload_n 0, 1) := by decide +kernel
theorem dJ2_charAt_3b067_6 : decode cJ2_charAt_3b067 6 = .ok (.iload_n 1, 1) := by decide +kernel
theorem dJ2_charAt_3b067_7 : decode cJ2_charAt_3b067 7 = .ok (.invokestatic 71, 3) := by decide +kernel
theorem dJ2_charAt_3b067_10 : decode cJ2_charAt_3b067 10 = .ok (.ireturn, 1) := by decide +kernel
theorem dJ2_checkIndex_2214a_0 : decode cJ2_checkIndex_2214a 0 = .ok (.iload_n 0, 1) := by decide +kernel
theorem dJ2_checkIndex_2214a_1 : decode cJ2_checkIndex_2214a 1 = .ok (.aload_n 1, 1) := by decide +kernel
theorem dJ2_checkIndex_2214a_2 : decode cJ2_checkIndex_2214a 2 = .ok (.invokestatic 48, 3) := by decide +kernel
theorem dJ2_checkIndex_2214a_5 : decode cJ2_checkIndex_2214a 5 = .ok (.invokestatic 414, 3) := by decide +kernel
theorem dJ2_checkIndex_2214a_8 : decode cJ2_checkIndex_2214a 8 = .ok (.return_, 1) := by decide +kernel
theorem dJ7_fill_d0a16_0 : decode cJ7_fill_d0a16 0 = .ok (.iconst 0, 1) := by decide +kernel
theorem dJ7_fill_d0a16_1 : decode cJ7_fill_d0a16 1 = .ok (.istore_n 3, 1) := by decide +kernel
theorem dJ7_fill_d0a16_2 : decode cJ7_fill_d0a16 2 = .ok (.aload_n 0, 1) := by decide +kernel
theorem dJ7_fill_d0a16_3 : decode cJ7_fill_d0a16 3 = .ok (.arraylength, 1) := by decide +kernel
theorem dJ7_fill_d0a16_4 : decode cJ7_fill_d0a16 4 = .ok (.istore 4, 2) := by decide +kernel
theorem dJ7_fill_d0a16_6 : decode cJ7_fill_d0a16 6 = .ok (.iload_n 3, 1) := by decide +kernel
theorem dJ7_fill_d0a16_7 : decode cJ7_fill_d0a16 7 = .ok (.iload 4, 2) := by decide +kernel
theorem dJ7_fill_d0a16_9 : decode cJ7_fill_d0a16 9 = .ok (.if_icmp .ge 13, 3) := by decide +kernel
theorem dJ7_fill_d0a16_12 : decode cJ7_fill_d0a16 12 = .ok (.aload_n 0, 1) := by decide +kernel
theorem dJ7_fill_d0a16_13 : decode cJ7_fill_d0a16 13 = .ok (.iload_n 3, 1) := by decide +kernel
theorem dJ7_fill_d0a16_14 : decode cJ7_fill_d0a16 14 = .ok (.lload_n 1, 1) := by decide +kernel
theorem dJ7_fill_d0a16_15 : decode cJ7_fill_d0a16 15 = .ok (.lastore, 1) := by decide +kernel
theorem dJ7_fill_d0a16_16 : decode cJ7_fill_d0a16 16 = .ok (.iinc 3 1, 3) := by decide +kernel
theorem dJ7_fill_d0a16_19 : decode cJ7_fill_d0a16 19 = .ok (.goto (-13), 3) := by decide +kernel
theorem dJ7_fill_d0a16_22 : decode cJ7_fill_d0a16 22 = .ok (.return_, 1) := by decide +kernel
theorem dJ3_checkIndex_8e157_0 : decode cJ3_checkIndex_8e157 0 = .ok (.iload_n 0, 1) := by decide +kernel
theorem dJ3_checkIndex_8e157_1 : decode cJ3_checkIndex_8e157 1 = .ok (.ifCond .lt 8, 3) := by decide +kernel
theorem dJ3_checkIndex_8e157_4 : decode cJ3_checkIndex_8e157 4 = .ok (.iload_n 0, 1) := by decide +kernel
theorem dJ3_checkIndex_8e157_5 : decode cJ3_checkIndex_8e157 5 = .ok (.iload_n 1, 1) := by decide +kernel
theorem dJ3_checkIndex_8e157_6 : decode cJ3_checkIndex_8e157 6 = .ok (.if_icmp .lt 10, 3) := by decide +kernel
theorem dJ3_checkIndex_8e157_9 : decode cJ3_checkIndex_8e157 9 = .ok (.aload_n 2, 1) := by decide +kernel
theorem dJ3_checkIndex_8e157_10 : decode cJ3_checkIndex_8e157 10 = .ok (.iload_n 0, 1) := by decide +kernel
theorem dJ3_checkIndex_8e157_11 : decode cJ3_checkIndex_8e157 11 = .ok (.iload_n 1, 1) := by decide +kernel
theorem dJ3_checkIndex_8e157_12 : decode cJ3_checkIndex_8e157 12 = .ok (.invokestatic 95, 3) := by decide +kernel
theorem dJ3_checkIndex_8e157_15 : decode cJ3_checkIndex_8e157 15 = .ok (.athrow, 1) := by decide +kernel
theorem dJ3_checkIndex_8e157_16 : decode cJ3_checkIndex_8e157 16 = .ok (.iload_n 0, 1) := by decide +kernel
theorem dJ3_checkIndex_8e157_17 : decode cJ3_checkIndex_8e157 17 = .ok (.ireturn, 1) := by decide +kernel
theorem dL_law_0 : decode cL_law 0 = .ok (.new 7, 3) := by decide +kernel
theorem dL_law_3 : decode cL_law 3 = .ok (.dup, 1) := by decide +kernel
theorem dL_law_4 : decode cL_law 4 = .ok (.invokespecial 9, 3) := by decide +kernel
theorem dL_law_7 : decode cL_law 7 = .ok (.astore_n 1, 1) := by decide +kernel
theorem dL_law_8 : decode cL_law 8 = .ok (.new 10, 3) := by decide +kernel
theorem dL_law_11 : decode cL_law 11 = .ok (.dup, 1) := by decide +kernel
theorem dL_law_12 : decode cL_law 12 = .ok (.invokespecial 12, 3) := by decide +kernel
theorem dL_law_15 : decode cL_law 15 = .ok (.astore_n 2, 1) := by decide +kernel
theorem dL_law_16 : decode cL_law 16 = .ok (.iconst 0, 1) := by decide +kernel
theorem dL_law_17 : decode cL_law 17 = .ok (.istore_n 3, 1) := by decide +kernel
theorem dL_law_18 : decode cL_law 18 = .ok (.iload_n 3, 1) := by decide +kernel
theorem dL_law_19 : decode cL_law 19 = .ok (.aload_n 0, 1) := by decide +kernel
theorem dL_law_20 : decode cL_law 20 = .ok (.arraylength, 1) := by decide +kernel
theorem dL_law_21 : decode cL_law 21 = .ok (.bipush 6, 2) := by decide +kernel
theorem dL_law_23 : decode cL_law 23 = .ok (.isub, 1) := by decide +kernel
theorem dL_law_24 : decode cL_law 24 = .ok (.if_icmp .gt 956, 3) := by decide +kernel
theorem dL_law_27 : decode cL_law 27 = .ok (.aload_n 0, 1) := by decide +kernel
theorem dL_law_28 : decode cL_law 28 = .ok (.iload_n 3, 1) := by decide +kernel
theorem dL_law_29 : decode cL_law 29 = .ok (.iaload, 1) := by decide +kernel
theorem dL_law_30 : decode cL_law 30 = .ok (.bipush 31, 2) := by decide +kernel
theorem dL_law_32 : decode cL_law 32 = .ok (.iand, 1) := by decide +kernel
theorem dL_law_33 : decode cL_law 33 = .ok (.tableswitch 941 0 26 #[123, 146, 169, 192, 255, 278, 291, 314, 337, 370, 403, 436, 469, 492, 515, 528, 561, 594, 653, 707, 730, 773, 826, 849, 892, 905, 918], 123) := by decide +kernel
theorem dL_law_156 : decode cL_law 156 = .ok (.aload_n 1, 1) := by decide +kernel
theorem dL_law_157 : decode cL_law 157 = .ok (.aload_n 0, 1) := by decide +kernel
theorem dL_law_158 : decode cL_law 158 = .ok (.iload_n 3, 1) := by decide +kernel
theorem dL_law_159 : decode cL_law 159 = .ok (.iconst 1, 1) := by decide +kernel
theorem dL_law_160 : decode cL_law 160 = .ok (.iadd, 1) := by decide +kernel
theorem dL_law_161 : decode cL_law 161 = .ok (.iaload, 1) := by decide +kernel
theorem dL_law_162 : decode cL_law 162 = .ok (.invokevirtual 13, 3) := by decide +kernel
theorem dL_law_165 : decode cL_law 165 = .ok (.aload_n 2, 1) := by decide +kernel
theorem dL_law_166 : decode cL_law 166 = .ok (.aload_n 0, 1) := by decide +kernel
theorem dL_law_167 : decode cL_law 167 = .ok (.iload_n 3, 1) := by decide +kernel
theorem dL_law_168 : decode cL_law 168 = .ok (.iconst 1, 1) := by decide +kernel
theorem dL_law_169 : decode cL_law 169 = .ok (.iadd, 1) := by decide +kernel
theorem dL_law_170 : decode cL_law 170 = .ok (.iaload, 1) := by decide +kernel
theorem dL_law_171 : decode cL_law 171 = .ok (.invokevirtual 17, 3) := by decide +kernel
theorem dL_law_174 : decode cL_law 174 = .ok (.if_icmp .eq 800, 3) := by decide +kernel
theorem dL_law_177 : decode cL_law 177 = .ok (.iconst 0, 1) := by decide +kernel
theorem dL_law_178 : decode cL_law 178 = .ok (.ireturn, 1) := by decide +kernel
theorem dL_law_179 : decode cL_law 179 = .ok (.aload_n 1, 1) := by decide +kernel
theorem dL_law_180 : decode cL_law 180 = .ok (.aload_n 0, 1) := by decide +kernel
theorem dL_law_181 : decode cL_law 181 = .ok (.iload_n 3, 1) := by decide +kernel
theorem dL_law_182 : decode cL_law 182 = .ok (.iconst 1, 1) := by decide +kernel
theorem dL_law_183 : decode cL_law 183 = .ok (.iadd, 1) := by decide +kernel
theorem dL_law_184 : decode cL_law 184 = .ok (.iaload, 1) := by decide +kernel
theorem dL_law_185 : decode cL_law 185 = .ok (.invokevirtual 18, 3) := by decide +kernel
theorem dL_law_188 : decode cL_law 188 = .ok (.aload_n 2, 1) := by decide +kernel
theorem dL_law_189 : decode cL_law 189 = .ok (.aload_n 0, 1) := by decide +kernel
theorem dL_law_190 : decode cL_law 190 = .ok (.iload_n 3, 1) := by decide +kernel
theorem dL_law_191 : decode cL_law 191 = .ok (.iconst 1, 1) := by decide +kernel
theorem dL_law_192 : decode cL_law 192 = .ok (.iadd, 1) := by decide +kernel
theorem dL_law_193 : decode cL_law 193 = .ok (.iaload, 1) := by decide +kernel
theorem dL_law_194 : decode cL_law 194 = .ok (.invokevirtual 22, 3) := by decide +kernel
theorem dL_law_197 : decode cL_law 197 = .ok (.if_icmp .eq 777, 3) := by decide +kernel
theorem dL_law_200 : decode cL_law 200 = .ok (.iconst 0, 1) := by decide +kernel
theorem dL_law_201 : decode cL_law 201 = .ok (.ireturn, 1) := by decide +kernel
theorem dL_law_202 : decode cL_law 202 = .ok (.aload_n 1, 1) := by decide +kernel
theorem dL_law_203 : decode cL_law 203 = .ok (.aload_n 0, 1) := by decide +kernel
theorem dL_law_204 : decode cL_law 204 = .ok (.iload_n 3, 1) := by decide +kernel
theorem dL_law_205 : decode cL_law 205 = .ok (.iconst 1, 1) := by decide +kernel
theorem dL_law_206 : decode cL_law 206 = .ok (.iadd, 1) := by decide +kernel
theorem dL_law_207 : decode cL_law 207 = .ok (.iaload, 1) := by decide +kernel
theorem dL_law_208 : decode cL_law 208 = .ok (.invokevirtual 23, 3) := by decide +kernel
theorem dL_law_211 : decode cL_law 211 = .ok (.aload_n 2, 1) := by decide +kernel
theorem dL_law_212 : decode cL_law 212 = .ok (.aload_n 0, 1) := by decide +kernel
theorem dL_law_213 : decode cL_law 213 = .ok (.iload_n 3, 1) := by decide +kernel
theorem dL_law_214 : decode cL_law 214 = .ok (.iconst 1, 1) := by decide +kernel
theorem dL_law_215 : decode cL_law 215 = .ok (.iadd, 1) := by decide +kernel
theorem dL_law_216 : decode cL_law 216 = .ok (.iaload, 1) := by decide +kernel
theorem dL_law_217 : decode cL_law 217 = .ok (.invokevirtual 26, 3) := by decide +kernel
theorem dL_law_220 : decode cL_law 220 = .ok (.if_icmp .eq 754, 3) := by decide +kernel
theorem dL_law_223 : decode cL_law 223 = .ok (.iconst 0, 1) := by decide +kernel
theorem dL_law_224 : decode cL_law 224 = .ok (.ireturn, 1) := by decide +kernel
theorem dL_law_225 : decode cL_law 225 = .ok (.aload_n 1, 1) := by decide +kernel
theorem dL_law_226 : decode cL_law 226 = .ok (.aload_n 0, 1) := by decide +kernel
theorem dL_law_227 : decode cL_law 227 = .ok (.iload_n 3, 1) := by decide +kernel
theorem dL_law_228 : decode cL_law 228 = .ok (.iconst 1, 1) := by decide +kernel
theorem dL_law_229 : decode cL_law 229 = .ok (.iadd, 1) := by decide +kernel
theorem dL_law_230 : decode cL_law 230 = .ok (.iaload, 1) := by decide +kernel
theorem dL_law_231 : decode cL_law 231 = .ok (.aload_n 0, 1) := by decide +kernel
theorem dL_law_232 : decode cL_law 232 = .ok (.iload_n 3, 1) := by decide +kernel
theorem dL_law_233 : decode cL_law 233 = .ok (.iconst 2, 1) := by decide +kernel
theorem dL_law_234 : decode cL_law 234 = .ok (.iadd, 1) := by decide +kernel
theorem dL_law_235 : decode cL_law 235 = .ok (.iaload, 1) := by decide +kernel
theorem dL_law_236 : decode cL_law 236 = .ok (.aload_n 0, 1) := by decide +kernel
theorem dL_law_237 : decode cL_law 237 = .ok (.iload_n 3, 1) := by decide +kernel
theorem dL_law_238 : decode cL_law 238 = .ok (.iconst 3, 1) := by decide +kernel
theorem dL_law_239 : decode cL_law 239 = .ok (.iadd, 1) := by decide +kernel
theorem dL_law_240 : decode cL_law 240 = .ok (.iaload, 1) := by decide +kernel
theorem dL_law_241 : decode cL_law 241 = .ok (.aload_n 0, 1) := by decide +kernel
theorem dL_law_242 : decode cL_law 242 = .ok (.iload_n 3, 1) := by decide +kernel
theorem dL_law_243 : decode cL_law 243 = .ok (.iconst 4, 1) := by decide +kernel
theorem dL_law_244 : decode cL_law 244 = .ok (.iadd, 1) := by decide +kernel
theorem dL_law_245 : decode cL_law 245 = .ok (.iaload, 1) := by decide +kernel
theorem dL_law_246 : decode cL_law 246 = .ok (.aload_n 0, 1) := by decide +kernel
theorem dL_law_247 : decode cL_law 247 = .ok (.iload_n 3, 1) := by decide +kernel
theorem dL_law_248 : decode cL_law 248 = .ok (.iconst 5, 1) := by decide +kernel
theorem dL_law_249 : decode cL_law 249 = .ok (.iadd, 1) := by decide +kernel
theorem dL_law_250 : decode cL_law 250 = .ok (.iaload, 1) := by decide +kernel
theorem dL_law_251 : decode cL_law 251 = .ok (.invokevirtual 27, 3) := by decide +kernel
theorem dL_law_254 : decode cL_law 254 = .ok (.aload_n 2, 1) := by decide +kernel
theorem dL_law_255 : decode cL_law 255 = .ok (.aload_n 0, 1) := by decide +kernel
theorem dL_law_256 : decode cL_law 256 = .ok (.iload_n 3, 1) := by decide +kernel
theorem dL_law_257 : decode cL_law 257 = .ok (.iconst 1, 1) := by decide +kernel
theorem dL_law_258 : decode cL_law 258 = .ok (.iadd, 1) := by decide +kernel
theorem dL_law_259 : decode cL_law 259 = .ok (.iaload, 1) := by decide +kernel
theorem dL_law_260 : decode cL_law 260 = .ok (.aload_n 0, 1) := by decide +kernel
theorem dL_law_261 : decode cL_law 261 = .ok (.iload_n 3, 1) := by decide +kernel
theorem dL_law_262 : decode cL_law 262 = .ok (.iconst 2, 1) := by decide +kernel
theorem dL_law_263 : decode cL_law 263 = .ok (.iadd, 1) := by decide +kernel
theorem dL_law_264 : decode cL_law 264 = .ok (.iaload, 1) := by decide +kernel
theorem dL_law_265 : decode cL_law 265 = .ok (.aload_n 0, 1) := by decide +kernel
theorem dL_law_266 : decode cL_law 266 = .ok (.iload_n 3, 1) := by decide +kernel
theorem dL_law_267 : decode cL_law 267 = .ok (.iconst 3, 1) := by decide +kernel
theorem dL_law_268 : decode cL_law 268 = .ok (.iadd, 1) := by decide +kernel
theorem dL_law_269 : decode cL_law 269 = .ok (.iaload, 1) := by decide +kernel
theorem dL_law_270 : decode cL_law 270 = .ok (.aload_n 0, 1) := by decide +kernel
theorem dL_law_271 : decode cL_law 271 = .ok (.iload_n 3, 1) := by decide +kernel
theorem dL_law_272 : decode cL_law 272 = .ok (.iconst 4, 1) := by decide +kernel
theorem dL_law_273 : decode cL_law 273 = .ok (.iadd, 1) := by decide +kernel
theorem dL_law_274 : decode cL_law 274 = .ok (.iaload, 1) := by decide +kernel
theorem dL_law_275 : decode cL_law 275 = .ok (.aload_n 0, 1) := by decide +kernel
theorem dL_law_276 : decode cL_law 276 = .ok (.iload_n 3, 1) := by decide +kernel
theorem dL_law_277 : decode cL_law 277 = .ok (.iconst 5, 1) := by decide +kernel
theorem dL_law_278 : decode cL_law 278 = .ok (.iadd, 1) := by decide +kernel
theorem dL_law_279 : decode cL_law 279 = .ok (.iaload, 1) := by decide +kernel
theorem dL_law_280 : decode cL_law 280 = .ok (.invokevirtual 31, 3) := by decide +kernel
theorem dL_law_283 : decode cL_law 283 = .ok (.if_icmp .eq 691, 3) := by decide +kernel
theorem dL_law_286 : decode cL_law 286 = .ok (.iconst 0, 1) := by decide +kernel
theorem dL_law_287 : decode cL_law 287 = .ok (.ireturn, 1) := by decide +kernel
theorem dL_law_288 : decode cL_law 288 = .ok (.aload_n 1, 1) := by decide +kernel
theorem dL_law_289 : decode cL_law 289 = .ok (.aload_n 0, 1) := by decide +kernel
theorem dL_law_290 : decode cL_law 290 = .ok (.iload_n 3, 1) := by decide +kernel
theorem dL_law_291 : decode cL_law 291 = .ok (.iconst 1, 1) := by decide +kernel
theorem dL_law_292 : decode cL_law 292 = .ok (.iadd, 1) := by decide +kernel
theorem dL_law_293 : decode cL_law 293 = .ok (.iaload, 1) := by decide +kernel
theorem dL_law_294 : decode cL_law 294 = .ok (.invokevirtual 32, 3) := by decide +kernel
theorem dL_law_297 : decode cL_law 297 = .ok (.aload_n 2, 1) := by decide +kernel
theorem dL_law_298 : decode cL_law 298 = .ok (.aload_n 0, 1) := by decide +kernel
theorem dL_law_299 : decode cL_law 299 = .ok (.iload_n 3, 1) := by decide +kernel
theorem dL_law_300 : decode cL_law 300 = .ok (.iconst 1, 1) := by decide +kernel
theorem dL_law_301 : decode cL_law 301 = .ok (.iadd, 1) := by decide +kernel
theorem dL_law_302 : decode cL_law 302 = .ok (.iaload, 1) := by decide +kernel
theorem dL_law_303 : decode cL_law 303 = .ok (.invokevirtual 35, 3) := by decide +kernel
theorem dL_law_306 : decode cL_law 306 = .ok (.if_icmp .eq 668, 3) := by decide +kernel
theorem dL_law_309 : decode cL_law 309 = .ok (.iconst 0, 1) := by decide +kernel
theorem dL_law_310 : decode cL_law 310 = .ok (.ireturn, 1) := by decide +kernel
theorem dL_law_311 : decode cL_law 311 = .ok (.aload_n 1, 1) := by decide +kernel
theorem dL_law_312 : decode cL_law 312 = .ok (.invokevirtual 36, 3) := by decide +kernel
theorem dL_law_315 : decode cL_law 315 = .ok (.aload_n 2, 1) := by decide +kernel
theorem dL_law_316 : decode cL_law 316 = .ok (.invokevirtual 40, 3) := by decide +kernel
theorem dL_law_319 : decode cL_law 319 = .ok (.if_icmp .eq 655, 3) := by decide +kernel
theorem dL_law_322 : decode cL_law 322 = .ok (.iconst 0, 1) := by decide +kernel
theorem dL_law_323 : decode cL_law 323 = .ok (.ireturn, 1) := by decide +kernel
theorem dL_law_324 : decode cL_law 324 = .ok (.aload_n 1, 1) := by decide +kernel
theorem dL_law_325 : decode cL_law 325 = .ok (.aload_n 0, 1) := by decide +kernel
theorem dL_law_326 : decode cL_law 326 = .ok (.iload_n 3, 1) := by decide +kernel
theorem dL_law_327 : decode cL_law 327 = .ok (.iconst 1, 1) := by decide +kernel
theorem dL_law_328 : decode cL_law 328 = .ok (.iadd, 1) := by decide +kernel
theorem dL_law_329 : decode cL_law 329 = .ok (.iaload, 1) := by decide +kernel
theorem dL_law_330 : decode cL_law 330 = .ok (.invokevirtual 41, 3) := by decide +kernel
theorem dL_law_333 : decode cL_law 333 = .ok (.aload_n 2, 1) := by decide +kernel
theorem dL_law_334 : decode cL_law 334 = .ok (.aload_n 0, 1) := by decide +kernel
theorem dL_law_335 : decode cL_law 335 = .ok (.iload_n 3, 1) := by decide +kernel
theorem dL_law_336 : decode cL_law 336 = .ok (.iconst 1, 1) := by decide +kernel
theorem dL_law_337 : decode cL_law 337 = .ok (.iadd, 1) := by decide +kernel
theorem dL_law_338 : decode cL_law 338 = .ok (.iaload, 1) := by decide +kernel
theorem dL_law_339 : decode cL_law 339 = .ok (.invokevirtual 44, 3) := by decide +kernel
theorem dL_law_342 : decode cL_law 342 = .ok (.if_icmp .eq 632, 3) := by decide +kernel
theorem dL_law_345 : decode cL_law 345 = .ok (.iconst 0, 1) := by decide +kernel
theorem dL_law_346 : decode cL_law 346 = .ok (.ireturn, 1) := by decide +kernel
theorem dL_law_347 : decode cL_law 347 = .ok (.aload_n 1, 1) := by decide +kernel
theorem dL_law_348 : decode cL_law 348 = .ok (.aload_n 0, 1) := by decide +kernel
theorem dL_law_349 : decode cL_law 349 = .ok (.iload_n 3, 1) := by decide +kernel
theorem dL_law_350 : decode cL_law 350 = .ok (.iconst 1, 1) := by decide +kernel
theorem dL_law_351 : decode cL_law 351 = .ok (.iadd, 1) := by decide +kernel
theorem dL_law_352 : decode cL_law 352 = .ok (.iaload, 1) := by decide +kernel
theorem dL_law_353 : decode cL_law 353 = .ok (.invokevirtual 45, 3) := by decide +kernel
theorem dL_law_356 : decode cL_law 356 = .ok (.aload_n 2, 1) := by decide +kernel
theorem dL_law_357 : decode cL_law 357 = .ok (.aload_n 0, 1) := by decide +kernel
theorem dL_law_358 : decode cL_law 358 = .ok (.iload_n 3, 1) := by decide +kernel
theorem dL_law_359 : decode cL_law 359 = .ok (.iconst 1, 1) := by decide +kernel
theorem dL_law_360 : decode cL_law 360 = .ok (.iadd, 1) := by decide +kernel
theorem dL_law_361 : decode cL_law 361 = .ok (.iaload, 1) := by decide +kernel
theorem dL_law_362 : decode cL_law 362 = .ok (.invokevirtual 48, 3) := by decide +kernel
theorem dL_law_365 : decode cL_law 365 = .ok (.if_icmp .eq 609, 3) := by decide +kernel
theorem dL_law_368 : decode cL_law 368 = .ok (.iconst 0, 1) := by decide +kernel
theorem dL_law_369 : decode cL_law 369 = .ok (.ireturn, 1) := by decide +kernel
theorem dL_law_370 : decode cL_law 370 = .ok (.aload_n 1, 1) := by decide +kernel
theorem dL_law_371 : decode cL_law 371 = .ok (.aload_n 0, 1) := by decide +kernel
theorem dL_law_372 : decode cL_law 372 = .ok (.iload_n 3, 1) := by decide +kernel
theorem dL_law_373 : decode cL_law 373 = .ok (.iconst 1, 1) := by decide +kernel
theorem dL_law_374 : decode cL_law 374 = .ok (.iadd, 1) := by decide +kernel
theorem dL_law_375 : decode cL_law 375 = .ok (.iaload, 1) := by decide +kernel
theorem dL_law_376 : decode cL_law 376 = .ok (.aload_n 0, 1) := by decide +kernel
theorem dL_law_377 : decode cL_law 377 = .ok (.iload_n 3, 1) := by decide +kernel
theorem dL_law_378 : decode cL_law 378 = .ok (.iconst 2, 1) := by decide +kernel
theorem dL_law_379 : decode cL_law 379 = .ok (.iadd, 1) := by decide +kernel
theorem dL_law_380 : decode cL_law 380 = .ok (.iaload, 1) := by decide +kernel
theorem dL_law_381 : decode cL_law 381 = .ok (.invokevirtual 49, 3) := by decide +kernel
theorem dL_law_384 : decode cL_law 384 = .ok (.aload_n 2, 1) := by decide +kernel
theorem dL_law_385 : decode cL_law 385 = .ok (.aload_n 0, 1) := by decide +kernel
theorem dL_law_386 : decode cL_law 386 = .ok (.iload_n 3, 1) := by decide +kernel
theorem dL_law_387 : decode cL_law 387 = .ok (.iconst 1, 1) := by decide +kernel
theorem dL_law_388 : decode cL_law 388 = .ok (.iadd, 1) := by decide +kernel
theorem dL_law_389 : decode cL_law 389 = .ok (.iaload, 1) := by decide +kernel
theorem dL_law_390 : decode cL_law 390 = .ok (.aload_n 0, 1) := by decide +kernel
theorem dL_law_391 : decode cL_law 391 = .ok (.iload_n 3, 1) := by decide +kernel
theorem dL_law_392 : decode cL_law 392 = .ok (.iconst 2, 1) := by decide +kernel
theorem dL_law_393 : decode cL_law 393 = .ok (.iadd, 1) := by decide +kernel
theorem dL_law_394 : decode cL_law 394 = .ok (.iaload, 1) := by decide +kernel
theorem dL_law_395 : decode cL_law 395 = .ok (.invokevirtual 53, 3) := by decide +kernel
theorem dL_law_398 : decode cL_law 398 = .ok (.if_icmp .eq 576, 3) := by decide +kernel
theorem dL_law_401 : decode cL_law 401 = .ok (.iconst 0, 1) := by decide +kernel
theorem dL_law_402 : decode cL_law 402 = .ok (.ireturn, 1) := by decide +kernel
theorem dL_law_403 : decode cL_law 403 = .ok (.aload_n 1, 1) := by decide +kernel
theorem dL_law_404 : decode cL_law 404 = .ok (.aload_n 0, 1) := by decide +kernel
theorem dL_law_405 : decode cL_law 405 = .ok (.iload_n 3, 1) := by decide +kernel
theorem dL_law_406 : decode cL_law 406 = .ok (.iconst 1, 1) := by decide +kernel
theorem dL_law_407 : decode cL_law 407 = .ok (.iadd, 1) := by decide +kernel
theorem dL_law_408 : decode cL_law 408 = .ok (.iaload, 1) := by decide +kernel
theorem dL_law_409 : decode cL_law 409 = .ok (.aload_n 0, 1) := by decide +kernel
theorem dL_law_410 : decode cL_law 410 = .ok (.iload_n 3, 1) := by decide +kernel
theorem dL_law_411 : decode cL_law 411 = .ok (.iconst 2, 1) := by decide +kernel
theorem dL_law_412 : decode cL_law 412 = .ok (.iadd, 1) := by decide +kernel
theorem dL_law_413 : decode cL_law 413 = .ok (.iaload, 1) := by decide +kernel
theorem dL_law_414 : decode cL_law 414 = .ok (.invokevirtual 54, 3) := by decide +kernel
theorem dL_law_417 : decode cL_law 417 = .ok (.aload_n 2, 1) := by decide +kernel
theorem dL_law_418 : decode cL_law 418 = .ok (.aload_n 0, 1) := by decide +kernel
theorem dL_law_419 : decode cL_law 419 = .ok (.iload_n 3, 1) := by decide +kernel
theorem dL_law_420 : decode cL_law 420 = .ok (.iconst 1, 1) := by decide +kernel
theorem dL_law_421 : decode cL_law 421 = .ok (.iadd, 1) := by decide +kernel
theorem dL_law_422 : decode cL_law 422 = .ok (.iaload, 1) := by decide +kernel
theorem dL_law_423 : decode cL_law 423 = .ok (.aload_n 0, 1) := by decide +kernel
theorem dL_law_424 : decode cL_law 424 = .ok (.iload_n 3, 1) := by decide +kernel
theorem dL_law_425 : decode cL_law 425 = .ok (.iconst 2, 1) := by decide +kernel
theorem dL_law_426 : decode cL_law 426 = .ok (.iadd, 1) := by decide +kernel
theorem dL_law_427 : decode cL_law 427 = .ok (.iaload, 1) := by decide +kernel
theorem dL_law_428 : decode cL_law 428 = .ok (.invokevirtual 58, 3) := by decide +kernel
theorem dL_law_431 : decode cL_law 431 = .ok (.if_icmp .eq 543, 3) := by decide +kernel
theorem dL_law_434 : decode cL_law 434 = .ok (.iconst 0, 1) := by decide +kernel
theorem dL_law_435 : decode cL_law 435 = .ok (.ireturn, 1) := by decide +kernel
theorem dL_law_436 : decode cL_law 436 = .ok (.aload_n 1, 1) := by decide +kernel
theorem dL_law_437 : decode cL_law 437 = .ok (.aload_n 0, 1) := by decide +kernel
theorem dL_law_438 : decode cL_law 438 = .ok (.iload_n 3, 1) := by decide +kernel
theorem dL_law_439 : decode cL_law 439 = .ok (.iconst 1, 1) := by decide +kernel
theorem dL_law_440 : decode cL_law 440 = .ok (.iadd, 1) := by decide +kernel
theorem dL_law_441 : decode cL_law 441 = .ok (.iaload, 1) := by decide +kernel
theorem dL_law_442 : decode cL_law 442 = .ok (.aload_n 0, 1) := by decide +kernel
theorem dL_law_443 : decode cL_law 443 = .ok (.iload_n 3, 1) := by decide +kernel
theorem dL_law_444 : decode cL_law 444 = .ok (.iconst 2, 1) := by decide +kernel
theorem dL_law_445 : decode cL_law 445 = .ok (.iadd, 1) := by decide +kernel
theorem dL_law_446 : decode cL_law 446 = .ok (.iaload, 1) := by decide +kernel
theorem dL_law_447 : decode cL_law 447 = .ok (.invokevirtual 59, 3) := by decide +kernel
theorem dL_law_450 : decode cL_law 450 = .ok (.aload_n 2, 1) := by decide +kernel
theorem dL_law_451 : decode cL_law 451 = .ok (.aload_n 0, 1) := by decide +kernel
theorem dL_law_452 : decode cL_law 452 = .ok (.iload_n 3, 1) := by decide +kernel
theorem dL_law_453 : decode cL_law 453 = .ok (.iconst 1, 1) := by decide +kernel
theorem dL_law_454 : decode cL_law 454 = .ok (.iadd, 1) := by decide +kernel
theorem dL_law_455 : decode cL_law 455 = .ok (.iaload, 1) := by decide +kernel
theorem dL_law_456 : decode cL_law 456 = .ok (.aload_n 0, 1) := by decide +kernel
theorem dL_law_457 : decode cL_law 457 = .ok (.iload_n 3, 1) := by decide +kernel
theorem dL_law_458 : decode cL_law 458 = .ok (.iconst 2, 1) := by decide +kernel
theorem dL_law_459 : decode cL_law 459 = .ok (.iadd, 1) := by decide +kernel
theorem dL_law_460 : decode cL_law 460 = .ok (.iaload, 1) := by decide +kernel
theorem dL_law_461 : decode cL_law 461 = .ok (.invokevirtual 62, 3) := by decide +kernel
theorem dL_law_464 : decode cL_law 464 = .ok (.if_icmp .eq 510, 3) := by decide +kernel
theorem dL_law_467 : decode cL_law 467 = .ok (.iconst 0, 1) := by decide +kernel
theorem dL_law_468 : decode cL_law 468 = .ok (.ireturn, 1) := by decide +kernel
theorem dL_law_469 : decode cL_law 469 = .ok (.aload_n 1, 1) := by decide +kernel
theorem dL_law_470 : decode cL_law 470 = .ok (.aload_n 0, 1) := by decide +kernel
theorem dL_law_471 : decode cL_law 471 = .ok (.iload_n 3, 1) := by decide +kernel
theorem dL_law_472 : decode cL_law 472 = .ok (.iconst 1, 1) := by decide +kernel
theorem dL_law_473 : decode cL_law 473 = .ok (.iadd, 1) := by decide +kernel
theorem dL_law_474 : decode cL_law 474 = .ok (.iaload, 1) := by decide +kernel
theorem dL_law_475 : decode cL_law 475 = .ok (.aload_n 0, 1) := by decide +kernel
theorem dL_law_476 : decode cL_law 476 = .ok (.iload_n 3, 1) := by decide +kernel
theorem dL_law_477 : decode cL_law 477 = .ok (.iconst 2, 1) := by decide +kernel
theorem dL_law_478 : decode cL_law 478 = .ok (.iadd, 1) := by decide +kernel
theorem dL_law_479 : decode cL_law 479 = .ok (.iaload, 1) := by decide +kernel
theorem dL_law_480 : decode cL_law 480 = .ok (.invokevirtual 63, 3) := by decide +kernel
theorem dL_law_483 : decode cL_law 483 = .ok (.aload_n 2, 1) := by decide +kernel
theorem dL_law_484 : decode cL_law 484 = .ok (.aload_n 0, 1) := by decide +kernel
theorem dL_law_485 : decode cL_law 485 = .ok (.iload_n 3, 1) := by decide +kernel
theorem dL_law_486 : decode cL_law 486 = .ok (.iconst 1, 1) := by decide +kernel
theorem dL_law_487 : decode cL_law 487 = .ok (.iadd, 1) := by decide +kernel
theorem dL_law_488 : decode cL_law 488 = .ok (.iaload, 1) := by decide +kernel
theorem dL_law_489 : decode cL_law 489 = .ok (.aload_n 0, 1) := by decide +kernel
theorem dL_law_490 : decode cL_law 490 = .ok (.iload_n 3, 1) := by decide +kernel
theorem dL_law_491 : decode cL_law 491 = .ok (.iconst 2, 1) := by decide +kernel
theorem dL_law_492 : decode cL_law 492 = .ok (.iadd, 1) := by decide +kernel
theorem dL_law_493 : decode cL_law 493 = .ok (.iaload, 1) := by decide +kernel
theorem dL_law_494 : decode cL_law 494 = .ok (.invokevirtual 66, 3) := by decide +kernel
theorem dL_law_497 : decode cL_law 497 = .ok (.if_icmp .eq 477, 3) := by decide +kernel
theorem dL_law_500 : decode cL_law 500 = .ok (.iconst 0, 1) := by decide +kernel
theorem dL_law_501 : decode cL_law 501 = .ok (.ireturn, 1) := by decide +kernel
theorem dL_law_502 : decode cL_law 502 = .ok (.aload_n 1, 1) := by decide +kernel
theorem dL_law_503 : decode cL_law 503 = .ok (.aload_n 0, 1) := by decide +kernel
theorem dL_law_504 : decode cL_law 504 = .ok (.iload_n 3, 1) := by decide +kernel
theorem dL_law_505 : decode cL_law 505 = .ok (.iconst 1, 1) := by decide +kernel
theorem dL_law_506 : decode cL_law 506 = .ok (.iadd, 1) := by decide +kernel
theorem dL_law_507 : decode cL_law 507 = .ok (.iaload, 1) := by decide +kernel
theorem dL_law_508 : decode cL_law 508 = .ok (.invokevirtual 67, 3) := by decide +kernel
theorem dL_law_511 : decode cL_law 511 = .ok (.aload_n 2, 1) := by decide +kernel
theorem dL_law_512 : decode cL_law 512 = .ok (.aload_n 0, 1) := by decide +kernel
theorem dL_law_513 : decode cL_law 513 = .ok (.iload_n 3, 1) := by decide +kernel
theorem dL_law_514 : decode cL_law 514 = .ok (.iconst 1, 1) := by decide +kernel
theorem dL_law_515 : decode cL_law 515 = .ok (.iadd, 1) := by decide +kernel
theorem dL_law_516 : decode cL_law 516 = .ok (.iaload, 1) := by decide +kernel
theorem dL_law_517 : decode cL_law 517 = .ok (.invokevirtual 70, 3) := by decide +kernel
theorem dL_law_520 : decode cL_law 520 = .ok (.if_icmp .eq 454, 3) := by decide +kernel
theorem dL_law_523 : decode cL_law 523 = .ok (.iconst 0, 1) := by decide +kernel
theorem dL_law_524 : decode cL_law 524 = .ok (.ireturn, 1) := by decide +kernel
theorem dL_law_525 : decode cL_law 525 = .ok (.aload_n 1, 1) := by decide +kernel
theorem dL_law_526 : decode cL_law 526 = .ok (.aload_n 0, 1) := by decide +kernel
theorem dL_law_527 : decode cL_law 527 = .ok (.iload_n 3, 1) := by decide +kernel
theorem dL_law_528 : decode cL_law 528 = .ok (.iconst 1, 1) := by decide +kernel
theorem dL_law_529 : decode cL_law 529 = .ok (.iadd, 1) := by decide +kernel
theorem dL_law_530 : decode cL_law 530 = .ok (.iaload, 1) := by decide +kernel
theorem dL_law_531 : decode cL_law 531 = .ok (.invokevirtual 71, 3) := by decide +kernel
theorem dL_law_534 : decode cL_law 534 = .ok (.aload_n 2, 1) := by decide +kernel
theorem dL_law_535 : decode cL_law 535 = .ok (.aload_n 0, 1) := by decide +kernel
theorem dL_law_536 : decode cL_law 536 = .ok (.iload_n 3, 1) := by decide +kernel
theorem dL_law_537 : decode cL_law 537 = .ok (.iconst 1, 1) := by decide +kernel
theorem dL_law_538 : decode cL_law 538 = .ok (.iadd, 1) := by decide +kernel
theorem dL_law_539 : decode cL_law 539 = .ok (.iaload, 1) := by decide +kernel
theorem dL_law_540 : decode cL_law 540 = .ok (.invokevirtual 74, 3) := by decide +kernel
theorem dL_law_543 : decode cL_law 543 = .ok (.if_icmp .eq 431, 3) := by decide +kernel
theorem dL_law_546 : decode cL_law 546 = .ok (.iconst 0, 1) := by decide +kernel
theorem dL_law_547 : decode cL_law 547 = .ok (.ireturn, 1) := by decide +kernel
theorem dL_law_548 : decode cL_law 548 = .ok (.aload_n 1, 1) := by decide +kernel
theorem dL_law_549 : decode cL_law 549 = .ok (.invokevirtual 75, 3) := by decide +kernel
theorem dL_law_552 : decode cL_law 552 = .ok (.aload_n 2, 1) := by decide +kernel
theorem dL_law_553 : decode cL_law 553 = .ok (.invokevirtual 78, 3) := by decide +kernel
theorem dL_law_556 : decode cL_law 556 = .ok (.if_icmp .eq 418, 3) := by decide +kernel
theorem dL_law_559 : decode cL_law 559 = .ok (.iconst 0, 1) := by decide +kernel
theorem dL_law_560 : decode cL_law 560 = .ok (.ireturn, 1) := by decide +kernel
theorem dL_law_561 : decode cL_law 561 = .ok (.aload_n 1, 1) := by decide +kernel
theorem dL_law_562 : decode cL_law 562 = .ok (.aload_n 0, 1) := by decide +kernel
theorem dL_law_563 : decode cL_law 563 = .ok (.iload_n 3, 1) := by decide +kernel
theorem dL_law_564 : decode cL_law 564 = .ok (.iconst 1, 1) := by decide +kernel
theorem dL_law_565 : decode cL_law 565 = .ok (.iadd, 1) := by decide +kernel
theorem dL_law_566 : decode cL_law 566 = .ok (.iaload, 1) := by decide +kernel
theorem dL_law_567 : decode cL_law 567 = .ok (.aload_n 0, 1) := by decide +kernel
theorem dL_law_568 : decode cL_law 568 = .ok (.iload_n 3, 1) := by decide +kernel
theorem dL_law_569 : decode cL_law 569 = .ok (.iconst 2, 1) := by decide +kernel
theorem dL_law_570 : decode cL_law 570 = .ok (.iadd, 1) := by decide +kernel
theorem dL_law_571 : decode cL_law 571 = .ok (.iaload, 1) := by decide +kernel
theorem dL_law_572 : decode cL_law 572 = .ok (.invokevirtual 79, 3) := by decide +kernel
theorem dL_law_575 : decode cL_law 575 = .ok (.aload_n 2, 1) := by decide +kernel
theorem dL_law_576 : decode cL_law 576 = .ok (.aload_n 0, 1) := by decide +kernel
theorem dL_law_577 : decode cL_law 577 = .ok (.iload_n 3, 1) := by decide +kernel
theorem dL_law_578 : decode cL_law 578 = .ok (.iconst 1, 1) := by decide +kernel
theorem dL_law_579 : decode cL_law 579 = .ok (.iadd, 1) := by decide +kernel
theorem dL_law_580 : decode cL_law 580 = .ok (.iaload, 1) := by decide +kernel
theorem dL_law_581 : decode cL_law 581 = .ok (.aload_n 0, 1) := by decide +kernel
theorem dL_law_582 : decode cL_law 582 = .ok (.iload_n 3, 1) := by decide +kernel
theorem dL_law_583 : decode cL_law 583 = .ok (.iconst 2, 1) := by decide +kernel
theorem dL_law_584 : decode cL_law 584 = .ok (.iadd, 1) := by decide +kernel
theorem dL_law_585 : decode cL_law 585 = .ok (.iaload, 1) := by decide +kernel
theorem dL_law_586 : decode cL_law 586 = .ok (.invokevirtual 82, 3) := by decide +kernel
theorem dL_law_589 : decode cL_law 589 = .ok (.if_icmp .eq 385, 3) := by decide +kernel
theorem dL_law_592 : decode cL_law 592 = .ok (.iconst 0, 1) := by decide +kernel
theorem dL_law_593 : decode cL_law 593 = .ok (.ireturn, 1) := by decide +kernel
theorem dL_law_594 : decode cL_law 594 = .ok (.aload_n 1, 1) := by decide +kernel
theorem dL_law_595 : decode cL_law 595 = .ok (.aload_n 0, 1) := by decide +kernel
theorem dL_law_596 : decode cL_law 596 = .ok (.iload_n 3, 1) := by decide +kernel
theorem dL_law_597 : decode cL_law 597 = .ok (.iconst 1, 1) := by decide +kernel
theorem dL_law_598 : decode cL_law 598 = .ok (.iadd, 1) := by decide +kernel
theorem dL_law_599 : decode cL_law 599 = .ok (.iaload, 1) := by decide +kernel
theorem dL_law_600 : decode cL_law 600 = .ok (.aload_n 0, 1) := by decide +kernel
theorem dL_law_601 : decode cL_law 601 = .ok (.iload_n 3, 1) := by decide +kernel
theorem dL_law_602 : decode cL_law 602 = .ok (.iconst 2, 1) := by decide +kernel
theorem dL_law_603 : decode cL_law 603 = .ok (.iadd, 1) := by decide +kernel
theorem dL_law_604 : decode cL_law 604 = .ok (.iaload, 1) := by decide +kernel
theorem dL_law_605 : decode cL_law 605 = .ok (.invokevirtual 83, 3) := by decide +kernel
theorem dL_law_608 : decode cL_law 608 = .ok (.aload_n 2, 1) := by decide +kernel
theorem dL_law_609 : decode cL_law 609 = .ok (.aload_n 0, 1) := by decide +kernel
theorem dL_law_610 : decode cL_law 610 = .ok (.iload_n 3, 1) := by decide +kernel
theorem dL_law_611 : decode cL_law 611 = .ok (.iconst 1, 1) := by decide +kernel
theorem dL_law_612 : decode cL_law 612 = .ok (.iadd, 1) := by decide +kernel
theorem dL_law_613 : decode cL_law 613 = .ok (.iaload, 1) := by decide +kernel
theorem dL_law_614 : decode cL_law 614 = .ok (.aload_n 0, 1) := by decide +kernel
theorem dL_law_615 : decode cL_law 615 = .ok (.iload_n 3, 1) := by decide +kernel
theorem dL_law_616 : decode cL_law 616 = .ok (.iconst 2, 1) := by decide +kernel
theorem dL_law_617 : decode cL_law 617 = .ok (.iadd, 1) := by decide +kernel
theorem dL_law_618 : decode cL_law 618 = .ok (.iaload, 1) := by decide +kernel
theorem dL_law_619 : decode cL_law 619 = .ok (.invokevirtual 86, 3) := by decide +kernel
theorem dL_law_622 : decode cL_law 622 = .ok (.if_icmp .eq 352, 3) := by decide +kernel
theorem dL_law_625 : decode cL_law 625 = .ok (.iconst 0, 1) := by decide +kernel
theorem dL_law_626 : decode cL_law 626 = .ok (.ireturn, 1) := by decide +kernel
theorem dL_law_627 : decode cL_law 627 = .ok (.aload_n 1, 1) := by decide +kernel
theorem dL_law_628 : decode cL_law 628 = .ok (.aload_n 0, 1) := by decide +kernel
theorem dL_law_629 : decode cL_law 629 = .ok (.iload_n 3, 1) := by decide +kernel
theorem dL_law_630 : decode cL_law 630 = .ok (.iconst 1, 1) := by decide +kernel
theorem dL_law_631 : decode cL_law 631 = .ok (.iadd, 1) := by decide +kernel
theorem dL_law_632 : decode cL_law 632 = .ok (.iaload, 1) := by decide +kernel
theorem dL_law_633 : decode cL_law 633 = .ok (.aload_n 0, 1) := by decide +kernel
theorem dL_law_634 : decode cL_law 634 = .ok (.iload_n 3, 1) := by decide +kernel
theorem dL_law_635 : decode cL_law 635 = .ok (.iconst 2, 1) := by decide +kernel
theorem dL_law_636 : decode cL_law 636 = .ok (.iadd, 1) := by decide +kernel
theorem dL_law_637 : decode cL_law 637 = .ok (.iaload, 1) := by decide +kernel
theorem dL_law_638 : decode cL_law 638 = .ok (.aload_n 0, 1) := by decide +kernel
theorem dL_law_639 : decode cL_law 639 = .ok (.iload_n 3, 1) := by decide +kernel
theorem dL_law_640 : decode cL_law 640 = .ok (.iconst 3, 1) := by decide +kernel
theorem dL_law_641 : decode cL_law 641 = .ok (.iadd, 1) := by decide +kernel
theorem dL_law_642 : decode cL_law 642 = .ok (.iaload, 1) := by decide +kernel
theorem dL_law_643 : decode cL_law 643 = .ok (.ifCond .eq 7, 3) := by decide +kernel
theorem dL_law_646 : decode cL_law 646 = .ok (.iconst 1, 1) := by decide +kernel
theorem dL_law_647 : decode cL_law 647 = .ok (.goto 4, 3) := by decide +kernel
theorem dL_law_650 : decode cL_law 650 = .ok (.iconst 0, 1) := by decide +kernel
theorem dL_law_651 : decode cL_law 651 = .ok (.invokevirtual 87, 3) := by decide +kernel
theorem dL_law_654 : decode cL_law 654 = .ok (.aload_n 2, 1) := by decide +kernel
theorem dL_law_655 : decode cL_law 655 = .ok (.aload_n 0, 1) := by decide +kernel
theorem dL_law_656 : decode cL_law 656 = .ok (.iload_n 3, 1) := by decide +kernel
theorem dL_law_657 : decode cL_law 657 = .ok (.iconst 1, 1) := by decide +kernel
theorem dL_law_658 : decode cL_law 658 = .ok (.iadd, 1) := by decide +kernel
theorem dL_law_659 : decode cL_law 659 = .ok (.iaload, 1) := by decide +kernel
theorem dL_law_660 : decode cL_law 660 = .ok (.aload_n 0, 1) := by decide +kernel
theorem dL_law_661 : decode cL_law 661 = .ok (.iload_n 3, 1) := by decide +kernel
theorem dL_law_662 : decode cL_law 662 = .ok (.iconst 2, 1) := by decide +kernel
theorem dL_law_663 : decode cL_law 663 = .ok (.iadd, 1) := by decide +kernel
theorem dL_law_664 : decode cL_law 664 = .ok (.iaload, 1) := by decide +kernel
theorem dL_law_665 : decode cL_law 665 = .ok (.aload_n 0, 1) := by decide +kernel
theorem dL_law_666 : decode cL_law 666 = .ok (.iload_n 3, 1) := by decide +kernel
theorem dL_law_667 : decode cL_law 667 = .ok (.iconst 3, 1) := by decide +kernel
theorem dL_law_668 : decode cL_law 668 = .ok (.iadd, 1) := by decide +kernel
theorem dL_law_669 : decode cL_law 669 = .ok (.iaload, 1) := by decide +kernel
theorem dL_law_670 : decode cL_law 670 = .ok (.ifCond .eq 7, 3) := by decide +kernel
theorem dL_law_673 : decode cL_law 673 = .ok (.iconst 1, 1) := by decide +kernel
theorem dL_law_674 : decode cL_law 674 = .ok (.goto 4, 3) := by decide +kernel
theorem dL_law_677 : decode cL_law 677 = .ok (.iconst 0, 1) := by decide +kernel
theorem dL_law_678 : decode cL_law 678 = .ok (.invokevirtual 91, 3) := by decide +kernel
theorem dL_law_681 : decode cL_law 681 = .ok (.if_icmp .eq 293, 3) := by decide +kernel
theorem dL_law_684 : decode cL_law 684 = .ok (.iconst 0, 1) := by decide +kernel
theorem dL_law_685 : decode cL_law 685 = .ok (.ireturn, 1) := by decide +kernel
theorem dL_law_686 : decode cL_law 686 = .ok (.aload_n 1, 1) := by decide +kernel
theorem dL_law_687 : decode cL_law 687 = .ok (.aload_n 0, 1) := by decide +kernel
theorem dL_law_688 : decode cL_law 688 = .ok (.iload_n 3, 1) := by decide +kernel
theorem dL_law_689 : decode cL_law 689 = .ok (.iconst 1, 1) := by decide +kernel
theorem dL_law_690 : decode cL_law 690 = .ok (.iadd, 1) := by decide +kernel
theorem dL_law_691 : decode cL_law 691 = .ok (.iaload, 1) := by decide +kernel
theorem dL_law_692 : decode cL_law 692 = .ok (.aload_n 0, 1) := by decide +kernel
theorem dL_law_693 : decode cL_law 693 = .ok (.iload_n 3, 1) := by decide +kernel
theorem dL_law_694 : decode cL_law 694 = .ok (.iconst 2, 1) := by decide +kernel
theorem dL_law_695 : decode cL_law 695 = .ok (.iadd, 1) := by decide +kernel
theorem dL_law_696 : decode cL_law 696 = .ok (.iaload, 1) := by decide +kernel
theorem dL_law_697 : decode cL_law 697 = .ok (.aload_n 0, 1) := by decide +kernel
theorem dL_law_698 : decode cL_law 698 = .ok (.iload_n 3, 1) := by decide +kernel
theorem dL_law_699 : decode cL_law 699 = .ok (.iconst 3, 1) := by decide +kernel
theorem dL_law_700 : decode cL_law 700 = .ok (.iadd, 1) := by decide +kernel
theorem dL_law_701 : decode cL_law 701 = .ok (.iaload, 1) := by decide +kernel
theorem dL_law_702 : decode cL_law 702 = .ok (.aload_n 0, 1) := by decide +kernel
theorem dL_law_703 : decode cL_law 703 = .ok (.iload_n 3, 1) := by decide +kernel
theorem dL_law_704 : decode cL_law 704 = .ok (.iconst 4, 1) := by decide +kernel
theorem dL_law_705 : decode cL_law 705 = .ok (.iadd, 1) := by decide +kernel
theorem dL_law_706 : decode cL_law 706 = .ok (.iaload, 1) := by decide +kernel
theorem dL_law_707 : decode cL_law 707 = .ok (.invokevirtual 92, 3) := by decide +kernel
theorem dL_law_710 : decode cL_law 710 = .ok (.aload_n 2, 1) := by decide +kernel
theorem dL_law_711 : decode cL_law 711 = .ok (.aload_n 0, 1) := by decide +kernel
theorem dL_law_712 : decode cL_law 712 = .ok (.iload_n 3, 1) := by decide +kernel
theorem dL_law_713 : decode cL_law 713 = .ok (.iconst 1, 1) := by decide +kernel
theorem dL_law_714 : decode cL_law 714 = .ok (.iadd, 1) := by decide +kernel
theorem dL_law_715 : decode cL_law 715 = .ok (.iaload, 1) := by decide +kernel
theorem dL_law_716 : decode cL_law 716 = .ok (.aload_n 0, 1) := by decide +kernel
theorem dL_law_717 : decode cL_law 717 = .ok (.iload_n 3, 1) := by decide +kernel
theorem dL_law_718 : decode cL_law 718 = .ok (.iconst 2, 1) := by decide +kernel
theorem dL_law_719 : decode cL_law 719 = .ok (.iadd, 1) := by decide +kernel
theorem dL_law_720 : decode cL_law 720 = .ok (.iaload, 1) := by decide +kernel
theorem dL_law_721 : decode cL_law 721 = .ok (.aload_n 0, 1) := by decide +kernel
theorem dL_law_722 : decode cL_law 722 = .ok (.iload_n 3, 1) := by decide +kernel
theorem dL_law_723 : decode cL_law 723 = .ok (.iconst 3, 1) := by decide +kernel
theorem dL_law_724 : decode cL_law 724 = .ok (.iadd, 1) := by decide +kernel
theorem dL_law_725 : decode cL_law 725 = .ok (.iaload, 1) := by decide +kernel
theorem dL_law_726 : decode cL_law 726 = .ok (.aload_n 0, 1) := by decide +kernel
theorem dL_law_727 : decode cL_law 727 = .ok (.iload_n 3, 1) := by decide +kernel
theorem dL_law_728 : decode cL_law 728 = .ok (.iconst 4, 1) := by decide +kernel
theorem dL_law_729 : decode cL_law 729 = .ok (.iadd, 1) := by decide +kernel
theorem dL_law_730 : decode cL_law 730 = .ok (.iaload, 1) := by decide +kernel
theorem dL_law_731 : decode cL_law 731 = .ok (.invokevirtual 96, 3) := by decide +kernel
theorem dL_law_734 : decode cL_law 734 = .ok (.lcmp, 1) := by decide +kernel
theorem dL_law_735 : decode cL_law 735 = .ok (.ifCond .eq 239, 3) := by decide +kernel
theorem dL_law_738 : decode cL_law 738 = .ok (.iconst 0, 1) := by decide +kernel
theorem dL_law_739 : decode cL_law 739 = .ok (.ireturn, 1) := by decide +kernel
theorem dL_law_740 : decode cL_law 740 = .ok (.aload_n 1, 1) := by decide +kernel
theorem dL_law_741 : decode cL_law 741 = .ok (.aload_n 0, 1) := by decide +kernel
theorem dL_law_742 : decode cL_law 742 = .ok (.iload_n 3, 1) := by decide +kernel
theorem dL_law_743 : decode cL_law 743 = .ok (.iconst 1, 1) := by decide +kernel
theorem dL_law_744 : decode cL_law 744 = .ok (.iadd, 1) := by decide +kernel
theorem dL_law_745 : decode cL_law 745 = .ok (.iaload, 1) := by decide +kernel
theorem dL_law_746 : decode cL_law 746 = .ok (.invokevirtual 97, 3) := by decide +kernel
theorem dL_law_749 : decode cL_law 749 = .ok (.aload_n 2, 1) := by decide +kernel
theorem dL_law_750 : decode cL_law 750 = .ok (.aload_n 0, 1) := by decide +kernel
theorem dL_law_751 : decode cL_law 751 = .ok (.iload_n 3, 1) := by decide +kernel
theorem dL_law_752 : decode cL_law 752 = .ok (.iconst 1, 1) := by decide +kernel
theorem dL_law_753 : decode cL_law 753 = .ok (.iadd, 1) := by decide +kernel
theorem dL_law_754 : decode cL_law 754 = .ok (.iaload, 1) := by decide +kernel
theorem dL_law_755 : decode cL_law 755 = .ok (.invokevirtual 100, 3) := by decide +kernel
theorem dL_law_758 : decode cL_law 758 = .ok (.if_icmp .eq 216, 3) := by decide +kernel
theorem dL_law_761 : decode cL_law 761 = .ok (.iconst 0, 1) := by decide +kernel
theorem dL_law_762 : decode cL_law 762 = .ok (.ireturn, 1) := by decide +kernel
theorem dL_law_763 : decode cL_law 763 = .ok (.aload_n 1, 1) := by decide +kernel
theorem dL_law_764 : decode cL_law 764 = .ok (.aload_n 0, 1) := by decide +kernel
theorem dL_law_765 : decode cL_law 765 = .ok (.iload_n 3, 1) := by decide +kernel
theorem dL_law_766 : decode cL_law 766 = .ok (.iconst 1, 1) := by decide +kernel
theorem dL_law_767 : decode cL_law 767 = .ok (.iadd, 1) := by decide +kernel
theorem dL_law_768 : decode cL_law 768 = .ok (.iaload, 1) := by decide +kernel
theorem dL_law_769 : decode cL_law 769 = .ok (.aload_n 0, 1) := by decide +kernel
theorem dL_law_770 : decode cL_law 770 = .ok (.iload_n 3, 1) := by decide +kernel
theorem dL_law_771 : decode cL_law 771 = .ok (.iconst 2, 1) := by decide +kernel
theorem dL_law_772 : decode cL_law 772 = .ok (.iadd, 1) := by decide +kernel
theorem dL_law_773 : decode cL_law 773 = .ok (.iaload, 1) := by decide +kernel
theorem dL_law_774 : decode cL_law 774 = .ok (.aload_n 0, 1) := by decide +kernel
theorem dL_law_775 : decode cL_law 775 = .ok (.iload_n 3, 1) := by decide +kernel
theorem dL_law_776 : decode cL_law 776 = .ok (.iconst 3, 1) := by decide +kernel
theorem dL_law_777 : decode cL_law 777 = .ok (.iadd, 1) := by decide +kernel
theorem dL_law_778 : decode cL_law 778 = .ok (.iaload, 1) := by decide +kernel
theorem dL_law_779 : decode cL_law 779 = .ok (.invokevirtual 101, 3) := by decide +kernel
theorem dL_law_782 : decode cL_law 782 = .ok (.aload_n 2, 1) := by decide +kernel
theorem dL_law_783 : decode cL_law 783 = .ok (.aload_n 0, 1) := by decide +kernel
theorem dL_law_784 : decode cL_law 784 = .ok (.iload_n 3, 1) := by decide +kernel
theorem dL_law_785 : decode cL_law 785 = .ok (.iconst 1, 1) := by decide +kernel
theorem dL_law_786 : decode cL_law 786 = .ok (.iadd, 1) := by decide +kernel
theorem dL_law_787 : decode cL_law 787 = .ok (.iaload, 1) := by decide +kernel
theorem dL_law_788 : decode cL_law 788 = .ok (.aload_n 0, 1) := by decide +kernel
theorem dL_law_789 : decode cL_law 789 = .ok (.iload_n 3, 1) := by decide +kernel
theorem dL_law_790 : decode cL_law 790 = .ok (.iconst 2, 1) := by decide +kernel
theorem dL_law_791 : decode cL_law 791 = .ok (.iadd, 1) := by decide +kernel
theorem dL_law_792 : decode cL_law 792 = .ok (.iaload, 1) := by decide +kernel
theorem dL_law_793 : decode cL_law 793 = .ok (.aload_n 0, 1) := by decide +kernel
theorem dL_law_794 : decode cL_law 794 = .ok (.iload_n 3, 1) := by decide +kernel
theorem dL_law_795 : decode cL_law 795 = .ok (.iconst 3, 1) := by decide +kernel
theorem dL_law_796 : decode cL_law 796 = .ok (.iadd, 1) := by decide +kernel
theorem dL_law_797 : decode cL_law 797 = .ok (.iaload, 1) := by decide +kernel
theorem dL_law_798 : decode cL_law 798 = .ok (.invokevirtual 105, 3) := by decide +kernel
theorem dL_law_801 : decode cL_law 801 = .ok (.if_icmp .eq 173, 3) := by decide +kernel
theorem dL_law_804 : decode cL_law 804 = .ok (.iconst 0, 1) := by decide +kernel
theorem dL_law_805 : decode cL_law 805 = .ok (.ireturn, 1) := by decide +kernel
theorem dL_law_806 : decode cL_law 806 = .ok (.aload_n 1, 1) := by decide +kernel
theorem dL_law_807 : decode cL_law 807 = .ok (.aload_n 0, 1) := by decide +kernel
theorem dL_law_808 : decode cL_law 808 = .ok (.iload_n 3, 1) := by decide +kernel
theorem dL_law_809 : decode cL_law 809 = .ok (.iconst 1, 1) := by decide +kernel
theorem dL_law_810 : decode cL_law 810 = .ok (.iadd, 1) := by decide +kernel
theorem dL_law_811 : decode cL_law 811 = .ok (.iaload, 1) := by decide +kernel
theorem dL_law_812 : decode cL_law 812 = .ok (.aload_n 0, 1) := by decide +kernel
theorem dL_law_813 : decode cL_law 813 = .ok (.iload_n 3, 1) := by decide +kernel
theorem dL_law_814 : decode cL_law 814 = .ok (.iconst 2, 1) := by decide +kernel
theorem dL_law_815 : decode cL_law 815 = .ok (.iadd, 1) := by decide +kernel
theorem dL_law_816 : decode cL_law 816 = .ok (.iaload, 1) := by decide +kernel
theorem dL_law_817 : decode cL_law 817 = .ok (.aload_n 0, 1) := by decide +kernel
theorem dL_law_818 : decode cL_law 818 = .ok (.iload_n 3, 1) := by decide +kernel
theorem dL_law_819 : decode cL_law 819 = .ok (.iconst 3, 1) := by decide +kernel
theorem dL_law_820 : decode cL_law 820 = .ok (.iadd, 1) := by decide +kernel
theorem dL_law_821 : decode cL_law 821 = .ok (.iaload, 1) := by decide +kernel
theorem dL_law_822 : decode cL_law 822 = .ok (.aload_n 0, 1) := by decide +kernel
theorem dL_law_823 : decode cL_law 823 = .ok (.iload_n 3, 1) := by decide +kernel
theorem dL_law_824 : decode cL_law 824 = .ok (.iconst 4, 1) := by decide +kernel
theorem dL_law_825 : decode cL_law 825 = .ok (.iadd, 1) := by decide +kernel
theorem dL_law_826 : decode cL_law 826 = .ok (.iaload, 1) := by decide +kernel
theorem dL_law_827 : decode cL_law 827 = .ok (.invokevirtual 106, 3) := by decide +kernel
theorem dL_law_830 : decode cL_law 830 = .ok (.aload_n 2, 1) := by decide +kernel
theorem dL_law_831 : decode cL_law 831 = .ok (.aload_n 0, 1) := by decide +kernel
theorem dL_law_832 : decode cL_law 832 = .ok (.iload_n 3, 1) := by decide +kernel
theorem dL_law_833 : decode cL_law 833 = .ok (.iconst 1, 1) := by decide +kernel
theorem dL_law_834 : decode cL_law 834 = .ok (.iadd, 1) := by decide +kernel
theorem dL_law_835 : decode cL_law 835 = .ok (.iaload, 1) := by decide +kernel
theorem dL_law_836 : decode cL_law 836 = .ok (.aload_n 0, 1) := by decide +kernel
theorem dL_law_837 : decode cL_law 837 = .ok (.iload_n 3, 1) := by decide +kernel
theorem dL_law_838 : decode cL_law 838 = .ok (.iconst 2, 1) := by decide +kernel
theorem dL_law_839 : decode cL_law 839 = .ok (.iadd, 1) := by decide +kernel
theorem dL_law_840 : decode cL_law 840 = .ok (.iaload, 1) := by decide +kernel
theorem dL_law_841 : decode cL_law 841 = .ok (.aload_n 0, 1) := by decide +kernel
theorem dL_law_842 : decode cL_law 842 = .ok (.iload_n 3, 1) := by decide +kernel
theorem dL_law_843 : decode cL_law 843 = .ok (.iconst 3, 1) := by decide +kernel
theorem dL_law_844 : decode cL_law 844 = .ok (.iadd, 1) := by decide +kernel
theorem dL_law_845 : decode cL_law 845 = .ok (.iaload, 1) := by decide +kernel
theorem dL_law_846 : decode cL_law 846 = .ok (.aload_n 0, 1) := by decide +kernel
theorem dL_law_847 : decode cL_law 847 = .ok (.iload_n 3, 1) := by decide +kernel
theorem dL_law_848 : decode cL_law 848 = .ok (.iconst 4, 1) := by decide +kernel
theorem dL_law_849 : decode cL_law 849 = .ok (.iadd, 1) := by decide +kernel
theorem dL_law_850 : decode cL_law 850 = .ok (.iaload, 1) := by decide +kernel
theorem dL_law_851 : decode cL_law 851 = .ok (.invokevirtual 110, 3) := by decide +kernel
theorem dL_law_854 : decode cL_law 854 = .ok (.if_icmp .eq 120, 3) := by decide +kernel
theorem dL_law_857 : decode cL_law 857 = .ok (.iconst 0, 1) := by decide +kernel
theorem dL_law_858 : decode cL_law 858 = .ok (.ireturn, 1) := by decide +kernel
theorem dL_law_859 : decode cL_law 859 = .ok (.aload_n 1, 1) := by decide +kernel
theorem dL_law_860 : decode cL_law 860 = .ok (.aload_n 0, 1) := by decide +kernel
theorem dL_law_861 : decode cL_law 861 = .ok (.iload_n 3, 1) := by decide +kernel
theorem dL_law_862 : decode cL_law 862 = .ok (.iconst 1, 1) := by decide +kernel
theorem dL_law_863 : decode cL_law 863 = .ok (.iadd, 1) := by decide +kernel
theorem dL_law_864 : decode cL_law 864 = .ok (.iaload, 1) := by decide +kernel
theorem dL_law_865 : decode cL_law 865 = .ok (.invokevirtual 111, 3) := by decide +kernel
theorem dL_law_868 : decode cL_law 868 = .ok (.aload_n 2, 1) := by decide +kernel
theorem dL_law_869 : decode cL_law 869 = .ok (.aload_n 0, 1) := by decide +kernel
theorem dL_law_870 : decode cL_law 870 = .ok (.iload_n 3, 1) := by decide +kernel
theorem dL_law_871 : decode cL_law 871 = .ok (.iconst 1, 1) := by decide +kernel
theorem dL_law_872 : decode cL_law 872 = .ok (.iadd, 1) := by decide +kernel
theorem dL_law_873 : decode cL_law 873 = .ok (.iaload, 1) := by decide +kernel
theorem dL_law_874 : decode cL_law 874 = .ok (.invokevirtual 114, 3) := by decide +kernel
theorem dL_law_877 : decode cL_law 877 = .ok (.if_icmp .eq 97, 3) := by decide +kernel
theorem dL_law_880 : decode cL_law 880 = .ok (.iconst 0, 1) := by decide +kernel
theorem dL_law_881 : decode cL_law 881 = .ok (.ireturn, 1) := by decide +kernel
theorem dL_law_882 : decode cL_law 882 = .ok (.aload_n 1, 1) := by decide +kernel
theorem dL_law_883 : decode cL_law 883 = .ok (.aload_n 0, 1) := by decide +kernel
theorem dL_law_884 : decode cL_law 884 = .ok (.iload_n 3, 1) := by decide +kernel
theorem dL_law_885 : decode cL_law 885 = .ok (.iconst 1, 1) := by decide +kernel
theorem dL_law_886 : decode cL_law 886 = .ok (.iadd, 1) := by decide +kernel
theorem dL_law_887 : decode cL_law 887 = .ok (.iaload, 1) := by decide +kernel
theorem dL_law_888 : decode cL_law 888 = .ok (.aload_n 0, 1) := by decide +kernel
theorem dL_law_889 : decode cL_law 889 = .ok (.iload_n 3, 1) := by decide +kernel
theorem dL_law_890 : decode cL_law 890 = .ok (.iconst 2, 1) := by decide +kernel
theorem dL_law_891 : decode cL_law 891 = .ok (.iadd, 1) := by decide +kernel
theorem dL_law_892 : decode cL_law 892 = .ok (.iaload, 1) := by decide +kernel
theorem dL_law_893 : decode cL_law 893 = .ok (.aload_n 0, 1) := by decide +kernel
theorem dL_law_894 : decode cL_law 894 = .ok (.iload_n 3, 1) := by decide +kernel
theorem dL_law_895 : decode cL_law 895 = .ok (.iconst 3, 1) := by decide +kernel
theorem dL_law_896 : decode cL_law 896 = .ok (.iadd, 1) := by decide +kernel
theorem dL_law_897 : decode cL_law 897 = .ok (.iaload, 1) := by decide +kernel
theorem dL_law_898 : decode cL_law 898 = .ok (.invokevirtual 115, 3) := by decide +kernel
theorem dL_law_901 : decode cL_law 901 = .ok (.aload_n 2, 1) := by decide +kernel
theorem dL_law_902 : decode cL_law 902 = .ok (.aload_n 0, 1) := by decide +kernel
theorem dL_law_903 : decode cL_law 903 = .ok (.iload_n 3, 1) := by decide +kernel
theorem dL_law_904 : decode cL_law 904 = .ok (.iconst 1, 1) := by decide +kernel
theorem dL_law_905 : decode cL_law 905 = .ok (.iadd, 1) := by decide +kernel
theorem dL_law_906 : decode cL_law 906 = .ok (.iaload, 1) := by decide +kernel
theorem dL_law_907 : decode cL_law 907 = .ok (.aload_n 0, 1) := by decide +kernel
theorem dL_law_908 : decode cL_law 908 = .ok (.iload_n 3, 1) := by decide +kernel
theorem dL_law_909 : decode cL_law 909 = .ok (.iconst 2, 1) := by decide +kernel
theorem dL_law_910 : decode cL_law 910 = .ok (.iadd, 1) := by decide +kernel
theorem dL_law_911 : decode cL_law 911 = .ok (.iaload, 1) := by decide +kernel
theorem dL_law_912 : decode cL_law 912 = .ok (.aload_n 0, 1) := by decide +kernel
theorem dL_law_913 : decode cL_law 913 = .ok (.iload_n 3, 1) := by decide +kernel
theorem dL_law_914 : decode cL_law 914 = .ok (.iconst 3, 1) := by decide +kernel
theorem dL_law_915 : decode cL_law 915 = .ok (.iadd, 1) := by decide +kernel
theorem dL_law_916 : decode cL_law 916 = .ok (.iaload, 1) := by decide +kernel
theorem dL_law_917 : decode cL_law 917 = .ok (.invokevirtual 118, 3) := by decide +kernel
theorem dL_law_920 : decode cL_law 920 = .ok (.if_icmp .eq 54, 3) := by decide +kernel
theorem dL_law_923 : decode cL_law 923 = .ok (.iconst 0, 1) := by decide +kernel
theorem dL_law_924 : decode cL_law 924 = .ok (.ireturn, 1) := by decide +kernel
theorem dL_law_925 : decode cL_law 925 = .ok (.aload_n 1, 1) := by decide +kernel
theorem dL_law_926 : decode cL_law 926 = .ok (.invokevirtual 119, 3) := by decide +kernel
theorem dL_law_929 : decode cL_law 929 = .ok (.aload_n 2, 1) := by decide +kernel
theorem dL_law_930 : decode cL_law 930 = .ok (.invokevirtual 122, 3) := by decide +kernel
theorem dL_law_933 : decode cL_law 933 = .ok (.if_icmp .eq 41, 3) := by decide +kernel
theorem dL_law_936 : decode cL_law 936 = .ok (.iconst 0, 1) := by decide +kernel
theorem dL_law_937 : decode cL_law 937 = .ok (.ireturn, 1) := by decide +kernel
theorem dL_law_938 : decode cL_law 938 = .ok (.aload_n 1, 1) := by decide +kernel
theorem dL_law_939 : decode cL_law 939 = .ok (.invokevirtual 123, 3) := by decide +kernel
theorem dL_law_942 : decode cL_law 942 = .ok (.aload_n 2, 1) := by decide +kernel
theorem dL_law_943 : decode cL_law 943 = .ok (.invokevirtual 126, 3) := by decide +kernel
theorem dL_law_946 : decode cL_law 946 = .ok (.if_icmp .eq 28, 3) := by decide +kernel
theorem dL_law_949 : decode cL_law 949 = .ok (.iconst 0, 1) := by decide +kernel
theorem dL_law_950 : decode cL_law 950 = .ok (.ireturn, 1) := by decide +kernel
theorem dL_law_951 : decode cL_law 951 = .ok (.aload_n 1, 1) := by decide +kernel
theorem dL_law_952 : decode cL_law 952 = .ok (.aload_n 0, 1) := by decide +kernel
theorem dL_law_953 : decode cL_law 953 = .ok (.iload_n 3, 1) := by decide +kernel
theorem dL_law_954 : decode cL_law 954 = .ok (.iconst 1, 1) := by decide +kernel
theorem dL_law_955 : decode cL_law 955 = .ok (.iadd, 1) := by decide +kernel
theorem dL_law_956 : decode cL_law 956 = .ok (.iaload, 1) := by decide +kernel
theorem dL_law_957 : decode cL_law 957 = .ok (.invokevirtual 127, 3) := by decide +kernel
theorem dL_law_960 : decode cL_law 960 = .ok (.aload_n 2, 1) := by decide +kernel
theorem dL_law_961 : decode cL_law 961 = .ok (.aload_n 0, 1) := by decide +kernel
theorem dL_law_962 : decode cL_law 962 = .ok (.iload_n 3, 1) := by decide +kernel
theorem dL_law_963 : decode cL_law 963 = .ok (.iconst 1, 1) := by decide +kernel
theorem dL_law_964 : decode cL_law 964 = .ok (.iadd, 1) := by decide +kernel
theorem dL_law_965 : decode cL_law 965 = .ok (.iaload, 1) := by decide +kernel
theorem dL_law_966 : decode cL_law 966 = .ok (.invokevirtual 130, 3) := by decide +kernel
theorem dL_law_969 : decode cL_law 969 = .ok (.if_icmp .eq 5, 3) := by decide +kernel
theorem dL_law_972 : decode cL_law 972 = .ok (.iconst 0, 1) := by decide +kernel
theorem dL_law_973 : decode cL_law 973 = .ok (.ireturn, 1) := by decide +kernel
theorem dL_law_974 : decode cL_law 974 = .ok (.iinc 3 6, 3) := by decide +kernel
theorem dL_law_977 : decode cL_law 977 = .ok (.goto (-959), 3) := by decide +kernel
theorem dL_law_980 : decode cL_law 980 = .ok (.iconst 1, 1) := by decide +kernel
theorem dL_law_981 : decode cL_law 981 = .ok (.ireturn, 1) := by decide +kernel
