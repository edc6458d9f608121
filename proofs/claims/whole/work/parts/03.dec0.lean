theorem dX0_init_0 : decode cX0_init 0 = .ok (.aload_n 0, 1) := by decide +kernel
theorem dX0_init_1 : decode cX0_init 1 = .ok (.invokespecial 1, 3) := by decide +kernel
theorem dX0_init_4 : decode cX0_init 4 = .ok (.aload_n 0, 1) := by decide +kernel
theorem dX0_init_5 : decode cX0_init 5 = .ok (.iconst 0, 1) := by decide +kernel
theorem dX0_init_6 : decode cX0_init 6 = .ok (.putfield 7, 3) := by decide +kernel
theorem dX0_init_9 : decode cX0_init 9 = .ok (.aload_n 0, 1) := by decide +kernel
theorem dX0_init_10 : decode cX0_init 10 = .ok (.iconst 0, 1) := by decide +kernel
theorem dX0_init_11 : decode cX0_init 11 = .ok (.putfield 13, 3) := by decide +kernel
theorem dX0_init_14 : decode cX0_init 14 = .ok (.aload_n 0, 1) := by decide +kernel
theorem dX0_init_15 : decode cX0_init 15 = .ok (.iconst 0, 1) := by decide +kernel
theorem dX0_init_16 : decode cX0_init 16 = .ok (.putfield 16, 3) := by decide +kernel
theorem dX0_init_19 : decode cX0_init 19 = .ok (.aload_n 0, 1) := by decide +kernel
theorem dX0_init_20 : decode cX0_init 20 = .ok (.iconst 0, 1) := by decide +kernel
theorem dX0_init_21 : decode cX0_init 21 = .ok (.putfield 19, 3) := by decide +kernel
theorem dX0_init_24 : decode cX0_init 24 = .ok (.aload_n 0, 1) := by decide +kernel
theorem dX0_init_25 : decode cX0_init 25 = .ok (.iconst 0, 1) := by decide +kernel
theorem dX0_init_26 : decode cX0_init 26 = .ok (.putfield 22, 3) := by decide +kernel
theorem dX0_init_29 : decode cX0_init 29 = .ok (.return_, 1) := by decide +kernel
theorem dX0_loadFrom_0 : decode cX0_loadFrom 0 = .ok (.aload_n 0, 1) := by decide +kernel
theorem dX0_loadFrom_1 : decode cX0_loadFrom 1 = .ok (.iload_n 2, 1) := by decide +kernel
theorem dX0_loadFrom_2 : decode cX0_loadFrom 2 = .ok (.putfield 7, 3) := by decide +kernel
theorem dX0_loadFrom_5 : decode cX0_loadFrom 5 = .ok (.aload_n 0, 1) := by decide +kernel
theorem dX0_loadFrom_6 : decode cX0_loadFrom 6 = .ok (.aload_n 1, 1) := by decide +kernel
theorem dX0_loadFrom_7 : decode cX0_loadFrom 7 = .ok (.iload_n 2, 1) := by decide +kernel
theorem dX0_loadFrom_8 : decode cX0_loadFrom 8 = .ok (.invokestatic 25, 3) := by decide +kernel
theorem dX0_loadFrom_11 : decode cX0_loadFrom 11 = .ok (.invokevirtual 31, 3) := by decide +kernel
theorem dX0_loadFrom_14 : decode cX0_loadFrom 14 = .ok (.putfield 13, 3) := by decide +kernel
theorem dX0_loadFrom_17 : decode cX0_loadFrom 17 = .ok (.aload_n 0, 1) := by decide +kernel
theorem dX0_loadFrom_18 : decode cX0_loadFrom 18 = .ok (.aload_n 1, 1) := by decide +kernel
theorem dX0_loadFrom_19 : decode cX0_loadFrom 19 = .ok (.iload_n 2, 1) := by decide +kernel
theorem dX0_loadFrom_20 : decode cX0_loadFrom 20 = .ok (.invokestatic 34, 3) := by decide +kernel
theorem dX0_loadFrom_23 : decode cX0_loadFrom 23 = .ok (.invokevirtual 31, 3) := by decide +kernel
theorem dX0_loadFrom_26 : decode cX0_loadFrom 26 = .ok (.putfield 16, 3) := by decide +kernel
theorem dX0_loadFrom_29 : decode cX0_loadFrom 29 = .ok (.aload_n 0, 1) := by decide +kernel
theorem dX0_loadFrom_30 : decode cX0_loadFrom 30 = .ok (.aload_n 1, 1) := by decide +kernel
theorem dX0_loadFrom_31 : decode cX0_loadFrom 31 = .ok (.iload_n 2, 1) := by decide +kernel
theorem dX0_loadFrom_32 : decode cX0_loadFrom 32 = .ok (.invokestatic 37, 3) := by decide +kernel
theorem dX0_loadFrom_35 : decode cX0_loadFrom 35 = .ok (.invokevirtual 31, 3) := by decide +kernel
theorem dX0_loadFrom_38 : decode cX0_loadFrom 38 = .ok (.putfield 19, 3) := by decide +kernel
theorem dX0_loadFrom_41 : decode cX0_loadFrom 41 = .ok (.aload_n 0, 1) := by decide +kernel
theorem dX0_loadFrom_42 : decode cX0_loadFrom 42 = .ok (.aload_n 1, 1) := by decide +kernel
theorem dX0_loadFrom_43 : decode cX0_loadFrom 43 = .ok (.bipush 12, 2) := by decide +kernel
theorem dX0_loadFrom_45 : decode cX0_loadFrom 45 = .ok (.invokevirtual 31, 3) := by decide +kernel
theorem dX0_loadFrom_48 : decode cX0_loadFrom 48 = .ok (.putfield 22, 3) := by decide +kernel
theorem dX0_loadFrom_51 : decode cX0_loadFrom 51 = .ok (.return_, 1) := by decide +kernel
theorem dX0_loseSlice_0 : decode cX0_loseSlice 0 = .ok (.aload_n 0, 1) := by decide +kernel
theorem dX0_loseSlice_1 : decode cX0_loseSlice 1 = .ok (.getfield 16, 3) := by decide +kernel
theorem dX0_loseSlice_4 : decode cX0_loseSlice 4 = .ok (.ifCond .gt 5, 3) := by decide +kernel
theorem dX0_loseSlice_7 : decode cX0_loseSlice 7 = .ok (.iconst 0, 1) := by decide +kernel
theorem dX0_loseSlice_8 : decode cX0_loseSlice 8 = .ok (.ireturn, 1) := by decide +kernel
theorem dX0_loseSlice_9 : decode cX0_loseSlice 9 = .ok (.aload_n 0, 1) := by decide +kernel
theorem dX0_loseSlice_10 : decode cX0_loseSlice 10 = .ok (.dup, 1) := by decide +kernel
theorem dX0_loseSlice_11 : decode cX0_loseSlice 11 = .ok (.getfield 16, 3) := by decide +kernel
theorem dX0_loseSlice_14 : decode cX0_loseSlice 14 = .ok (.iconst 1, 1) := by decide +kernel
theorem dX0_loseSlice_15 : decode cX0_loseSlice 15 = .ok (.isub, 1) := by decide +kernel
theorem dX0_loseSlice_16 : decode cX0_loseSlice 16 = .ok (.putfield 16, 3) := by decide +kernel
theorem dX0_loseSlice_19 : decode cX0_loseSlice 19 = .ok (.iconst 1, 1) := by decide +kernel
theorem dX0_loseSlice_20 : decode cX0_loseSlice 20 = .ok (.ireturn, 1) := by decide +kernel
theorem dX1_init_0 : decode cX1_init 0 = .ok (.aload_n 0, 1) := by decide +kernel
theorem dX1_init_1 : decode cX1_init 1 = .ok (.invokespecial 3, 3) := by decide +kernel
theorem dX1_init_4 : decode cX1_init 4 = .ok (.aload_n 0, 1) := by decide +kernel
theorem dX1_init_5 : decode cX1_init 5 = .ok (.bipush 14, 2) := by decide +kernel
theorem dX1_init_7 : decode cX1_init 7 = .ok (.newarray .int, 2) := by decide +kernel
theorem dX1_init_9 : decode cX1_init 9 = .ok (.putfield 11, 3) := by decide +kernel
theorem dX1_init_12 : decode cX1_init 12 = .ok (.aload_n 0, 1) := by decide +kernel
theorem dX1_init_13 : decode cX1_init 13 = .ok (.sipush 420, 3) := by decide +kernel
theorem dX1_init_16 : decode cX1_init 16 = .ok (.newarray .int, 2) := by decide +kernel
theorem dX1_init_18 : decode cX1_init 18 = .ok (.putfield 15, 3) := by decide +kernel
theorem dX1_init_21 : decode cX1_init 21 = .ok (.aload_n 0, 1) := by decide +kernel
theorem dX1_init_22 : decode cX1_init 22 = .ok (.iconst 0, 1) := by decide +kernel
theorem dX1_init_23 : decode cX1_init 23 = .ok (.putfield 18, 3) := by decide +kernel
theorem dX1_init_26 : decode cX1_init 26 = .ok (.aload_n 0, 1) := by decide +kernel
theorem dX1_init_27 : decode cX1_init 27 = .ok (.iconst 0, 1) := by decide +kernel
theorem dX1_init_28 : decode cX1_init 28 = .ok (.putfield 22, 3) := by decide +kernel
theorem dX1_init_31 : decode cX1_init 31 = .ok (.aload_n 0, 1) := by decide +kernel
theorem dX1_init_32 : decode cX1_init 32 = .ok (.bipush 6, 2) := by decide +kernel
theorem dX1_init_34 : decode cX1_init 34 = .ok (.newarray .int, 2) := by decide +kernel
theorem dX1_init_36 : decode cX1_init 36 = .ok (.putfield 25, 3) := by decide +kernel
theorem dX1_init_39 : decode cX1_init 39 = .ok (.aload_n 0, 1) := by decide +kernel
theorem dX1_init_40 : decode cX1_init 40 = .ok (.iconst 0, 1) := by decide +kernel
theorem dX1_init_41 : decode cX1_init 41 = .ok (.putfield 28, 3) := by decide +kernel
theorem dX1_init_44 : decode cX1_init 44 = .ok (.aload_n 0, 1) := by decide +kernel
theorem dX1_init_45 : decode cX1_init 45 = .ok (.iconst 0, 1) := by decide +kernel
theorem dX1_init_46 : decode cX1_init 46 = .ok (.putfield 31, 3) := by decide +kernel
theorem dX1_init_49 : decode cX1_init 49 = .ok (.aload_n 0, 1) := by decide +kernel
theorem dX1_init_50 : decode cX1_init 50 = .ok (.iconst 0, 1) := by decide +kernel
theorem dX1_init_51 : decode cX1_init 51 = .ok (.putfield 34, 3) := by decide +kernel
theorem dX1_init_54 : decode cX1_init 54 = .ok (.aload_n 0, 1) := by decide +kernel
theorem dX1_init_55 : decode cX1_init 55 = .ok (.iconst (-1), 1) := by decide +kernel
theorem dX1_init_56 : decode cX1_init 56 = .ok (.putfield 37, 3) := by decide +kernel
theorem dX1_init_59 : decode cX1_init 59 = .ok (.aload_n 0, 1) := by decide +kernel
theorem dX1_init_60 : decode cX1_init 60 = .ok (.bipush 8, 2) := by decide +kernel
theorem dX1_init_62 : decode cX1_init 62 = .ok (.newarray .int, 2) := by decide +kernel
theorem dX1_init_64 : decode cX1_init 64 = .ok (.putfield 40, 3) := by decide +kernel
theorem dX1_init_67 : decode cX1_init 67 = .ok (.aload_n 0, 1) := by decide +kernel
theorem dX1_init_68 : decode cX1_init 68 = .ok (.iconst 0, 1) := by decide +kernel
theorem dX1_init_69 : decode cX1_init 69 = .ok (.putfield 43, 3) := by decide +kernel
theorem dX1_init_72 : decode cX1_init 72 = .ok (.aload_n 0, 1) := by decide +kernel
theorem dX1_init_73 : decode cX1_init 73 = .ok (.getfield 11, 3) := by decide +kernel
theorem dX1_init_76 : decode cX1_init 76 = .ok (.iconst 0, 1) := by decide +kernel
theorem dX1_init_77 : decode cX1_init 77 = .ok (.invokestatic 46, 3) := by decide +kernel
theorem dX1_init_80 : decode cX1_init 80 = .ok (.bipush 12, 2) := by decide +kernel
theorem dX1_init_82 : decode cX1_init 82 = .ok (.iastore, 1) := by decide +kernel
theorem dX1_init_83 : decode cX1_init 83 = .ok (.aload_n 0, 1) := by decide +kernel
theorem dX1_init_84 : decode cX1_init 84 = .ok (.getfield 11, 3) := by decide +kernel
theorem dX1_init_87 : decode cX1_init 87 = .ok (.iconst 1, 1) := by decide +kernel
theorem dX1_init_88 : decode cX1_init 88 = .ok (.invokestatic 46, 3) := by decide +kernel
theorem dX1_init_91 : decode cX1_init 91 = .ok (.bipush 12, 2) := by decide +kernel
theorem dX1_init_93 : decode cX1_init 93 = .ok (.iastore, 1) := by decide +kernel
theorem dX1_init_94 : decode cX1_init 94 = .ok (.iconst 0, 1) := by decide +kernel
theorem dX1_init_95 : decode cX1_init 95 = .ok (.istore_n 1, 1) := by decide +kernel
theorem dX1_init_96 : decode cX1_init 96 = .ok (.iload_n 1, 1) := by decide +kernel
theorem dX1_init_97 : decode cX1_init 97 = .ok (.bipush 6, 2) := by decide +kernel
theorem dX1_init_99 : decode cX1_init 99 = .ok (.if_icmp .ge 19, 3) := by decide +kernel
theorem dX1_init_102 : decode cX1_init 102 = .ok (.aload_n 0, 1) := by decide +kernel
theorem dX1_init_103 : decode cX1_init 103 = .ok (.getfield 11, 3) := by decide +kernel
theorem dX1_init_106 : decode cX1_init 106 = .ok (.bipush 6, 2) := by decide +kernel
theorem dX1_init_108 : decode cX1_init 108 = .ok (.iload_n 1, 1) := by decide +kernel
theorem dX1_init_109 : decode cX1_init 109 = .ok (.iadd, 1) := by decide +kernel
theorem dX1_init_110 : decode cX1_init 110 = .ok (.iconst 2, 1) := by decide +kernel
theorem dX1_init_111 : decode cX1_init 111 = .ok (.iastore, 1) := by decide +kernel
theorem dX1_init_112 : decode cX1_init 112 = .ok (.iinc 1 1, 3) := by decide +kernel
theorem dX1_init_115 : decode cX1_init 115 = .ok (.goto (-19), 3) := by decide +kernel
theorem dX1_init_118 : decode cX1_init 118 = .ok (.aload_n 0, 1) := by decide +kernel
theorem dX1_init_119 : decode cX1_init 119 = .ok (.getfield 11, 3) := by decide +kernel
theorem dX1_init_122 : decode cX1_init 122 = .ok (.bipush 13, 2) := by decide +kernel
theorem dX1_init_124 : decode cX1_init 124 = .ok (.bipush 11, 2) := by decide +kernel
theorem dX1_init_126 : decode cX1_init 126 = .ok (.iastore, 1) := by decide +kernel
theorem dX1_init_127 : decode cX1_init 127 = .ok (.return_, 1) := by decide +kernel
theorem dX1_dayAt_0 : decode cX1_dayAt 0 = .ok (.iload_n 0, 1) := by decide +kernel
theorem dX1_dayAt_1 : decode cX1_dayAt 1 = .ok (.ifCond .ne 7, 3) := by decide +kernel
theorem dX1_dayAt_4 : decode cX1_dayAt 4 = .ok (.iconst 0, 1) := by decide +kernel
theorem dX1_dayAt_5 : decode cX1_dayAt 5 = .ok (.goto 4, 3) := by decide +kernel
theorem dX1_dayAt_8 : decode cX1_dayAt 8 = .ok (.iconst 3, 1) := by decide +kernel
theorem dX1_dayAt_9 : decode cX1_dayAt 9 = .ok (.ireturn, 1) := by decide +kernel
theorem dX1_leftAt_0 : decode cX1_leftAt 0 = .ok (.iload_n 0, 1) := by decide +kernel
theorem dX1_leftAt_1 : decode cX1_leftAt 1 = .ok (.ifCond .ne 7, 3) := by decide +kernel
theorem dX1_leftAt_4 : decode cX1_leftAt 4 = .ok (.iconst 1, 1) := by decide +kernel
theorem dX1_leftAt_5 : decode cX1_leftAt 5 = .ok (.goto 4, 3) := by decide +kernel
theorem dX1_leftAt_8 : decode cX1_leftAt 8 = .ok (.iconst 4, 1) := by decide +kernel
theorem dX1_leftAt_9 : decode cX1_leftAt 9 = .ok (.ireturn, 1) := by decide +kernel
theorem dX1_hiddenAt_0 : decode cX1_hiddenAt 0 = .ok (.iload_n 0, 1) := by decide +kernel
theorem dX1_hiddenAt_1 : decode cX1_hiddenAt 1 = .ok (.ifCond .ne 7, 3) := by decide +kernel
theorem dX1_hiddenAt_4 : decode cX1_hiddenAt 4 = .ok (.iconst 2, 1) := by decide +kernel
theorem dX1_hiddenAt_5 : decode cX1_hiddenAt 5 = .ok (.goto 4, 3) := by decide +kernel
theorem dX1_hiddenAt_8 : decode cX1_hiddenAt 8 = .ok (.iconst 5, 1) := by decide +kernel
theorem dX1_hiddenAt_9 : decode cX1_hiddenAt 9 = .ok (.ireturn, 1) := by decide +kernel
theorem dX1_get_0 : decode cX1_get 0 = .ok (.iload_n 1, 1) := by decide +kernel
theorem dX1_get_1 : decode cX1_get 1 = .ok (.ifCond .lt 18, 3) := by decide +kernel
theorem dX1_get_4 : decode cX1_get 4 = .ok (.iload_n 1, 1) := by decide +kernel
theorem dX1_get_5 : decode cX1_get 5 = .ok (.bipush 14, 2) := by decide +kernel
theorem dX1_get_7 : decode cX1_get 7 = .ok (.if_icmp .ge 12, 3) := by decide +kernel
theorem dX1_get_10 : decode cX1_get 10 = .ok (.aload_n 0, 1) := by decide +kernel
theorem dX1_get_11 : decode cX1_get 11 = .ok (.getfield 11, 3) := by decide +kernel
theorem dX1_get_14 : decode cX1_get 14 = .ok (.iload_n 1, 1) := by decide +kernel
theorem dX1_get_15 : decode cX1_get 15 = .ok (.iaload, 1) := by decide +kernel
theorem dX1_get_16 : decode cX1_get 16 = .ok (.goto 4, 3) := by decide +kernel
theorem dX1_get_19 : decode cX1_get 19 = .ok (.iconst 0, 1) := by decide +kernel
theorem dX1_get_20 : decode cX1_get 20 = .ok (.ireturn, 1) := by decide +kernel
theorem dX1_put_0 : decode cX1_put 0 = .ok (.iload_n 1, 1) := by decide +kernel
theorem dX1_put_1 : decode cX1_put 1 = .ok (.ifCond .lt 16, 3) := by decide +kernel
theorem dX1_put_4 : decode cX1_put 4 = .ok (.iload_n 1, 1) := by decide +kernel
theorem dX1_put_5 : decode cX1_put 5 = .ok (.bipush 14, 2) := by decide +kernel
theorem dX1_put_7 : decode cX1_put 7 = .ok (.if_icmp .ge 10, 3) := by decide +kernel
theorem dX1_put_10 : decode cX1_put 10 = .ok (.aload_n 0, 1) := by decide +kernel
theorem dX1_put_11 : decode cX1_put 11 = .ok (.getfield 11, 3) := by decide +kernel
theorem dX1_put_14 : decode cX1_put 14 = .ok (.iload_n 1, 1) := by decide +kernel
theorem dX1_put_15 : decode cX1_put 15 = .ok (.iload_n 2, 1) := by decide +kernel
theorem dX1_put_16 : decode cX1_put 16 = .ok (.iastore, 1) := by decide +kernel
theorem dX1_put_17 : decode cX1_put 17 = .ok (.return_, 1) := by decide +kernel
theorem dX1_seatOf_0 : decode cX1_seatOf 0 = .ok (.iload_n 1, 1) := by decide +kernel
theorem dX1_seatOf_1 : decode cX1_seatOf 1 = .ok (.ifCond .lt 21, 3) := by decide +kernel
theorem dX1_seatOf_4 : decode cX1_seatOf 4 = .ok (.iload_n 1, 1) := by decide +kernel
theorem dX1_seatOf_5 : decode cX1_seatOf 5 = .ok (.bipush 6, 2) := by decide +kernel
theorem dX1_seatOf_7 : decode cX1_seatOf 7 = .ok (.if_icmp .ge 15, 3) := by decide +kernel
theorem dX1_seatOf_10 : decode cX1_seatOf 10 = .ok (.aload_n 0, 1) := by decide +kernel
theorem dX1_seatOf_11 : decode cX1_seatOf 11 = .ok (.getfield 11, 3) := by decide +kernel
theorem dX1_seatOf_14 : decode cX1_seatOf 14 = .ok (.bipush 6, 2) := by decide +kernel
theorem dX1_seatOf_16 : decode cX1_seatOf 16 = .ok (.iload_n 1, 1) := by decide +kernel
theorem dX1_seatOf_17 : decode cX1_seatOf 17 = .ok (.iadd, 1) := by decide +kernel
theorem dX1_seatOf_18 : decode cX1_seatOf 18 = .ok (.iaload, 1) := by decide +kernel
theorem dX1_seatOf_19 : decode cX1_seatOf 19 = .ok (.goto 4, 3) := by decide +kernel
theorem dX1_seatOf_22 : decode cX1_seatOf 22 = .ok (.iconst 2, 1) := by decide +kernel
theorem dX1_seatOf_23 : decode cX1_seatOf 23 = .ok (.ireturn, 1) := by decide +kernel
theorem dX1_appetiteOf_0 : decode cX1_appetiteOf 0 = .ok (.iload_n 1, 1) := by decide +kernel
theorem dX1_appetiteOf_1 : decode cX1_appetiteOf 1 = .ok (.ifCond .lt 18, 3) := by decide +kernel
theorem dX1_appetiteOf_4 : decode cX1_appetiteOf 4 = .ok (.iload_n 1, 1) := by decide +kernel
theorem dX1_appetiteOf_5 : decode cX1_appetiteOf 5 = .ok (.bipush 6, 2) := by decide +kernel
theorem dX1_appetiteOf_7 : decode cX1_appetiteOf 7 = .ok (.if_icmp .ge 12, 3) := by decide +kernel
theorem dX1_appetiteOf_10 : decode cX1_appetiteOf 10 = .ok (.aload_n 0, 1) := by decide +kernel
theorem dX1_appetiteOf_11 : decode cX1_appetiteOf 11 = .ok (.getfield 25, 3) := by decide +kernel
theorem dX1_appetiteOf_14 : decode cX1_appetiteOf 14 = .ok (.iload_n 1, 1) := by decide +kernel
theorem dX1_appetiteOf_15 : decode cX1_appetiteOf 15 = .ok (.iaload, 1) := by decide +kernel
theorem dX1_appetiteOf_16 : decode cX1_appetiteOf 16 = .ok (.goto 4, 3) := by decide +kernel
theorem dX1_appetiteOf_19 : decode cX1_appetiteOf 19 = .ok (.iconst 0, 1) := by decide +kernel
theorem dX1_appetiteOf_20 : decode cX1_appetiteOf 20 = .ok (.ireturn, 1) := by decide +kernel
theorem dX1_tellSister_0 : decode cX1_tellSister 0 = .ok (.aload_n 0, 1) := by decide +kernel
theorem dX1_tellSister_1 : decode cX1_tellSister 1 = .ok (.getfield 28, 3) := by decide +kernel
theorem dX1_tellSister_4 : decode cX1_tellSister 4 = .ok (.ifCond .lt 12, 3) := by decide +kernel
theorem dX1_tellSister_7 : decode cX1_tellSister 7 = .ok (.aload_n 0, 1) := by decide +kernel
theorem dX1_tellSister_8 : decode cX1_tellSister 8 = .ok (.getfield 28, 3) := by decide +kernel
theorem dX1_tellSister_11 : decode cX1_tellSister 11 = .ok (.bipush 6, 2) := by decide +kernel
theorem dX1_tellSister_13 : decode cX1_tellSister 13 = .ok (.if_icmp .lt 5, 3) := by decide +kernel
theorem dX1_tellSister_16 : decode cX1_tellSister 16 = .ok (.iconst (-1), 1) := by decide +kernel
theorem dX1_tellSister_17 : decode cX1_tellSister 17 = .ok (.ireturn, 1) := by decide +kernel
theorem dX1_tellSister_18 : decode cX1_tellSister 18 = .ok (.aload_n 0, 1) := by decide +kernel
theorem dX1_tellSister_19 : decode cX1_tellSister 19 = .ok (.getfield 25, 3) := by decide +kernel
theorem dX1_tellSister_22 : decode cX1_tellSister 22 = .ok (.aload_n 0, 1) := by decide +kernel
theorem dX1_tellSister_23 : decode cX1_tellSister 23 = .ok (.getfield 28, 3) := by decide +kernel
theorem dX1_tellSister_26 : decode cX1_tellSister 26 = .ok (.iload_n 1, 1) := by decide +kernel
theorem dX1_tellSister_27 : decode cX1_tellSister 27 = .ok (.iastore, 1) := by decide +kernel
theorem dX1_tellSister_28 : decode cX1_tellSister 28 = .ok (.aload_n 0, 1) := by decide +kernel
theorem dX1_tellSister_29 : decode cX1_tellSister 29 = .ok (.getfield 11, 3) := by decide +kernel
theorem dX1_tellSister_32 : decode cX1_tellSister 32 = .ok (.bipush 6, 2) := by decide +kernel
theorem dX1_tellSister_34 : decode cX1_tellSister 34 = .ok (.aload_n 0, 1) := by decide +kernel
theorem dX1_tellSister_35 : decode cX1_tellSister 35 = .ok (.getfield 28, 3) := by decide +kernel
theorem dX1_tellSister_38 : decode cX1_tellSister 38 = .ok (.iadd, 1) := by decide +kernel
theorem dX1_tellSister_39 : decode cX1_tellSister 39 = .ok (.iconst 2, 1) := by decide +kernel
theorem dX1_tellSister_40 : decode cX1_tellSister 40 = .ok (.iastore, 1) := by decide +kernel
theorem dX1_tellSister_41 : decode cX1_tellSister 41 = .ok (.aload_n 0, 1) := by decide +kernel
theorem dX1_tellSister_42 : decode cX1_tellSister 42 = .ok (.dup, 1) := by decide +kernel
theorem dX1_tellSister_43 : decode cX1_tellSister 43 = .ok (.getfield 28, 3) := by decide +kernel
theorem dX1_tellSister_46 : decode cX1_tellSister 46 = .ok (.iconst 1, 1) := by decide +kernel
theorem dX1_tellSister_47 : decode cX1_tellSister 47 = .ok (.iadd, 1) := by decide +kernel
theorem dX1_tellSister_48 : decode cX1_tellSister 48 = .ok (.putfield 28, 3) := by decide +kernel
theorem dX1_tellSister_51 : decode cX1_tellSister 51 = .ok (.aload_n 0, 1) := by decide +kernel
theorem dX1_tellSister_52 : decode cX1_tellSister 52 = .ok (.getfield 28, 3) := by decide +kernel
theorem dX1_tellSister_55 : decode cX1_tellSister 55 = .ok (.iconst 1, 1) := by decide +kernel
theorem dX1_tellSister_56 : decode cX1_tellSister 56 = .ok (.isub, 1) := by decide +kernel
theorem dX1_tellSister_57 : decode cX1_tellSister 57 = .ok (.ireturn, 1) := by decide +kernel
theorem dX1_sitters_0 : decode cX1_sitters 0 = .ok (.iconst 0, 1) := by decide +kernel
theorem dX1_sitters_1 : decode cX1_sitters 1 = .ok (.istore_n 2, 1) := by decide +kernel
theorem dX1_sitters_2 : decode cX1_sitters 2 = .ok (.iconst 0, 1) := by decide +kernel
theorem dX1_sitters_3 : decode cX1_sitters 3 = .ok (.istore_n 3, 1) := by decide +kernel
theorem dX1_sitters_4 : decode cX1_sitters 4 = .ok (.iload_n 3, 1) := by decide +kernel
theorem dX1_sitters_5 : decode cX1_sitters 5 = .ok (.aload_n 0, 1) := by decide +kernel
theorem dX1_sitters_6 : decode cX1_sitters 6 = .ok (.getfield 28, 3) := by decide +kernel
theorem dX1_sitters_9 : decode cX1_sitters 9 = .ok (.if_icmp .ge 24, 3) := by decide +kernel
theorem dX1_sitters_12 : decode cX1_sitters 12 = .ok (.aload_n 0, 1) := by decide +kernel
theorem dX1_sitters_13 : decode cX1_sitters 13 = .ok (.iload_n 3, 1) := by decide +kernel
theorem dX1_sitters_14 : decode cX1_sitters 14 = .ok (.invokevirtual 50, 3) := by decide +kernel
theorem dX1_sitters_17 : decode cX1_sitters 17 = .ok (.iload_n 1, 1) := by decide +kernel
theorem dX1_sitters_18 : decode cX1_sitters 18 = .ok (.if_icmp .ne 9, 3) := by decide +kernel
theorem dX1_sitters_21 : decode cX1_sitters 21 = .ok (.iload_n 2, 1) := by decide +kernel
theorem dX1_sitters_22 : decode cX1_sitters 22 = .ok (.iconst 1, 1) := by decide +kernel
theorem dX1_sitters_23 : decode cX1_sitters 23 = .ok (.iload_n 3, 1) := by decide +kernel
theorem dX1_sitters_24 : decode cX1_sitters 24 = .ok (.ishl, 1) := by decide +kernel
theorem dX1_sitters_25 : decode cX1_sitters 25 = .ok (.ior, 1) := by decide +kernel
theorem dX1_sitters_26 : decode cX1_sitters 26 = .ok (.istore_n 2, 1) := by decide +kernel
theorem dX1_sitters_27 : decode cX1_sitters 27 = .ok (.iinc 3 1, 3) := by decide +kernel
theorem dX1_sitters_30 : decode cX1_sitters 30 = .ok (.goto (-26), 3) := by decide +kernel
theorem dX1_sitters_33 : decode cX1_sitters 33 = .ok (.iload_n 2, 1) := by decide +kernel
theorem dX1_sitters_34 : decode cX1_sitters 34 = .ok (.ireturn, 1) := by decide +kernel
theorem dX1_remember_0 : decode cX1_remember 0 = .ok (.aload_n 0, 1) := by decide +kernel
theorem dX1_remember_1 : decode cX1_remember 1 = .ok (.getfield 18, 3) := by decide +kernel
theorem dX1_remember_4 : decode cX1_remember 4 = .ok (.ifCond .lt 12, 3) := by decide +kernel
theorem dX1_remember_7 : decode cX1_remember 7 = .ok (.aload_n 0, 1) := by decide +kernel
theorem dX1_remember_8 : decode cX1_remember 8 = .ok (.getfield 18, 3) := by decide +kernel
theorem dX1_remember_11 : decode cX1_remember 11 = .ok (.bipush 30, 2) := by decide +kernel
theorem dX1_remember_13 : decode cX1_remember 13 = .ok (.if_icmp .lt 4, 3) := by decide +kernel
theorem dX1_remember_16 : decode cX1_remember 16 = .ok (.return_, 1) := by decide +kernel
theorem dX1_remember_17 : decode cX1_remember 17 = .ok (.aload_n 0, 1) := by decide +kernel
theorem dX1_remember_18 : decode cX1_remember 18 = .ok (.getfield 11, 3) := by decide +kernel
theorem dX1_remember_21 : decode cX1_remember 21 = .ok (.iconst 0, 1) := by decide +kernel
theorem dX1_remember_22 : decode cX1_remember 22 = .ok (.aload_n 0, 1) := by decide +kernel
theorem dX1_remember_23 : decode cX1_remember 23 = .ok (.getfield 15, 3) := by decide +kernel
theorem dX1_remember_26 : decode cX1_remember 26 = .ok (.aload_n 0, 1) := by decide +kernel
theorem dX1_remember_27 : decode cX1_remember 27 = .ok (.getfield 18, 3) := by decide +kernel
theorem dX1_remember_30 : decode cX1_remember 30 = .ok (.bipush 14, 2) := by decide +kernel
theorem dX1_remember_32 : decode cX1_remember 32 = .ok (.imul, 1) := by decide +kernel
theorem dX1_remember_33 : decode cX1_remember 33 = .ok (.bipush 14, 2) := by decide +kernel
theorem dX1_remember_35 : decode cX1_remember 35 = .ok (.invokestatic 53, 3) := by decide +kernel
theorem dX1_remember_38 : decode cX1_remember 38 = .ok (.aload_n 0, 1) := by decide +kernel
theorem dX1_remember_39 : decode cX1_remember 39 = .ok (.aload_n 0, 1) := by decide +kernel
theorem dX1_remember_40 : decode cX1_remember 40 = .ok (.getfield 18, 3) := by decide +kernel
theorem dX1_remember_43 : decode cX1_remember 43 = .ok (.iconst 1, 1) := by decide +kernel
theorem dX1_remember_44 : decode cX1_remember 44 = .ok (.iadd, 1) := by decide +kernel
theorem dX1_remember_45 : decode cX1_remember 45 = .ok (.bipush 30, 2) := by decide +kernel
theorem dX1_remember_47 : decode cX1_remember 47 = .ok (.irem, 1) := by decide +kernel
theorem dX1_remember_48 : decode cX1_remember 48 = .ok (.putfield 18, 3) := by decide +kernel
theorem dX1_remember_51 : decode cX1_remember 51 = .ok (.aload_n 0, 1) := by decide +kernel
theorem dX1_remember_52 : decode cX1_remember 52 = .ok (.aload_n 0, 1) := by decide +kernel
theorem dX1_remember_53 : decode cX1_remember 53 = .ok (.getfield 22, 3) := by decide +kernel
theorem dX1_remember_56 : decode cX1_remember 56 = .ok (.iconst 1, 1) := by decide +kernel
theorem dX1_remember_57 : decode cX1_remember 57 = .ok (.iadd, 1) := by decide +kernel
theorem dX1_remember_58 : decode cX1_remember 58 = .ok (.bipush 30, 2) := by decide +kernel
theorem dX1_remember_60 : decode cX1_remember 60 = .ok (.invokestatic 59, 3) := by decide +kernel
theorem dX1_remember_63 : decode cX1_remember 63 = .ok (.putfield 22, 3) := by decide +kernel
theorem dX1_remember_66 : decode cX1_remember 66 = .ok (.return_, 1) := by decide +kernel
theorem dX1_takeBack_0 : decode cX1_takeBack 0 = .ok (.aload_n 0, 1) := by decide +kernel
theorem dX1_takeBack_1 : decode cX1_takeBack 1 = .ok (.getfield 22, 3) := by decide +kernel
theorem dX1_takeBack_4 : decode cX1_takeBack 4 = .ok (.ifCond .le 19, 3) := by decide +kernel
theorem dX1_takeBack_7 : decode cX1_takeBack 7 = .ok (.aload_n 0, 1) := by decide +kernel
theorem dX1_takeBack_8 : decode cX1_takeBack 8 = .ok (.getfield 18, 3) := by decide +kernel
theorem dX1_takeBack_11 : decode cX1_takeBack 11 = .ok (.ifCond .lt 12, 3) := by decide +kernel
theorem dX1_takeBack_14 : decode cX1_takeBack 14 = .ok (.aload_n 0, 1) := by decide +kernel
theorem dX1_takeBack_15 : decode cX1_takeBack 15 = .ok (.getfield 18, 3) := by decide +kernel
theorem dX1_takeBack_18 : decode cX1_takeBack 18 = .ok (.bipush 30, 2) := by decide +kernel
theorem dX1_takeBack_20 : decode cX1_takeBack 20 = .ok (.if_icmp .lt 5, 3) := by decide +kernel
theorem dX1_takeBack_23 : decode cX1_takeBack 23 = .ok (.iconst (-1), 1) := by decide +kernel
theorem dX1_takeBack_24 : decode cX1_takeBack 24 = .ok (.ireturn, 1) := by decide +kernel
theorem dX1_takeBack_25 : decode cX1_takeBack 25 = .ok (.aload_n 0, 1) := by decide +kernel
theorem dX1_takeBack_26 : decode cX1_takeBack 26 = .ok (.getfield 18, 3) := by decide +kernel
theorem dX1_takeBack_29 : decode cX1_takeBack 29 = .ok (.ifCond .ne 8, 3) := by decide +kernel
theorem dX1_takeBack_32 : decode cX1_takeBack 32 = .ok (.bipush 29, 2) := by decide +kernel
theorem dX1_takeBack_34 : decode cX1_takeBack 34 = .ok (.goto 9, 3) := by decide +kernel
theorem dX1_takeBack_37 : decode cX1_takeBack 37 = .ok (.aload_n 0, 1) := by decide +kernel
theorem dX1_takeBack_38 : decode cX1_takeBack 38 = .ok (.getfield 18, 3) := by decide +kernel
theorem dX1_takeBack_41 : decode cX1_takeBack 41 = .ok (.iconst 1, 1) := by decide +kernel
theorem dX1_takeBack_42 : decode cX1_takeBack 42 = .ok (.isub, 1) := by decide +kernel
theorem dX1_takeBack_43 : decode cX1_takeBack 43 = .ok (.istore_n 1, 1) := by decide +kernel
theorem dX1_takeBack_44 : decode cX1_takeBack 44 = .ok (.aload_n 0, 1) := by decide +kernel
theorem dX1_takeBack_45 : decode cX1_takeBack 45 = .ok (.getfield 15, 3) := by decide +kernel
theorem dX1_takeBack_48 : decode cX1_takeBack 48 = .ok (.iload_n 1, 1) := by decide +kernel
theorem dX1_takeBack_49 : decode cX1_takeBack 49 = .ok (.bipush 14, 2) := by decide +kernel
theorem dX1_takeBack_51 : decode cX1_takeBack 51 = .ok (.imul, 1) := by decide +kernel
theorem dX1_takeBack_52 : decode cX1_takeBack 52 = .ok (.aload_n 0, 1) := by decide +kernel
theorem dX1_takeBack_53 : decode cX1_takeBack 53 = .ok (.getfield 11, 3) := by decide +kernel
theorem dX1_takeBack_56 : decode cX1_takeBack 56 = .ok (.iconst 0, 1) := by decide +kernel
theorem dX1_takeBack_57 : decode cX1_takeBack 57 = .ok (.bipush 14, 2) := by decide +kernel
theorem dX1_takeBack_59 : decode cX1_takeBack 59 = .ok (.invokestatic 53, 3) := by decide +kernel
theorem dX1_takeBack_62 : decode cX1_takeBack 62 = .ok (.aload_n 0, 1) := by decide +kernel
theorem dX1_takeBack_63 : decode cX1_takeBack 63 = .ok (.iload_n 1, 1) := by decide +kernel
theorem dX1_takeBack_64 : decode cX1_takeBack 64 = .ok (.putfield 18, 3) := by decide +kernel
theorem dX1_takeBack_67 : decode cX1_takeBack 67 = .ok (.aload_n 0, 1) := by decide +kernel
theorem dX1_takeBack_68 : decode cX1_takeBack 68 = .ok (.dup, 1) := by decide +kernel
theorem dX1_takeBack_69 : decode cX1_takeBack 69 = .ok (.getfield 22, 3) := by decide +kernel
theorem dX1_takeBack_72 : decode cX1_takeBack 72 = .ok (.iconst 1, 1) := by decide +kernel
theorem dX1_takeBack_73 : decode cX1_takeBack 73 = .ok (.isub, 1) := by decide +kernel
theorem dX1_takeBack_74 : decode cX1_takeBack 74 = .ok (.putfield 22, 3) := by decide +kernel
theorem dX1_takeBack_77 : decode cX1_takeBack 77 = .ok (.aload_n 0, 1) := by decide +kernel
theorem dX1_takeBack_78 : decode cX1_takeBack 78 = .ok (.getfield 22, 3) := by decide +kernel
theorem dX1_takeBack_81 : decode cX1_takeBack 81 = .ok (.ireturn, 1) := by decide +kernel
theorem dX1_copyFrom_0 : decode cX1_copyFrom 0 = .ok (.aload_n 1, 1) := by decide +kernel
theorem dX1_copyFrom_1 : decode cX1_copyFrom 1 = .ok (.getfield 11, 3) := by decide +kernel
theorem dX1_copyFrom_4 : decode cX1_copyFrom 4 = .ok (.iconst 0, 1) := by decide +kernel
theorem dX1_copyFrom_5 : decode cX1_copyFrom 5 = .ok (.aload_n 0, 1) := by decide +kernel
theorem dX1_copyFrom_6 : decode cX1_copyFrom 6 = .ok (.getfield 11, 3) := by decide +kernel
theorem dX1_copyFrom_9 : decode cX1_copyFrom 9 = .ok (.iconst 0, 1) := by decide +kernel
theorem dX1_copyFrom_10 : decode cX1_copyFrom 10 = .ok (.bipush 14, 2) := by decide +kernel
theorem dX1_copyFrom_12 : decode cX1_copyFrom 12 = .ok (.invokestatic 53, 3) := by decide +kernel
theorem dX1_copyFrom_15 : decode cX1_copyFrom 15 = .ok (.aload_n 1, 1) := by decide +kernel
theorem dX1_copyFrom_16 : decode cX1_copyFrom 16 = .ok (.getfield 15, 3) := by decide +kernel
theorem dX1_copyFrom_19 : decode cX1_copyFrom 19 = .ok (.iconst 0, 1) := by decide +kernel
theorem dX1_copyFrom_20 : decode cX1_copyFrom 20 = .ok (.aload_n 0, 1) := by decide +kernel
theorem dX1_copyFrom_21 : decode cX1_copyFrom 21 = .ok (.getfield 15, 3) := by decide +kernel
theorem dX1_copyFrom_24 : decode cX1_copyFrom 24 = .ok (.iconst 0, 1) := by decide +kernel
theorem dX1_copyFrom_25 : decode cX1_copyFrom 25 = .ok (.sipush 420, 3) := by decide +kernel
theorem dX1_copyFrom_28 : decode cX1_copyFrom 28 = .ok (.invokestatic 53, 3) := by decide +kernel
theorem dX1_copyFrom_31 : decode cX1_copyFrom 31 = .ok (.aload_n 0, 1) := by decide +kernel
theorem dX1_copyFrom_32 : decode cX1_copyFrom 32 = .ok (.aload_n 1, 1) := by decide +kernel
theorem dX1_copyFrom_33 : decode cX1_copyFrom 33 = .ok (.getfield 18, 3) := by decide +kernel
theorem dX1_copyFrom_36 : decode cX1_copyFrom 36 = .ok (.putfield 18, 3) := by decide +kernel
theorem dX1_copyFrom_39 : decode cX1_copyFrom 39 = .ok (.aload_n 0, 1) := by decide +kernel
theorem dX1_copyFrom_40 : decode cX1_copyFrom 40 = .ok (.aload_n 1, 1) := by decide +kernel
theorem dX1_copyFrom_41 : decode cX1_copyFrom 41 = .ok (.getfield 22, 3) := by decide +kernel
theorem dX1_copyFrom_44 : decode cX1_copyFrom 44 = .ok (.putfield 22, 3) := by decide +kernel
theorem dX1_copyFrom_47 : decode cX1_copyFrom 47 = .ok (.aload_n 1, 1) := by decide +kernel
theorem dX1_copyFrom_48 : decode cX1_copyFrom 48 = .ok (.getfield 25, 3) := by decide +kernel
theorem dX1_copyFrom_51 : decode cX1_copyFrom 51 = .ok (.iconst 0, 1) := by decide +kernel
theorem dX1_copyFrom_52 : decode cX1_copyFrom 52 = .ok (.aload_n 0, 1) := by decide +kernel
theorem dX1_copyFrom_53 : decode cX1_copyFrom 53 = .ok (.getfield 25, 3) := by decide +kernel
theorem dX1_copyFrom_56 : decode cX1_copyFrom 56 = .ok (.iconst 0, 1) := by decide +kernel
theorem dX1_copyFrom_57 : decode cX1_copyFrom 57 = .ok (.bipush 6, 2) := by decide +kernel
theorem dX1_copyFrom_59 : decode cX1_copyFrom 59 = .ok (.invokestatic 53, 3) := by decide +kernel
theorem dX1_copyFrom_62 : decode cX1_copyFrom 62 = .ok (.aload_n 0, 1) := by decide +kernel
theorem dX1_copyFrom_63 : decode cX1_copyFrom 63 = .ok (.aload_n 1, 1) := by decide +kernel
theorem dX1_copyFrom_64 : decode cX1_copyFrom 64 = .ok (.getfield 28, 3) := by decide +kernel
theorem dX1_copyFrom_67 : decode cX1_copyFrom 67 = .ok (.putfield 28, 3) := by decide +kernel
theorem dX1_copyFrom_70 : decode cX1_copyFrom 70 = .ok (.aload_n 0, 1) := by decide +kernel
theorem dX1_copyFrom_71 : decode cX1_copyFrom 71 = .ok (.aload_n 1, 1) := by decide +kernel
theorem dX1_copyFrom_72 : decode cX1_copyFrom 72 = .ok (.getfield 31, 3) := by decide +kernel
theorem dX1_copyFrom_75 : decode cX1_copyFrom 75 = .ok (.putfield 31, 3) := by decide +kernel
theorem dX1_copyFrom_78 : decode cX1_copyFrom 78 = .ok (.aload_n 0, 1) := by decide +kernel
theorem dX1_copyFrom_79 : decode cX1_copyFrom 79 = .ok (.aload_n 1, 1) := by decide +kernel
theorem dX1_copyFrom_80 : decode cX1_copyFrom 80 = .ok (.getfield 34, 3) := by decide +kernel
theorem dX1_copyFrom_83 : decode cX1_copyFrom 83 = .ok (.putfield 34, 3) := by decide +kernel
theorem dX1_copyFrom_86 : decode cX1_copyFrom 86 = .ok (.aload_n 0, 1) := by decide +kernel
theorem dX1_copyFrom_87 : decode cX1_copyFrom 87 = .ok (.aload_n 1, 1) := by decide +kernel
theorem dX1_copyFrom_88 : decode cX1_copyFrom 88 = .ok (.getfield 37, 3) := by decide +kernel
theorem dX1_copyFrom_91 : decode cX1_copyFrom 91 = .ok (.putfield 37, 3) := by decide +kernel
theorem dX1_copyFrom_94 : decode cX1_copyFrom 94 = .ok (.aload_n 1, 1) := by decide +kernel
theorem dX1_copyFrom_95 : decode cX1_copyFrom 95 = .ok (.getfield 40, 3) := by decide +kernel
theorem dX1_copyFrom_98 : decode cX1_copyFrom 98 = .ok (.iconst 0, 1) := by decide +kernel
theorem dX1_copyFrom_99 : decode cX1_copyFrom 99 = .ok (.aload_n 0, 1) := by decide +kernel
theorem dX1_copyFrom_100 : decode cX1_copyFrom 100 = .ok (.getfield 40, 3) := by decide +kernel
theorem dX1_copyFrom_103 : decode cX1_copyFrom 103 = .ok (.iconst 0, 1) := by decide +kernel
theorem dX1_copyFrom_104 : decode cX1_copyFrom 104 = .ok (.bipush 8, 2) := by decide +kernel
theorem dX1_copyFrom_106 : decode cX1_copyFrom 106 = .ok (.invokestatic 53, 3) := by decide +kernel
theorem dX1_copyFrom_109 : decode cX1_copyFrom 109 = .ok (.aload_n 0, 1) := by decide +kernel
theorem dX1_copyFrom_110 : decode cX1_copyFrom 110 = .ok (.aload_n 1, 1) := by decide +kernel
theorem dX1_copyFrom_111 : decode cX1_copyFrom 111 = .ok (.getfield 43, 3) := by decide +kernel
theorem dX1_copyFrom_114 : decode cX1_copyFrom 114 = .ok (.putfield 43, 3) := by decide +kernel
theorem dX1_copyFrom_117 : decode cX1_copyFrom 117 = .ok (.return_, 1) := by decide +kernel
theorem dX2_init_0 : decode cX2_init 0 = .ok (.aload_n 0, 1) := by decide +kernel
theorem dX2_init_1 : decode cX2_init 1 = .ok (.invokespecial 5, 3) := by decide +kernel
theorem dX2_init_4 : decode cX2_init 4 = .ok (.aload_n 0, 1) := by decide +kernel
theorem dX2_init_5 : decode cX2_init 5 = .ok (.new 11, 3) := by decide +kernel
theorem dX2_init_8 : decode cX2_init 8 = .ok (.dup, 1) := by decide +kernel
theorem dX2_init_9 : decode cX2_init 9 = .ok (.invokespecial 13, 3) := by decide +kernel
theorem dX2_init_12 : decode cX2_init 12 = .ok (.putfield 14, 3) := by decide +kernel
theorem dX2_init_15 : decode cX2_init 15 = .ok (.aload_n 0, 1) := by decide +kernel
theorem dX2_init_16 : decode cX2_init 16 = .ok (.bipush 6, 2) := by decide +kernel
theorem dX2_init_18 : decode cX2_init 18 = .ok (.newarray .int, 2) := by decide +kernel
theorem dX2_init_20 : decode cX2_init 20 = .ok (.putfield 18, 3) := by decide +kernel
theorem dX2_init_23 : decode cX2_init 23 = .ok (.aload_n 0, 1) := by decide +kernel
theorem dX2_init_24 : decode cX2_init 24 = .ok (.bipush 6, 2) := by decide +kernel
theorem dX2_init_26 : decode cX2_init 26 = .ok (.newarray .int, 2) := by decide +kernel
theorem dX2_init_28 : decode cX2_init 28 = .ok (.putfield 22, 3) := by decide +kernel
theorem dX2_init_31 : decode cX2_init 31 = .ok (.aload_n 0, 1) := by decide +kernel
theorem dX2_init_32 : decode cX2_init 32 = .ok (.sipush 976, 3) := by decide +kernel
theorem dX2_init_35 : decode cX2_init 35 = .ok (.newarray .long, 2) := by decide +kernel
theorem dX2_init_37 : decode cX2_init 37 = .ok (.putfield 25, 3) := by decide +kernel
theorem dX2_init_40 : decode cX2_init 40 = .ok (.aload_n 0, 1) := by decide +kernel
theorem dX2_init_41 : decode cX2_init 41 = .ok (.sipush 976, 3) := by decide +kernel
theorem dX2_init_44 : decode cX2_init 44 = .ok (.newarray .long, 2) := by decide +kernel
theorem dX2_init_46 : decode cX2_init 46 = .ok (.putfield 29, 3) := by decide +kernel
theorem dX2_init_49 : decode cX2_init 49 = .ok (.aload_n 0, 1) := by decide +kernel
theorem dX2_init_50 : decode cX2_init 50 = .ok (.aload_n 1, 1) := by decide +kernel
theorem dX2_init_51 : decode cX2_init 51 = .ok (.putfield 32, 3) := by decide +kernel
theorem dX2_init_54 : decode cX2_init 54 = .ok (.aload_n 0, 1) := by decide +kernel
theorem dX2_init_55 : decode cX2_init 55 = .ok (.aload_n 2, 1) := by decide +kernel
theorem dX2_init_56 : decode cX2_init 56 = .ok (.putfield 36, 3) := by decide +kernel
theorem dX2_init_59 : decode cX2_init 59 = .ok (.return_, 1) := by decide +kernel
theorem dX2_dawnsUntil_0 : decode cX2_dawnsUntil 0 = .ok (.aload_n 0, 1) := by decide +kernel
theorem dX2_dawnsUntil_1 : decode cX2_dawnsUntil 1 = .ok (.getfield 14, 3) := by decide +kernel
theorem dX2_dawnsUntil_4 : decode cX2_dawnsUntil 4 = .ok (.aload_n 0, 1) := by decide +kernel
theorem dX2_dawnsUntil_5 : decode cX2_dawnsUntil 5 = .ok (.getfield 32, 3) := by decide +kernel
theorem dX2_dawnsUntil_8 : decode cX2_dawnsUntil 8 = .ok (.iload_n 1, 1) := by decide +kernel
theorem dX2_dawnsUntil_9 : decode cX2_dawnsUntil 9 = .ok (.invokevirtual 40, 3) := by decide +kernel
theorem dX2_dawnsUntil_12 : decode cX2_dawnsUntil 12 = .ok (.aload_n 0, 1) := by decide +kernel
theorem dX2_dawnsUntil_13 : decode cX2_dawnsUntil 13 = .ok (.getfield 32, 3) := by decide +kernel
theorem dX2_dawnsUntil_16 : decode cX2_dawnsUntil 16 = .ok (.iload_n 1, 1) := by decide +kernel
theorem dX2_dawnsUntil_17 : decode cX2_dawnsUntil 17 = .ok (.invokevirtual 44, 3) := by decide +kernel
theorem dX2_dawnsUntil_20 : decode cX2_dawnsUntil 20 = .ok (.istore 4, 2) := by decide +kernel
theorem dX2_dawnsUntil_22 : decode cX2_dawnsUntil 22 = .ok (.iconst 0, 1) := by decide +kernel
theorem dX2_dawnsUntil_23 : decode cX2_dawnsUntil 23 = .ok (.istore 5, 2) := by decide +kernel
theorem dX2_dawnsUntil_25 : decode cX2_dawnsUntil 25 = .ok (.iload 5, 2) := by decide +kernel
theorem dX2_dawnsUntil_27 : decode cX2_dawnsUntil 27 = .ok (.bipush 60, 2) := by decide +kernel
theorem dX2_dawnsUntil_29 : decode cX2_dawnsUntil 29 = .ok (.if_icmp .gt 49, 3) := by decide +kernel
theorem dX2_dawnsUntil_32 : decode cX2_dawnsUntil 32 = .ok (.aload_n 0, 1) := by decide +kernel
theorem dX2_dawnsUntil_33 : decode cX2_dawnsUntil 33 = .ok (.getfield 14, 3) := by decide +kernel
theorem dX2_dawnsUntil_36 : decode cX2_dawnsUntil 36 = .ok (.getfield 50, 3) := by decide +kernel
theorem dX2_dawnsUntil_39 : decode cX2_dawnsUntil 39 = .ok (.iload_n 2, 1) := by decide +kernel
theorem dX2_dawnsUntil_40 : decode cX2_dawnsUntil 40 = .ok (.if_icmp .lt 6, 3) := by decide +kernel
theorem dX2_dawnsUntil_43 : decode cX2_dawnsUntil 43 = .ok (.iload 5, 2) := by decide +kernel
theorem dX2_dawnsUntil_45 : decode cX2_dawnsUntil 45 = .ok (.ireturn, 1) := by decide +kernel
theorem dX2_dawnsUntil_46 : decode cX2_dawnsUntil 46 = .ok (.aload_n 0, 1) := by decide +kernel
theorem dX2_dawnsUntil_47 : decode cX2_dawnsUntil 47 = .ok (.getfield 36, 3) := by decide +kernel
theorem dX2_dawnsUntil_50 : decode cX2_dawnsUntil 50 = .ok (.aload_n 0, 1) := by decide +kernel
theorem dX2_dawnsUntil_51 : decode cX2_dawnsUntil 51 = .ok (.getfield 14, 3) := by decide +kernel
theorem dX2_dawnsUntil_54 : decode cX2_dawnsUntil 54 = .ok (.iload 4, 2) := by decide +kernel
theorem dX2_dawnsUntil_56 : decode cX2_dawnsUntil 56 = .ok (.invokevirtual 54, 3) := by decide +kernel
theorem dX2_dawnsUntil_59 : decode cX2_dawnsUntil 59 = .ok (.pop, 1) := by decide +kernel
theorem dX2_dawnsUntil_60 : decode cX2_dawnsUntil 60 = .ok (.iload_n 3, 1) := by decide +kernel
theorem dX2_dawnsUntil_61 : decode cX2_dawnsUntil 61 = .ok (.ifCond .ne 11, 3) := by decide +kernel
theorem dX2_dawnsUntil_64 : decode cX2_dawnsUntil 64 = .ok (.aload_n 0, 1) := by decide +kernel
theorem dX2_dawnsUntil_65 : decode cX2_dawnsUntil 65 = .ok (.getfield 14, 3) := by decide +kernel
theorem dX2_dawnsUntil_68 : decode cX2_dawnsUntil 68 = .ok (.invokevirtual 60, 3) := by decide +kernel
theorem dX2_dawnsUntil_71 : decode cX2_dawnsUntil 71 = .ok (.pop, 1) := by decide +kernel
theorem dX2_dawnsUntil_72 : decode cX2_dawnsUntil 72 = .ok (.iinc 5 1, 3) := by decide +kernel
theorem dX2_dawnsUntil_75 : decode cX2_dawnsUntil 75 = .ok (.goto (-50), 3) := by decide +kernel
theorem dX2_dawnsUntil_78 : decode cX2_dawnsUntil 78 = .ok (.iconst (-1), 1) := by decide +kernel
theorem dX2_dawnsUntil_79 : decode cX2_dawnsUntil 79 = .ok (.ireturn, 1) := by decide +kernel
theorem dX2_dayAfter_0 : decode cX2_dayAfter 0 = .ok (.aload_n 0, 1) := by decide +kernel
theorem dX2_dayAfter_1 : decode cX2_dayAfter 1 = .ok (.getfield 14, 3) := by decide +kernel
theorem dX2_dayAfter_4 : decode cX2_dayAfter 4 = .ok (.aload_n 0, 1) := by decide +kernel
theorem dX2_dayAfter_5 : decode cX2_dayAfter 5 = .ok (.getfield 32, 3) := by decide +kernel
theorem dX2_dayAfter_8 : decode cX2_dayAfter 8 = .ok (.iload_n 1, 1) := by decide +kernel
theorem dX2_dayAfter_9 : decode cX2_dayAfter 9 = .ok (.invokevirtual 40, 3) := by decide +kernel
theorem dX2_dayAfter_12 : decode cX2_dayAfter 12 = .ok (.aload_n 0, 1) := by decide +kernel
theorem dX2_dayAfter_13 : decode cX2_dayAfter 13 = .ok (.getfield 32, 3) := by decide +kernel
theorem dX2_dayAfter_16 : decode cX2_dayAfter 16 = .ok (.iload_n 1, 1) := by decide +kernel
theorem dX2_dayAfter_17 : decode cX2_dayAfter 17 = .ok (.invokevirtual 44, 3) := by decide +kernel
theorem dX2_dayAfter_20 : decode cX2_dayAfter 20 = .ok (.istore_n 3, 1) := by decide +kernel
theorem dX2_dayAfter_21 : decode cX2_dayAfter 21 = .ok (.iconst 0, 1) := by decide +kernel
theorem dX2_dayAfter_22 : decode cX2_dayAfter 22 = .ok (.istore 4, 2) := by decide +kernel
theorem dX2_dayAfter_24 : decode cX2_dayAfter 24 = .ok (.iload 4, 2) := by decide +kernel
theorem dX2_dayAfter_26 : decode cX2_dayAfter 26 = .ok (.iload_n 2, 1) := by decide +kernel
theorem dX2_dayAfter_27 : decode cX2_dayAfter 27 = .ok (.if_icmp .ge 22, 3) := by decide +kernel
theorem dX2_dayAfter_30 : decode cX2_dayAfter 30 = .ok (.aload_n 0, 1) := by decide +kernel
theorem dX2_dayAfter_31 : decode cX2_dayAfter 31 = .ok (.getfield 36, 3) := by decide +kernel
theorem dX2_dayAfter_34 : decode cX2_dayAfter 34 = .ok (.aload_n 0, 1) := by decide +kernel
theorem dX2_dayAfter_35 : decode cX2_dayAfter 35 = .ok (.getfield 14, 3) := by decide +kernel
theorem dX2_dayAfter_38 : decode cX2_dayAfter 38 = .ok (.iload_n 3, 1) := by decide +kernel
theorem dX2_dayAfter_39 : decode cX2_dayAfter 39 = .ok (.invokevirtual 54, 3) := by decide +kernel
theorem dX2_dayAfter_42 : decode cX2_dayAfter 42 = .ok (.pop, 1) := by decide +kernel
theorem dX2_dayAfter_43 : decode cX2_dayAfter 43 = .ok (.iinc 4 1, 3) := by decide +kernel
theorem dX2_dayAfter_46 : decode cX2_dayAfter 46 = .ok (.goto (-22), 3) := by decide +kernel
theorem dX2_dayAfter_49 : decode cX2_dayAfter 49 = .ok (.aload_n 0, 1) := by decide +kernel
theorem dX2_dayAfter_50 : decode cX2_dayAfter 50 = .ok (.getfield 14, 3) := by decide +kernel
theorem dX2_dayAfter_53 : decode cX2_dayAfter 53 = .ok (.getfield 50, 3) := by decide +kernel
theorem dX2_dayAfter_56 : decode cX2_dayAfter 56 = .ok (.ireturn, 1) := by decide +kernel
theorem dX2_weightOfDay_0 : decode cX2_weightOfDay 0 = .ok (.aload_n 0, 1) := by decide +kernel
theorem dX2_weightOfDay_1 : decode cX2_weightOfDay 1 = .ok (.getfield 14, 3) := by decide +kernel
theorem dX2_weightOfDay_4 : decode cX2_weightOfDay 4 = .ok (.aload_n 0, 1) := by decide +kernel
theorem dX2_weightOfDay_5 : decode cX2_weightOfDay 5 = .ok (.getfield 32, 3) := by decide +kernel
theorem dX2_weightOfDay_8 : decode cX2_weightOfDay 8 = .ok (.iload_n 1, 1) := by decide +kernel
theorem dX2_weightOfDay_9 : decode cX2_weightOfDay 9 = .ok (.invokevirtual 40, 3) := by decide +kernel
theorem dX2_weightOfDay_12 : decode cX2_weightOfDay 12 = .ok (.aload_n 0, 1) := by decide +kernel
theorem dX2_weightOfDay_13 : decode cX2_weightOfDay 13 = .ok (.getfield 14, 3) := by decide +kernel
theorem dX2_weightOfDay_16 : decode cX2_weightOfDay 16 = .ok (.getfield 50, 3) := by decide +kernel
theorem dX2_weightOfDay_19 : decode cX2_weightOfDay 19 = .ok (.istore 4, 2) := by decide +kernel
theorem dX2_weightOfDay_21 : decode cX2_weightOfDay 21 = .ok (.aload_n 0, 1) := by decide +kernel
theorem dX2_weightOfDay_22 : decode cX2_weightOfDay 22 = .ok (.getfield 25, 3) := by decide +kernel
theorem dX2_weightOfDay_25 : decode cX2_weightOfDay 25 = .ok (.lconst 0, 1) := by decide +kernel
theorem dX2_weightOfDay_26 : decode cX2_weightOfDay 26 = .ok (.invokestatic 64, 3) := by decide +kernel
theorem dX2_weightOfDay_29 : decode cX2_weightOfDay 29 = .ok (.aload_n 0, 1) := by decide +kernel
theorem dX2_weightOfDay_30 : decode cX2_weightOfDay 30 = .ok (.getfield 25, 3) := by decide +kernel
theorem dX2_weightOfDay_33 : decode cX2_weightOfDay 33 = .ok (.iconst 0, 1) := by decide +kernel
theorem dX2_weightOfDay_34 : decode cX2_weightOfDay 34 = .ok (.aload_n 0, 1) := by decide +kernel
theorem dX2_weightOfDay_35 : decode cX2_weightOfDay 35 = .ok (.getfield 14, 3) := by decide +kernel
theorem dX2_weightOfDay_38 : decode cX2_weightOfDay 38 = .ok (.getfield 70, 3) := by decide +kernel
theorem dX2_weightOfDay_41 : decode cX2_weightOfDay 41 = .ok (.lconst 1, 1) := by decide +kernel
theorem dX2_weightOfDay_42 : decode cX2_weightOfDay 42 = .ok (.invokestatic 73, 3) := by decide +kernel
theorem dX2_weightOfDay_45 : decode cX2_weightOfDay 45 = .ok (.iconst 0, 1) := by decide +kernel
theorem dX2_weightOfDay_46 : decode cX2_weightOfDay 46 = .ok (.istore 5, 2) := by decide +kernel
theorem dX2_weightOfDay_48 : decode cX2_weightOfDay 48 = .ok (.iload 5, 2) := by decide +kernel
theorem dX2_weightOfDay_50 : decode cX2_weightOfDay 50 = .ok (.iload_n 3, 1) := by decide +kernel
theorem dX2_weightOfDay_51 : decode cX2_weightOfDay 51 = .ok (.if_icmp .ge 18, 3) := by decide +kernel
theorem dX2_weightOfDay_54 : decode cX2_weightOfDay 54 = .ok (.aload_n 0, 1) := by decide +kernel
theorem dX2_weightOfDay_55 : decode cX2_weightOfDay 55 = .ok (.iload_n 1, 1) := by decide +kernel
theorem dX2_weightOfDay_56 : decode cX2_weightOfDay 56 = .ok (.iload 4, 2) := by decide +kernel
theorem dX2_weightOfDay_58 : decode cX2_weightOfDay 58 = .ok (.iload 5, 2) := by decide +kernel
theorem dX2_weightOfDay_60 : decode cX2_weightOfDay 60 = .ok (.invokevirtual 77, 3) := by decide +kernel
theorem dX2_weightOfDay_63 : decode cX2_weightOfDay 63 = .ok (.iinc 5 1, 3) := by decide +kernel
theorem dX2_weightOfDay_66 : decode cX2_weightOfDay 66 = .ok (.goto (-18), 3) := by decide +kernel
theorem dX2_weightOfDay_69 : decode cX2_weightOfDay 69 = .ok (.lconst 0, 1) := by decide +kernel
theorem dX2_weightOfDay_70 : decode cX2_weightOfDay 70 = .ok (.lstore 5, 2) := by decide +kernel
theorem dX2_weightOfDay_72 : decode cX2_weightOfDay 72 = .ok (.iconst 0, 1) := by decide +kernel
theorem dX2_weightOfDay_73 : decode cX2_weightOfDay 73 = .ok (.istore 7, 2) := by decide +kernel
theorem dX2_weightOfDay_75 : decode cX2_weightOfDay 75 = .ok (.iload 7, 2) := by decide +kernel
theorem dX2_weightOfDay_77 : decode cX2_weightOfDay 77 = .ok (.sipush 976, 3) := by decide +kernel
theorem dX2_weightOfDay_80 : decode cX2_weightOfDay 80 = .ok (.if_icmp .ge 33, 3) := by decide +kernel
theorem dX2_weightOfDay_83 : decode cX2_weightOfDay 83 = .ok (.iload 4, 2) := by decide +kernel
theorem dX2_weightOfDay_85 : decode cX2_weightOfDay 85 = .ok (.iload 7, 2) := by decide +kernel
theorem dX2_weightOfDay_87 : decode cX2_weightOfDay 87 = .ok (.bipush 61, 2) := by decide +kernel
theorem dX2_weightOfDay_89 : decode cX2_weightOfDay 89 = .ok (.idiv, 1) := by decide +kernel
theorem dX2_weightOfDay_90 : decode cX2_weightOfDay 90 = .ok (.iadd, 1) := by decide +kernel
theorem dX2_weightOfDay_91 : decode cX2_weightOfDay 91 = .ok (.iload_n 2, 1) := by decide +kernel
theorem dX2_weightOfDay_92 : decode cX2_weightOfDay 92 = .ok (.if_icmp .lt 15, 3) := by decide +kernel
theorem dX2_weightOfDay_95 : decode cX2_weightOfDay 95 = .ok (.lload 5, 2) := by decide +kernel
theorem dX2_weightOfDay_97 : decode cX2_weightOfDay 97 = .ok (.aload_n 0, 1) := by decide +kernel
theorem dX2_weightOfDay_98 : decode cX2_weightOfDay 98 = .ok (.getfield 25, 3) := by decide +kernel
theorem dX2_weightOfDay_101 : decode cX2_weightOfDay 101 = .ok (.iload 7, 2) := by decide +kernel
theorem dX2_weightOfDay_103 : decode cX2_weightOfDay 103 = .ok (.laload, 1) := by decide +kernel
theorem dX2_weightOfDay_104 : decode cX2_weightOfDay 104 = .ok (.ladd, 1) := by decide +kernel
theorem dX2_weightOfDay_105 : decode cX2_weightOfDay 105 = .ok (.lstore 5, 2) := by decide +kernel
theorem dX2_weightOfDay_107 : decode cX2_weightOfDay 107 = .ok (.iinc 7 1, 3) := by decide +kernel
theorem dX2_weightOfDay_110 : decode cX2_weightOfDay 110 = .ok (.goto (-35), 3) := by decide +kernel
theorem dX2_weightOfDay_113 : decode cX2_weightOfDay 113 = .ok (.lload 5, 2) := by decide +kernel
theorem dX2_weightOfDay_115 : decode cX2_weightOfDay 115 = .ok (.lreturn, 1) := by decide +kernel
theorem dX2_spreadChances_0 : decode cX2_spreadChances 0 = .ok (.aload_n 0, 1) := by decide +kernel
theorem dX2_spreadChances_1 : decode cX2_spreadChances 1 = .ok (.getfield 29, 3) := by decide +kernel
theorem dX2_spreadChances_4 : decode cX2_spreadChances 4 = .ok (.lconst 0, 1) := by decide +kernel
theorem dX2_spreadChances_5 : decode cX2_spreadChances 5 = .ok (.invokestatic 64, 3) := by decide +kernel
theorem dX2_spreadChances_8 : decode cX2_spreadChances 8 = .ok (.aload_n 0, 1) := by decide +kernel
theorem dX2_spreadChances_9 : decode cX2_spreadChances 9 = .ok (.getfield 32, 3) := by decide +kernel
theorem dX2_spreadChances_12 : decode cX2_spreadChances 12 = .ok (.iload_n 1, 1) := by decide +kernel
theorem dX2_spreadChances_13 : decode cX2_spreadChances 13 = .ok (.invokevirtual 44, 3) := by decide +kernel
theorem dX2_spreadChances_16 : decode cX2_spreadChances 16 = .ok (.istore 4, 2) := by decide +kernel
theorem dX2_spreadChances_18 : decode cX2_spreadChances 18 = .ok (.aload_n 0, 1) := by decide +kernel
theorem dX2_spreadChances_19 : decode cX2_spreadChances 19 = .ok (.getfield 32, 3) := by decide +kernel
theorem dX2_spreadChances_22 : decode cX2_spreadChances 22 = .ok (.getfield 81, 3) := by decide +kernel
theorem dX2_spreadChances_25 : decode cX2_spreadChances 25 = .ok (.istore 5, 2) := by decide +kernel
theorem dX2_spreadChances_27 : decode cX2_spreadChances 27 = .ok (.iconst 0, 1) := by decide +kernel
theorem dX2_spreadChances_28 : decode cX2_spreadChances 28 = .ok (.istore 6, 2) := by decide +kernel
theorem dX2_spreadChances_30 : decode cX2_spreadChances 30 = .ok (.iload 6, 2) := by decide +kernel
theorem dX2_spreadChances_32 : decode cX2_spreadChances 32 = .ok (.sipush 976, 3) := by decide +kernel
theorem dX2_spreadChances_35 : decode cX2_spreadChances 35 = .ok (.if_icmp .ge 162, 3) := by decide +kernel
theorem dX2_spreadChances_38 : decode cX2_spreadChances 38 = .ok (.aload_n 0, 1) := by decide +kernel
theorem dX2_spreadChances_39 : decode cX2_spreadChances 39 = .ok (.getfield 25, 3) := by decide +kernel
theorem dX2_spreadChances_42 : decode cX2_spreadChances 42 = .ok (.iload 6, 2) := by decide +kernel
theorem dX2_spreadChances_44 : decode cX2_spreadChances 44 = .ok (.laload, 1) := by decide +kernel
theorem dX2_spreadChances_45 : decode cX2_spreadChances 45 = .ok (.lstore 7, 2) := by decide +kernel
theorem dX2_spreadChances_47 : decode cX2_spreadChances 47 = .ok (.lload 7, 2) := by decide +kernel
theorem dX2_spreadChances_49 : decode cX2_spreadChances 49 = .ok (.lconst 0, 1) := by decide +kernel
theorem dX2_spreadChances_50 : decode cX2_spreadChances 50 = .ok (.lcmp, 1) := by decide +kernel
theorem dX2_spreadChances_51 : decode cX2_spreadChances 51 = .ok (.ifCond .ne 6, 3) := by decide +kernel
theorem dX2_spreadChances_54 : decode cX2_spreadChances 54 = .ok (.goto 137, 3) := by decide +kernel
theorem dX2_spreadChances_57 : decode cX2_spreadChances 57 = .ok (.aload_n 0, 1) := by decide +kernel
theorem dX2_spreadChances_58 : decode cX2_spreadChances 58 = .ok (.getfield 14, 3) := by decide +kernel
theorem dX2_spreadChances_61 : decode cX2_spreadChances 61 = .ok (.aload_n 0, 1) := by decide +kernel
theorem dX2_spreadChances_62 : decode cX2_spreadChances 62 = .ok (.getfield 32, 3) := by decide +kernel
theorem dX2_spreadChances_65 : decode cX2_spreadChances 65 = .ok (.iload_n 1, 1) := by decide +kernel
theorem dX2_spreadChances_66 : decode cX2_spreadChances 66 = .ok (.invokevirtual 40, 3) := by decide +kernel
theorem dX2_spreadChances_69 : decode cX2_spreadChances 69 = .ok (.aload_n 0, 1) := by decide +kernel
theorem dX2_spreadChances_70 : decode cX2_spreadChances 70 = .ok (.getfield 14, 3) := by decide +kernel
theorem dX2_spreadChances_73 : decode cX2_spreadChances 73 = .ok (.iload_n 2, 1) := by decide +kernel
theorem dX2_spreadChances_74 : decode cX2_spreadChances 74 = .ok (.iload 6, 2) := by decide +kernel
theorem dX2_spreadChances_76 : decode cX2_spreadChances 76 = .ok (.bipush 61, 2) := by decide +kernel
theorem dX2_spreadChances_78 : decode cX2_spreadChances 78 = .ok (.idiv, 1) := by decide +kernel
theorem dX2_spreadChances_79 : decode cX2_spreadChances 79 = .ok (.iadd, 1) := by decide +kernel
theorem dX2_spreadChances_80 : decode cX2_spreadChances 80 = .ok (.putfield 50, 3) := by decide +kernel
theorem dX2_spreadChances_83 : decode cX2_spreadChances 83 = .ok (.aload_n 0, 1) := by decide +kernel
theorem dX2_spreadChances_84 : decode cX2_spreadChances 84 = .ok (.getfield 14, 3) := by decide +kernel
theorem dX2_spreadChances_87 : decode cX2_spreadChances 87 = .ok (.iload 6, 2) := by decide +kernel
theorem dX2_spreadChances_89 : decode cX2_spreadChances 89 = .ok (.bipush 61, 2) := by decide +kernel
theorem dX2_spreadChances_91 : decode cX2_spreadChances 91 = .ok (.irem, 1) := by decide +kernel
theorem dX2_spreadChances_92 : decode cX2_spreadChances 92 = .ok (.putfield 70, 3) := by decide +kernel
theorem dX2_spreadChances_95 : decode cX2_spreadChances 95 = .ok (.aload_n 0, 1) := by decide +kernel
theorem dX2_spreadChances_96 : decode cX2_spreadChances 96 = .ok (.getfield 14, 3) := by decide +kernel
theorem dX2_spreadChances_99 : decode cX2_spreadChances 99 = .ok (.dup, 1) := by decide +kernel
theorem dX2_spreadChances_100 : decode cX2_spreadChances 100 = .ok (.getfield 84, 3) := by decide +kernel
theorem dX2_spreadChances_103 : decode cX2_spreadChances 103 = .ok (.iload_n 3, 1) := by decide +kernel
theorem dX2_spreadChances_104 : decode cX2_spreadChances 104 = .ok (.iadd, 1) := by decide +kernel
theorem dX2_spreadChances_105 : decode cX2_spreadChances 105 = .ok (.putfield 84, 3) := by decide +kernel
theorem dX2_spreadChances_108 : decode cX2_spreadChances 108 = .ok (.aload_n 0, 1) := by decide +kernel
theorem dX2_spreadChances_109 : decode cX2_spreadChances 109 = .ok (.getfield 36, 3) := by decide +kernel
theorem dX2_spreadChances_112 : decode cX2_spreadChances 112 = .ok (.aload_n 0, 1) := by decide +kernel
theorem dX2_spreadChances_113 : decode cX2_spreadChances 113 = .ok (.getfield 14, 3) := by decide +kernel
theorem dX2_spreadChances_116 : decode cX2_spreadChances 116 = .ok (.iload 4, 2) := by decide +kernel
theorem dX2_spreadChances_118 : decode cX2_spreadChances 118 = .ok (.invokevirtual 54, 3) := by decide +kernel
theorem dX2_spreadChances_121 : decode cX2_spreadChances 121 = .ok (.pop, 1) := by decide +kernel
theorem dX2_spreadChances_122 : decode cX2_spreadChances 122 = .ok (.aload_n 0, 1) := by decide +kernel
theorem dX2_spreadChances_123 : decode cX2_spreadChances 123 = .ok (.getfield 29, 3) := by decide +kernel
theorem dX2_spreadChances_126 : decode cX2_spreadChances 126 = .ok (.aload_n 0, 1) := by decide +kernel
theorem dX2_spreadChances_127 : decode cX2_spreadChances 127 = .ok (.getfield 14, 3) := by decide +kernel
theorem dX2_spreadChances_130 : decode cX2_spreadChances 130 = .ok (.getfield 50, 3) := by decide +kernel
theorem dX2_spreadChances_133 : decode cX2_spreadChances 133 = .ok (.iload_n 2, 1) := by decide +kernel
theorem dX2_spreadChances_134 : decode cX2_spreadChances 134 = .ok (.isub, 1) := by decide +kernel
theorem dX2_spreadChances_135 : decode cX2_spreadChances 135 = .ok (.aload_n 0, 1) := by decide +kernel
theorem dX2_spreadChances_136 : decode cX2_spreadChances 136 = .ok (.getfield 14, 3) := by decide +kernel
theorem dX2_spreadChances_139 : decode cX2_spreadChances 139 = .ok (.getfield 70, 3) := by decide +kernel
theorem dX2_spreadChances_142 : decode cX2_spreadChances 142 = .ok (.lload 7, 2) := by decide +kernel
theorem dX2_spreadChances_144 : decode cX2_spreadChances 144 = .ok (.bipush 10, 2) := by decide +kernel
theorem dX2_spreadChances_146 : decode cX2_spreadChances 146 = .ok (.iload 5, 2) := by decide +kernel
theorem dX2_spreadChances_148 : decode cX2_spreadChances 148 = .ok (.isub, 1) := by decide +kernel
theorem dX2_spreadChances_149 : decode cX2_spreadChances 149 = .ok (.i2l, 1) := by decide +kernel
theorem dX2_spreadChances_150 : decode cX2_spreadChances 150 = .ok (.lmul, 1) := by decide +kernel
theorem dX2_spreadChances_151 : decode cX2_spreadChances 151 = .ok (.invokestatic 73, 3) := by decide +kernel
theorem dX2_spreadChances_154 : decode cX2_spreadChances 154 = .ok (.aload_n 0, 1) := by decide +kernel
theorem dX2_spreadChances_155 : decode cX2_spreadChances 155 = .ok (.getfield 14, 3) := by decide +kernel
theorem dX2_spreadChances_158 : decode cX2_spreadChances 158 = .ok (.invokevirtual 60, 3) := by decide +kernel
theorem dX2_spreadChances_161 : decode cX2_spreadChances 161 = .ok (.pop, 1) := by decide +kernel
theorem dX2_spreadChances_162 : decode cX2_spreadChances 162 = .ok (.aload_n 0, 1) := by decide +kernel
theorem dX2_spreadChances_163 : decode cX2_spreadChances 163 = .ok (.getfield 29, 3) := by decide +kernel
theorem dX2_spreadChances_166 : decode cX2_spreadChances 166 = .ok (.aload_n 0, 1) := by decide +kernel
theorem dX2_spreadChances_167 : decode cX2_spreadChances 167 = .ok (.getfield 14, 3) := by decide +kernel
theorem dX2_spreadChances_170 : decode cX2_spreadChances 170 = .ok (.getfield 50, 3) := by decide +kernel
theorem dX2_spreadChances_173 : decode cX2_spreadChances 173 = .ok (.iload_n 2, 1) := by decide +kernel
theorem dX2_spreadChances_174 : decode cX2_spreadChances 174 = .ok (.isub, 1) := by decide +kernel
theorem dX2_spreadChances_175 : decode cX2_spreadChances 175 = .ok (.aload_n 0, 1) := by decide +kernel
theorem dX2_spreadChances_176 : decode cX2_spreadChances 176 = .ok (.getfield 14, 3) := by decide +kernel
theorem dX2_spreadChances_179 : decode cX2_spreadChances 179 = .ok (.getfield 70, 3) := by decide +kernel
theorem dX2_spreadChances_182 : decode cX2_spreadChances 182 = .ok (.lload 7, 2) := by decide +kernel
theorem dX2_spreadChances_184 : decode cX2_spreadChances 184 = .ok (.iload 5, 2) := by decide +kernel
theorem dX2_spreadChances_186 : decode cX2_spreadChances 186 = .ok (.i2l, 1) := by decide +kernel
theorem dX2_spreadChances_187 : decode cX2_spreadChances 187 = .ok (.lmul, 1) := by decide +kernel
theorem dX2_spreadChances_188 : decode cX2_spreadChances 188 = .ok (.invokestatic 73, 3) := by decide +kernel
theorem dX2_spreadChances_191 : decode cX2_spreadChances 191 = .ok (.iinc 6 1, 3) := by decide +kernel
theorem dX2_spreadChances_194 : decode cX2_spreadChances 194 = .ok (.goto (-164), 3) := by decide +kernel
theorem dX2_spreadChances_197 : decode cX2_spreadChances 197 = .ok (.aload_n 0, 1) := by decide +kernel
theorem dX2_spreadChances_198 : decode cX2_spreadChances 198 = .ok (.getfield 25, 3) := by decide +kernel
theorem dX2_spreadChances_201 : decode cX2_spreadChances 201 = .ok (.astore 6, 2) := by decide +kernel
theorem dX2_spreadChances_203 : decode cX2_spreadChances 203 = .ok (.aload_n 0, 1) := by decide +kernel
theorem dX2_spreadChances_204 : decode cX2_spreadChances 204 = .ok (.aload_n 0, 1) := by decide +kernel
theorem dX2_spreadChances_205 : decode cX2_spreadChances 205 = .ok (.getfield 29, 3) := by decide +kernel
theorem dX2_spreadChances_208 : decode cX2_spreadChances 208 = .ok (.putfield 25, 3) := by decide +kernel
theorem dX2_spreadChances_211 : decode cX2_spreadChances 211 = .ok (.aload_n 0, 1) := by decide +kernel
theorem dX2_spreadChances_212 : decode cX2_spreadChances 212 = .ok (.aload 6, 2) := by decide +kernel
theorem dX2_spreadChances_214 : decode cX2_spreadChances 214 = .ok (.putfield 29, 3) := by decide +kernel
theorem dX2_spreadChances_217 : decode cX2_spreadChances 217 = .ok (.return_, 1) := by decide +kernel
theorem dX2_addChance_0 : decode cX2_addChance 0 = .ok (.iload_n 1, 1) := by decide +kernel
theorem dX2_addChance_1 : decode cX2_addChance 1 = .ok (.bipush 61, 2) := by decide +kernel
theorem dX2_addChance_3 : decode cX2_addChance 3 = .ok (.imul, 1) := by decide +kernel
theorem dX2_addChance_4 : decode cX2_addChance 4 = .ok (.iload_n 2, 1) := by decide +kernel
theorem dX2_addChance_5 : decode cX2_addChance 5 = .ok (.iadd, 1) := by decide +kernel
theorem dX2_addChance_6 : decode cX2_addChance 6 = .ok (.istore 5, 2) := by decide +kernel
theorem dX2_addChance_8 : decode cX2_addChance 8 = .ok (.iload 5, 2) := by decide +kernel
theorem dX2_addChance_10 : decode cX2_addChance 10 = .ok (.ifCond .lt 18, 3) := by decide +kernel
theorem dX2_addChance_13 : decode cX2_addChance 13 = .ok (.iload 5, 2) := by decide +kernel
theorem dX2_addChance_15 : decode cX2_addChance 15 = .ok (.aload_n 0, 1) := by decide +kernel
theorem dX2_addChance_16 : decode cX2_addChance 16 = .ok (.arraylength, 1) := by decide +kernel
theorem dX2_addChance_17 : decode cX2_addChance 17 = .ok (.if_icmp .ge 11, 3) := by decide +kernel
theorem dX2_addChance_20 : decode cX2_addChance 20 = .ok (.aload_n 0, 1) := by decide +kernel
theorem dX2_addChance_21 : decode cX2_addChance 21 = .ok (.iload 5, 2) := by decide +kernel
theorem dX2_addChance_23 : decode cX2_addChance 23 = .ok (.dup2, 1) := by decide +kernel
theorem dX2_addChance_24 : decode cX2_addChance 24 = .ok (.laload, 1) := by decide +kernel
theorem dX2_addChance_25 : decode cX2_addChance 25 = .ok (.lload_n 3, 1) := by decide +kernel
theorem dX2_addChance_26 : decode cX2_addChance 26 = .ok (.ladd, 1) := by decide +kernel
theorem dX2_addChance_27 : decode cX2_addChance 27 = .ok (.lastore, 1) := by decide +kernel
theorem dX2_addChance_28 : decode cX2_addChance 28 = .ok (.return_, 1) := by decide +kernel
theorem dX2_powerOfTen_0 : decode cX2_powerOfTen 0 = .ok (.lconst 1, 1) := by decide +kernel
theorem dX2_powerOfTen_1 : decode cX2_powerOfTen 1 = .ok (.lstore_n 1, 1) := by decide +kernel
theorem dX2_powerOfTen_2 : decode cX2_powerOfTen 2 = .ok (.iconst 0, 1) := by decide +kernel
theorem dX2_powerOfTen_3 : decode cX2_powerOfTen 3 = .ok (.istore_n 3, 1) := by decide +kernel
theorem dX2_powerOfTen_4 : decode cX2_powerOfTen 4 = .ok (.iload_n 3, 1) := by decide +kernel
theorem dX2_powerOfTen_5 : decode cX2_powerOfTen 5 = .ok (.iload_n 0, 1) := by decide +kernel
theorem dX2_powerOfTen_6 : decode cX2_powerOfTen 6 = .ok (.if_icmp .ge 15, 3) := by decide +kernel
theorem dX2_powerOfTen_9 : decode cX2_powerOfTen 9 = .ok (.lload_n 1, 1) := by decide +kernel
theorem dX2_powerOfTen_10 : decode cX2_powerOfTen 10 = .ok (.ldc2_w 87, 3) := by decide +kernel
theorem dX2_powerOfTen_13 : decode cX2_powerOfTen 13 = .ok (.lmul, 1) := by decide +kernel
theorem dX2_powerOfTen_14 : decode cX2_powerOfTen 14 = .ok (.lstore_n 1, 1) := by decide +kernel
theorem dX2_powerOfTen_15 : decode cX2_powerOfTen 15 = .ok (.iinc 3 1, 3) := by decide +kernel
theorem dX2_powerOfTen_18 : decode cX2_powerOfTen 18 = .ok (.goto (-14), 3) := by decide +kernel
theorem dX2_powerOfTen_21 : decode cX2_powerOfTen 21 = .ok (.lload_n 1, 1) := by decide +kernel
theorem dX2_powerOfTen_22 : decode cX2_powerOfTen 22 = .ok (.lreturn, 1) := by decide +kernel
theorem dX2_commonDivisor_0 : decode cX2_commonDivisor 0 = .ok (.lload_n 0, 1) := by decide +kernel
theorem dX2_commonDivisor_1 : decode cX2_commonDivisor 1 = .ok (.lstore 4, 2) := by decide +kernel
theorem dX2_commonDivisor_3 : decode cX2_commonDivisor 3 = .ok (.lload_n 2, 1) := by decide +kernel
theorem dX2_commonDivisor_4 : decode cX2_commonDivisor 4 = .ok (.lstore 6, 2) := by decide +kernel
theorem dX2_commonDivisor_6 : decode cX2_commonDivisor 6 = .ok (.iconst 0, 1) := by decide +kernel
theorem dX2_commonDivisor_7 : decode cX2_commonDivisor 7 = .ok (.istore 8, 2) := by decide +kernel
theorem dX2_commonDivisor_9 : decode cX2_commonDivisor 9 = .ok (.iload 8, 2) := by decide +kernel
theorem dX2_commonDivisor_11 : decode cX2_commonDivisor 11 = .ok (.sipush 200, 3) := by decide +kernel
theorem dX2_commonDivisor_14 : decode cX2_commonDivisor 14 = .ok (.if_icmp .ge 31, 3) := by decide +kernel
theorem dX2_commonDivisor_17 : decode cX2_commonDivisor 17 = .ok (.lload 6, 2) := by decide +kernel
theorem dX2_commonDivisor_19 : decode cX2_commonDivisor 19 = .ok (.lconst 0, 1) := by decide +kernel
theorem dX2_commonDivisor_20 : decode cX2_commonDivisor 20 = .ok (.lcmp, 1) := by decide +kernel
theorem dX2_commonDivisor_21 : decode cX2_commonDivisor 21 = .ok (.ifCond .eq 24, 3) := by decide +kernel
theorem dX2_commonDivisor_24 : decode cX2_commonDivisor 24 = .ok (.lload 4, 2) := by decide +kernel
theorem dX2_commonDivisor_26 : decode cX2_commonDivisor 26 = .ok (.lload 6, 2) := by decide +kernel
theorem dX2_commonDivisor_28 : decode cX2_commonDivisor 28 = .ok (.lrem, 1) := by decide +kernel
theorem dX2_commonDivisor_29 : decode cX2_commonDivisor 29 = .ok (.lstore 9, 2) := by decide +kernel
theorem dX2_commonDivisor_31 : decode cX2_commonDivisor 31 = .ok (.lload 6, 2) := by decide +kernel
theorem dX2_commonDivisor_33 : decode cX2_commonDivisor 33 = .ok (.lstore 4, 2) := by decide +kernel
theorem dX2_commonDivisor_35 : decode cX2_commonDivisor 35 = .ok (.lload 9, 2) := by decide +kernel
theorem dX2_commonDivisor_37 : decode cX2_commonDivisor 37 = .ok (.lstore 6, 2) := by decide +kernel
theorem dX2_commonDivisor_39 : decode cX2_commonDivisor 39 = .ok (.iinc 8 1, 3) := by decide +kernel
theorem dX2_commonDivisor_42 : decode cX2_commonDivisor 42 = .ok (.goto (-33), 3) := by decide +kernel
theorem dX2_commonDivisor_45 : decode cX2_commonDivisor 45 = .ok (.lload 4, 2) := by decide +kernel
theorem dX2_commonDivisor_47 : decode cX2_commonDivisor 47 = .ok (.lreturn, 1) := by decide +kernel
theorem dX2_fewestChanges_0 : decode cX2_fewestChanges 0 = .ok (.iconst (-1), 1) := by decide +kernel
theorem dX2_fewestChanges_1 : decode cX2_fewestChanges 1 = .ok (.istore 4, 2) := by decide +kernel
theorem dX2_fewestChanges_3 : decode cX2_fewestChanges 3 = .ok (.iconst 1, 1) := by decide +kernel
theorem dX2_fewestChanges_4 : decode cX2_fewestChanges 4 = .ok (.aload_n 0, 1) := by decide +kernel
theorem dX2_fewestChanges_5 : decode cX2_fewestChanges 5 = .ok (.getfield 32, 3) := by decide +kernel
theorem dX2_fewestChanges_8 : decode cX2_fewestChanges 8 = .ok (.getfield 89, 3) := by decide +kernel
theorem dX2_fewestChanges_11 : decode cX2_fewestChanges 11 = .ok (.bipush 6, 2) := by decide +kernel
theorem dX2_fewestChanges_13 : decode cX2_fewestChanges 13 = .ok (.invokestatic 92, 3) := by decide +kernel
theorem dX2_fewestChanges_16 : decode cX2_fewestChanges 16 = .ok (.ishl, 1) := by decide +kernel
theorem dX2_fewestChanges_17 : decode cX2_fewestChanges 17 = .ok (.istore 5, 2) := by decide +kernel
theorem dX2_fewestChanges_19 : decode cX2_fewestChanges 19 = .ok (.iconst 0, 1) := by decide +kernel
theorem dX2_fewestChanges_20 : decode cX2_fewestChanges 20 = .ok (.istore 6, 2) := by decide +kernel
theorem dX2_fewestChanges_22 : decode cX2_fewestChanges 22 = .ok (.iload 6, 2) := by decide +kernel
theorem dX2_fewestChanges_24 : decode cX2_fewestChanges 24 = .ok (.iload 5, 2) := by decide +kernel
theorem dX2_fewestChanges_26 : decode cX2_fewestChanges 26 = .ok (.if_icmp .ge 88, 3) := by decide +kernel
theorem dX2_fewestChanges_29 : decode cX2_fewestChanges 29 = .ok (.aload_n 0, 1) := by decide +kernel
theorem dX2_fewestChanges_30 : decode cX2_fewestChanges 30 = .ok (.iload_n 1, 1) := by decide +kernel
theorem dX2_fewestChanges_31 : decode cX2_fewestChanges 31 = .ok (.iload 6, 2) := by decide +kernel
theorem dX2_fewestChanges_33 : decode cX2_fewestChanges 33 = .ok (.invokevirtual 98, 3) := by decide +kernel
theorem dX2_fewestChanges_36 : decode cX2_fewestChanges 36 = .ok (.istore 7, 2) := by decide +kernel
theorem dX2_fewestChanges_38 : decode cX2_fewestChanges 38 = .ok (.iload 4, 2) := by decide +kernel
theorem dX2_fewestChanges_40 : decode cX2_fewestChanges 40 = .ok (.iconst (-1), 1) := by decide +kernel
theorem dX2_fewestChanges_41 : decode cX2_fewestChanges 41 = .ok (.if_icmp .eq 24, 3) := by decide +kernel
theorem dX2_fewestChanges_44 : decode cX2_fewestChanges 44 = .ok (.iload 7, 2) := by decide +kernel
theorem dX2_fewestChanges_46 : decode cX2_fewestChanges 46 = .ok (.iload 4, 2) := by decide +kernel
theorem dX2_fewestChanges_48 : decode cX2_fewestChanges 48 = .ok (.if_icmp .lt 17, 3) := by decide +kernel
theorem dX2_fewestChanges_51 : decode cX2_fewestChanges 51 = .ok (.iload 7, 2) := by decide +kernel
theorem dX2_fewestChanges_53 : decode cX2_fewestChanges 53 = .ok (.iload 4, 2) := by decide +kernel
theorem dX2_fewestChanges_55 : decode cX2_fewestChanges 55 = .ok (.if_icmp .ne 14, 3) := by decide +kernel
theorem dX2_fewestChanges_58 : decode cX2_fewestChanges 58 = .ok (.aload_n 0, 1) := by decide +kernel
theorem dX2_fewestChanges_59 : decode cX2_fewestChanges 59 = .ok (.invokevirtual 101, 3) := by decide +kernel
theorem dX2_fewestChanges_62 : decode cX2_fewestChanges 62 = .ok (.ifCond .eq 7, 3) := by decide +kernel
theorem dX2_fewestChanges_65 : decode cX2_fewestChanges 65 = .ok (.iconst 1, 1) := by decide +kernel
theorem dX2_fewestChanges_66 : decode cX2_fewestChanges 66 = .ok (.goto 4, 3) := by decide +kernel
theorem dX2_fewestChanges_69 : decode cX2_fewestChanges 69 = .ok (.iconst 0, 1) := by decide +kernel
theorem dX2_fewestChanges_70 : decode cX2_fewestChanges 70 = .ok (.istore 8, 2) := by decide +kernel
theorem dX2_fewestChanges_72 : decode cX2_fewestChanges 72 = .ok (.iload 8, 2) := by decide +kernel
theorem dX2_fewestChanges_74 : decode cX2_fewestChanges 74 = .ok (.ifCond .eq 34, 3) := by decide +kernel
theorem dX2_fewestChanges_77 : decode cX2_fewestChanges 77 = .ok (.aload_n 0, 1) := by decide +kernel
theorem dX2_fewestChanges_78 : decode cX2_fewestChanges 78 = .ok (.iload_n 1, 1) := by decide +kernel
theorem dX2_fewestChanges_79 : decode cX2_fewestChanges 79 = .ok (.iload 6, 2) := by decide +kernel
theorem dX2_fewestChanges_81 : decode cX2_fewestChanges 81 = .ok (.iload_n 2, 1) := by decide +kernel
theorem dX2_fewestChanges_82 : decode cX2_fewestChanges 82 = .ok (.iload_n 3, 1) := by decide +kernel
theorem dX2_fewestChanges_83 : decode cX2_fewestChanges 83 = .ok (.invokevirtual 104, 3) := by decide +kernel
theorem dX2_fewestChanges_86 : decode cX2_fewestChanges 86 = .ok (.ifCond .eq 22, 3) := by decide +kernel
theorem dX2_fewestChanges_89 : decode cX2_fewestChanges 89 = .ok (.iload 7, 2) := by decide +kernel
theorem dX2_fewestChanges_91 : decode cX2_fewestChanges 91 = .ok (.istore 4, 2) := by decide +kernel
theorem dX2_fewestChanges_93 : decode cX2_fewestChanges 93 = .ok (.aload_n 0, 1) := by decide +kernel
theorem dX2_fewestChanges_94 : decode cX2_fewestChanges 94 = .ok (.getfield 18, 3) := by decide +kernel
theorem dX2_fewestChanges_97 : decode cX2_fewestChanges 97 = .ok (.iconst 0, 1) := by decide +kernel
theorem dX2_fewestChanges_98 : decode cX2_fewestChanges 98 = .ok (.aload_n 0, 1) := by decide +kernel
theorem dX2_fewestChanges_99 : decode cX2_fewestChanges 99 = .ok (.getfield 22, 3) := by decide +kernel
theorem dX2_fewestChanges_102 : decode cX2_fewestChanges 102 = .ok (.iconst 0, 1) := by decide +kernel
theorem dX2_fewestChanges_103 : decode cX2_fewestChanges 103 = .ok (.bipush 6, 2) := by decide +kernel
theorem dX2_fewestChanges_105 : decode cX2_fewestChanges 105 = .ok (.invokestatic 108, 3) := by decide +kernel
theorem dX2_fewestChanges_108 : decode cX2_fewestChanges 108 = .ok (.iinc 6 1, 3) := by decide +kernel
theorem dX2_fewestChanges_111 : decode cX2_fewestChanges 111 = .ok (.goto (-89), 3) := by decide +kernel
theorem dX2_fewestChanges_114 : decode cX2_fewestChanges 114 = .ok (.iload 4, 2) := by decide +kernel
theorem dX2_fewestChanges_116 : decode cX2_fewestChanges 116 = .ok (.ireturn, 1) := by decide +kernel
theorem dX2_bestSeat_0 : decode cX2_bestSeat 0 = .ok (.iload_n 1, 1) := by decide +kernel
theorem dX2_bestSeat_1 : decode cX2_bestSeat 1 = .ok (.ifCond .lt 18, 3) := by decide +kernel
theorem dX2_bestSeat_4 : decode cX2_bestSeat 4 = .ok (.iload_n 1, 1) := by decide +kernel
theorem dX2_bestSeat_5 : decode cX2_bestSeat 5 = .ok (.bipush 6, 2) := by decide +kernel
theorem dX2_bestSeat_7 : decode cX2_bestSeat 7 = .ok (.if_icmp .ge 12, 3) := by decide +kernel
theorem dX2_bestSeat_10 : decode cX2_bestSeat 10 = .ok (.aload_n 0, 1) := by decide +kernel
theorem dX2_bestSeat_11 : decode cX2_bestSeat 11 = .ok (.getfield 22, 3) := by decide +kernel
theorem dX2_bestSeat_14 : decode cX2_bestSeat 14 = .ok (.iload_n 1, 1) := by decide +kernel
theorem dX2_bestSeat_15 : decode cX2_bestSeat 15 = .ok (.iaload, 1) := by decide +kernel
theorem dX2_bestSeat_16 : decode cX2_bestSeat 16 = .ok (.goto 4, 3) := by decide +kernel
theorem dX2_bestSeat_19 : decode cX2_bestSeat 19 = .ok (.iconst (-1), 1) := by decide +kernel
theorem dX2_bestSeat_20 : decode cX2_bestSeat 20 = .ok (.ireturn, 1) := by decide +kernel
theorem dX2_trySeats_0 : decode cX2_trySeats 0 = .ok (.iconst 0, 1) := by decide +kernel
theorem dX2_trySeats_1 : decode cX2_trySeats 1 = .ok (.istore_n 3, 1) := by decide +kernel
theorem dX2_trySeats_2 : decode cX2_trySeats 2 = .ok (.iconst 0, 1) := by decide +kernel
theorem dX2_trySeats_3 : decode cX2_trySeats 3 = .ok (.istore 4, 2) := by decide +kernel
theorem dX2_trySeats_5 : decode cX2_trySeats 5 = .ok (.iload 4, 2) := by decide +kernel
theorem dX2_trySeats_7 : decode cX2_trySeats 7 = .ok (.bipush 6, 2) := by decide +kernel
theorem dX2_trySeats_9 : decode cX2_trySeats 9 = .ok (.if_icmp .ge 100, 3) := by decide +kernel
theorem dX2_trySeats_12 : decode cX2_trySeats 12 = .ok (.aload_n 0, 1) := by decide +kernel
theorem dX2_trySeats_13 : decode cX2_trySeats 13 = .ok (.getfield 32, 3) := by decide +kernel
theorem dX2_trySeats_16 : decode cX2_trySeats 16 = .ok (.iload 4, 2) := by decide +kernel
theorem dX2_trySeats_18 : decode cX2_trySeats 18 = .ok (.invokevirtual 114, 3) := by decide +kernel
theorem dX2_trySeats_21 : decode cX2_trySeats 21 = .ok (.istore 5, 2) := by decide +kernel
theorem dX2_trySeats_23 : decode cX2_trySeats 23 = .ok (.iload_n 2, 1) := by decide +kernel
theorem dX2_trySeats_24 : decode cX2_trySeats 24 = .ok (.iload 4, 2) := by decide +kernel
theorem dX2_trySeats_26 : decode cX2_trySeats 26 = .ok (.ishr, 1) := by decide +kernel
theorem dX2_trySeats_27 : decode cX2_trySeats 27 = .ok (.iconst 1, 1) := by decide +kernel
theorem dX2_trySeats_28 : decode cX2_trySeats 28 = .ok (.iand, 1) := by decide +kernel
theorem dX2_trySeats_29 : decode cX2_trySeats 29 = .ok (.ifCond .eq 7, 3) := by decide +kernel
theorem dX2_trySeats_32 : decode cX2_trySeats 32 = .ok (.iconst 1, 1) := by decide +kernel
theorem dX2_trySeats_33 : decode cX2_trySeats 33 = .ok (.goto 4, 3) := by decide +kernel
theorem dX2_trySeats_36 : decode cX2_trySeats 36 = .ok (.iconst 0, 1) := by decide +kernel
theorem dX2_trySeats_37 : decode cX2_trySeats 37 = .ok (.istore 6, 2) := by decide +kernel
theorem dX2_trySeats_39 : decode cX2_trySeats 39 = .ok (.aload_n 0, 1) := by decide +kernel
theorem dX2_trySeats_40 : decode cX2_trySeats 40 = .ok (.getfield 18, 3) := by decide +kernel
theorem dX2_trySeats_43 : decode cX2_trySeats 43 = .ok (.iload 4, 2) := by decide +kernel
theorem dX2_trySeats_45 : decode cX2_trySeats 45 = .ok (.iload 5, 2) := by decide +kernel
theorem dX2_trySeats_47 : decode cX2_trySeats 47 = .ok (.iastore, 1) := by decide +kernel
theorem dX2_trySeats_48 : decode cX2_trySeats 48 = .ok (.iload 6, 2) := by decide +kernel
theorem dX2_trySeats_50 : decode cX2_trySeats 50 = .ok (.ifCond .eq 23, 3) := by decide +kernel
theorem dX2_trySeats_53 : decode cX2_trySeats 53 = .ok (.iload 5, 2) := by decide +kernel
theorem dX2_trySeats_55 : decode cX2_trySeats 55 = .ok (.iload_n 1, 1) := by decide +kernel
theorem dX2_trySeats_56 : decode cX2_trySeats 56 = .ok (.if_icmp .eq 17, 3) := by decide +kernel
theorem dX2_trySeats_59 : decode cX2_trySeats 59 = .ok (.aload_n 0, 1) := by decide +kernel
theorem dX2_trySeats_60 : decode cX2_trySeats 60 = .ok (.getfield 18, 3) := by decide +kernel
theorem dX2_trySeats_63 : decode cX2_trySeats 63 = .ok (.iload 4, 2) := by decide +kernel
theorem dX2_trySeats_65 : decode cX2_trySeats 65 = .ok (.iload_n 1, 1) := by decide +kernel
theorem dX2_trySeats_66 : decode cX2_trySeats 66 = .ok (.iastore, 1) := by decide +kernel
theorem dX2_trySeats_67 : decode cX2_trySeats 67 = .ok (.iinc 3 1, 3) := by decide +kernel
theorem dX2_trySeats_70 : decode cX2_trySeats 70 = .ok (.goto 33, 3) := by decide +kernel
theorem dX2_trySeats_73 : decode cX2_trySeats 73 = .ok (.iload 6, 2) := by decide +kernel
theorem dX2_trySeats_75 : decode cX2_trySeats 75 = .ok (.ifCond .ne 28, 3) := by decide +kernel
theorem dX2_trySeats_78 : decode cX2_trySeats 78 = .ok (.iload 5, 2) := by decide +kernel
theorem dX2_trySeats_80 : decode cX2_trySeats 80 = .ok (.iload_n 1, 1) := by decide +kernel
theorem dX2_trySeats_81 : decode cX2_trySeats 81 = .ok (.if_icmp .ne 22, 3) := by decide +kernel
theorem dX2_trySeats_84 : decode cX2_trySeats 84 = .ok (.aload_n 0, 1) := by decide +kernel
theorem dX2_trySeats_85 : decode cX2_trySeats 85 = .ok (.getfield 18, 3) := by decide +kernel
theorem dX2_trySeats_88 : decode cX2_trySeats 88 = .ok (.iload 4, 2) := by decide +kernel
theorem dX2_trySeats_90 : decode cX2_trySeats 90 = .ok (.iload_n 1, 1) := by decide +kernel
theorem dX2_trySeats_91 : decode cX2_trySeats 91 = .ok (.ifCond .ne 7, 3) := by decide +kernel
theorem dX2_trySeats_94 : decode cX2_trySeats 94 = .ok (.iconst 1, 1) := by decide +kernel
theorem dX2_trySeats_95 : decode cX2_trySeats 95 = .ok (.goto 4, 3) := by decide +kernel
theorem dX2_trySeats_98 : decode cX2_trySeats 98 = .ok (.iconst 0, 1) := by decide +kernel
theorem dX2_trySeats_99 : decode cX2_trySeats 99 = .ok (.iastore, 1) := by decide +kernel
theorem dX2_trySeats_100 : decode cX2_trySeats 100 = .ok (.iinc 3 1, 3) := by decide +kernel
theorem dX2_trySeats_103 : decode cX2_trySeats 103 = .ok (.iinc 4 1, 3) := by decide +kernel
theorem dX2_trySeats_106 : decode cX2_trySeats 106 = .ok (.goto (-101), 3) := by decide +kernel
theorem dX2_trySeats_109 : decode cX2_trySeats 109 = .ok (.iload_n 3, 1) := by decide +kernel
theorem dX2_trySeats_110 : decode cX2_trySeats 110 = .ok (.ireturn, 1) := by decide +kernel
theorem dX2_triedIsLower_0 : decode cX2_triedIsLower 0 = .ok (.iconst 0, 1) := by decide +kernel
theorem dX2_triedIsLower_1 : decode cX2_triedIsLower 1 = .ok (.istore_n 1, 1) := by decide +kernel
theorem dX2_triedIsLower_2 : decode cX2_triedIsLower 2 = .ok (.iload_n 1, 1) := by decide +kernel
theorem dX2_triedIsLower_3 : decode cX2_triedIsLower 3 = .ok (.bipush 6, 2) := by decide +kernel
theorem dX2_triedIsLower_5 : decode cX2_triedIsLower 5 = .ok (.if_icmp .ge 45, 3) := by decide +kernel
theorem dX2_triedIsLower_8 : decode cX2_triedIsLower 8 = .ok (.aload_n 0, 1) := by decide +kernel
theorem dX2_triedIsLower_9 : decode cX2_triedIsLower 9 = .ok (.getfield 18, 3) := by decide +kernel
theorem dX2_triedIsLower_12 : decode cX2_triedIsLower 12 = .ok (.iload_n 1, 1) := by decide +kernel
theorem dX2_triedIsLower_13 : decode cX2_triedIsLower 13 = .ok (.iaload, 1) := by decide +kernel
theorem dX2_triedIsLower_14 : decode cX2_triedIsLower 14 = .ok (.aload_n 0, 1) := by decide +kernel
theorem dX2_triedIsLower_15 : decode cX2_triedIsLower 15 = .ok (.getfield 22, 3) := by decide +kernel
theorem dX2_triedIsLower_18 : decode cX2_triedIsLower 18 = .ok (.iload_n 1, 1) := by decide +kernel
theorem dX2_triedIsLower_19 : decode cX2_triedIsLower 19 = .ok (.iaload, 1) := by decide +kernel
theorem dX2_triedIsLower_20 : decode cX2_triedIsLower 20 = .ok (.if_icmp .eq 24, 3) := by decide +kernel
theorem dX2_triedIsLower_23 : decode cX2_triedIsLower 23 = .ok (.aload_n 0, 1) := by decide +kernel
theorem dX2_triedIsLower_24 : decode cX2_triedIsLower 24 = .ok (.getfield 18, 3) := by decide +kernel
theorem dX2_triedIsLower_27 : decode cX2_triedIsLower 27 = .ok (.iload_n 1, 1) := by decide +kernel
theorem dX2_triedIsLower_28 : decode cX2_triedIsLower 28 = .ok (.iaload, 1) := by decide +kernel
theorem dX2_triedIsLower_29 : decode cX2_triedIsLower 29 = .ok (.aload_n 0, 1) := by decide +kernel
theorem dX2_triedIsLower_30 : decode cX2_triedIsLower 30 = .ok (.getfield 22, 3) := by decide +kernel
theorem dX2_triedIsLower_33 : decode cX2_triedIsLower 33 = .ok (.iload_n 1, 1) := by decide +kernel
theorem dX2_triedIsLower_34 : decode cX2_triedIsLower 34 = .ok (.iaload, 1) := by decide +kernel
theorem dX2_triedIsLower_35 : decode cX2_triedIsLower 35 = .ok (.if_icmp .ge 7, 3) := by decide +kernel
theorem dX2_triedIsLower_38 : decode cX2_triedIsLower 38 = .ok (.iconst 1, 1) := by decide +kernel
theorem dX2_triedIsLower_39 : decode cX2_triedIsLower 39 = .ok (.goto 4, 3) := by decide +kernel
theorem dX2_triedIsLower_42 : decode cX2_triedIsLower 42 = .ok (.iconst 0, 1) := by decide +kernel
theorem dX2_triedIsLower_43 : decode cX2_triedIsLower 43 = .ok (.ireturn, 1) := by decide +kernel
theorem dX2_triedIsLower_44 : decode cX2_triedIsLower 44 = .ok (.iinc 1 1, 3) := by decide +kernel
theorem dX2_triedIsLower_47 : decode cX2_triedIsLower 47 = .ok (.goto (-45), 3) := by decide +kernel
theorem dX2_triedIsLower_50 : decode cX2_triedIsLower 50 = .ok (.iconst 0, 1) := by decide +kernel
theorem dX2_triedIsLower_51 : decode cX2_triedIsLower 51 = .ok (.ireturn, 1) := by decide +kernel
theorem dX2_comesJustAfter_0 : decode cX2_comesJustAfter 0 = .ok (.aload_n 0, 1) := by decide +kernel
theorem dX2_comesJustAfter_1 : decode cX2_comesJustAfter 1 = .ok (.getfield 14, 3) := by decide +kernel
theorem dX2_comesJustAfter_4 : decode cX2_comesJustAfter 4 = .ok (.aload_n 0, 1) := by decide +kernel
theorem dX2_comesJustAfter_5 : decode cX2_comesJustAfter 5 = .ok (.getfield 32, 3) := by decide +kernel
theorem dX2_comesJustAfter_8 : decode cX2_comesJustAfter 8 = .ok (.iload_n 1, 1) := by decide +kernel
theorem dX2_comesJustAfter_9 : decode cX2_comesJustAfter 9 = .ok (.invokevirtual 40, 3) := by decide +kernel
theorem dX2_comesJustAfter_12 : decode cX2_comesJustAfter 12 = .ok (.iconst 0, 1) := by decide +kernel
theorem dX2_comesJustAfter_13 : decode cX2_comesJustAfter 13 = .ok (.istore 5, 2) := by decide +kernel
theorem dX2_comesJustAfter_15 : decode cX2_comesJustAfter 15 = .ok (.iload 5, 2) := by decide +kernel
theorem dX2_comesJustAfter_17 : decode cX2_comesJustAfter 17 = .ok (.iload 4, 2) := by decide +kernel
theorem dX2_comesJustAfter_19 : decode cX2_comesJustAfter 19 = .ok (.if_icmp .ge 52, 3) := by decide +kernel
theorem dX2_comesJustAfter_22 : decode cX2_comesJustAfter 22 = .ok (.aload_n 0, 1) := by decide +kernel
theorem dX2_comesJustAfter_23 : decode cX2_comesJustAfter 23 = .ok (.getfield 14, 3) := by decide +kernel
theorem dX2_comesJustAfter_26 : decode cX2_comesJustAfter 26 = .ok (.getfield 50, 3) := by decide +kernel
theorem dX2_comesJustAfter_29 : decode cX2_comesJustAfter 29 = .ok (.iload_n 3, 1) := by decide +kernel
theorem dX2_comesJustAfter_30 : decode cX2_comesJustAfter 30 = .ok (.if_icmp .ge 20, 3) := by decide +kernel
theorem dX2_comesJustAfter_33 : decode cX2_comesJustAfter 33 = .ok (.iload_n 3, 1) := by decide +kernel
theorem dX2_comesJustAfter_34 : decode cX2_comesJustAfter 34 = .ok (.aload_n 0, 1) := by decide +kernel
theorem dX2_comesJustAfter_35 : decode cX2_comesJustAfter 35 = .ok (.getfield 14, 3) := by decide +kernel
theorem dX2_comesJustAfter_38 : decode cX2_comesJustAfter 38 = .ok (.getfield 50, 3) := by decide +kernel
theorem dX2_comesJustAfter_41 : decode cX2_comesJustAfter 41 = .ok (.isub, 1) := by decide +kernel
theorem dX2_comesJustAfter_42 : decode cX2_comesJustAfter 42 = .ok (.iload 4, 2) := by decide +kernel
theorem dX2_comesJustAfter_44 : decode cX2_comesJustAfter 44 = .ok (.iload 5, 2) := by decide +kernel
theorem dX2_comesJustAfter_46 : decode cX2_comesJustAfter 46 = .ok (.isub, 1) := by decide +kernel
theorem dX2_comesJustAfter_47 : decode cX2_comesJustAfter 47 = .ok (.if_icmp .le 5, 3) := by decide +kernel
theorem dX2_comesJustAfter_50 : decode cX2_comesJustAfter 50 = .ok (.iconst 0, 1) := by decide +kernel
theorem dX2_comesJustAfter_51 : decode cX2_comesJustAfter 51 = .ok (.ireturn, 1) := by decide +kernel
theorem dX2_comesJustAfter_52 : decode cX2_comesJustAfter 52 = .ok (.aload_n 0, 1) := by decide +kernel
theorem dX2_comesJustAfter_53 : decode cX2_comesJustAfter 53 = .ok (.getfield 36, 3) := by decide +kernel
theorem dX2_comesJustAfter_56 : decode cX2_comesJustAfter 56 = .ok (.aload_n 0, 1) := by decide +kernel
theorem dX2_comesJustAfter_57 : decode cX2_comesJustAfter 57 = .ok (.getfield 14, 3) := by decide +kernel
theorem dX2_comesJustAfter_60 : decode cX2_comesJustAfter 60 = .ok (.iload_n 2, 1) := by decide +kernel
theorem dX2_comesJustAfter_61 : decode cX2_comesJustAfter 61 = .ok (.invokevirtual 54, 3) := by decide +kernel
theorem dX2_comesJustAfter_64 : decode cX2_comesJustAfter 64 = .ok (.pop, 1) := by decide +kernel
theorem dX2_comesJustAfter_65 : decode cX2_comesJustAfter 65 = .ok (.iinc 5 1, 3) := by decide +kernel
theorem dX2_comesJustAfter_68 : decode cX2_comesJustAfter 68 = .ok (.goto (-53), 3) := by decide +kernel
theorem dX2_comesJustAfter_71 : decode cX2_comesJustAfter 71 = .ok (.aload_n 0, 1) := by decide +kernel
theorem dX2_comesJustAfter_72 : decode cX2_comesJustAfter 72 = .ok (.getfield 14, 3) := by decide +kernel
theorem dX2_comesJustAfter_75 : decode cX2_comesJustAfter 75 = .ok (.getfield 50, 3) := by decide +kernel
theorem dX2_comesJustAfter_78 : decode cX2_comesJustAfter 78 = .ok (.iload_n 3, 1) := by decide +kernel
theorem dX2_comesJustAfter_79 : decode cX2_comesJustAfter 79 = .ok (.if_icmp .lt 7, 3) := by decide +kernel
theorem dX2_comesJustAfter_82 : decode cX2_comesJustAfter 82 = .ok (.iconst 1, 1) := by decide +kernel
theorem dX2_comesJustAfter_83 : decode cX2_comesJustAfter 83 = .ok (.goto 4, 3) := by decide +kernel
theorem dX2_comesJustAfter_86 : decode cX2_comesJustAfter 86 = .ok (.iconst 0, 1) := by decide +kernel
theorem dX2_comesJustAfter_87 : decode cX2_comesJustAfter 87 = .ok (.ireturn, 1) := by decide +kernel
theorem dX2_nibblers_0 : decode cX2_nibblers 0 = .ok (.aload_n 0, 1) := by decide +kernel
theorem dX2_nibblers_1 : decode cX2_nibblers 1 = .ok (.getfield 36, 3) := by decide +kernel
theorem dX2_nibblers_4 : decode cX2_nibblers 4 = .ok (.iload_n 1, 1) := by decide +kernel
theorem dX2_nibblers_5 : decode cX2_nibblers 5 = .ok (.iload_n 2, 1) := by decide +kernel
theorem dX2_nibblers_6 : decode cX2_nibblers 6 = .ok (.aload_n 0, 1) := by decide +kernel
theorem dX2_nibblers_7 : decode cX2_nibblers 7 = .ok (.getfield 32, 3) := by decide +kernel
theorem dX2_nibblers_10 : decode cX2_nibblers 10 = .ok (.bipush 12, 2) := by decide +kernel
theorem dX2_nibblers_12 : decode cX2_nibblers 12 = .ok (.invokevirtual 117, 3) := by decide +kernel
theorem dX2_nibblers_15 : decode cX2_nibblers 15 = .ok (.iconst 1, 1) := by decide +kernel
theorem dX2_nibblers_16 : decode cX2_nibblers 16 = .ok (.iadd, 1) := by decide +kernel
theorem dX2_nibblers_17 : decode cX2_nibblers 17 = .ok (.invokevirtual 120, 3) := by decide +kernel
theorem dX2_nibblers_20 : decode cX2_nibblers 20 = .ok (.istore 4, 2) := by decide +kernel
theorem dX2_nibblers_22 : decode cX2_nibblers 22 = .ok (.iconst 1, 1) := by decide +kernel
theorem dX2_nibblers_23 : decode cX2_nibblers 23 = .ok (.aload_n 0, 1) := by decide +kernel
theorem dX2_nibblers_24 : decode cX2_nibblers 24 = .ok (.getfield 32, 3) := by decide +kernel
theorem dX2_nibblers_27 : decode cX2_nibblers 27 = .ok (.getfield 89, 3) := by decide +kernel
theorem dX2_nibblers_30 : decode cX2_nibblers 30 = .ok (.bipush 6, 2) := by decide +kernel
theorem dX2_nibblers_32 : decode cX2_nibblers 32 = .ok (.invokestatic 92, 3) := by decide +kernel
theorem dX2_nibblers_35 : decode cX2_nibblers 35 = .ok (.ishl, 1) := by decide +kernel
theorem dX2_nibblers_36 : decode cX2_nibblers 36 = .ok (.istore 5, 2) := by decide +kernel
theorem dX2_nibblers_38 : decode cX2_nibblers 38 = .ok (.iconst 0, 1) := by decide +kernel
theorem dX2_nibblers_39 : decode cX2_nibblers 39 = .ok (.istore 6, 2) := by decide +kernel
theorem dX2_nibblers_41 : decode cX2_nibblers 41 = .ok (.iconst 0, 1) := by decide +kernel
theorem dX2_nibblers_42 : decode cX2_nibblers 42 = .ok (.istore 7, 2) := by decide +kernel
theorem dX2_nibblers_44 : decode cX2_nibblers 44 = .ok (.iload 7, 2) := by decide +kernel
theorem dX2_nibblers_46 : decode cX2_nibblers 46 = .ok (.iload 5, 2) := by decide +kernel
theorem dX2_nibblers_48 : decode cX2_nibblers 48 = .ok (.if_icmp .ge 67, 3) := by decide +kernel
theorem dX2_nibblers_51 : decode cX2_nibblers 51 = .ok (.aload_n 0, 1) := by decide +kernel
theorem dX2_nibblers_52 : decode cX2_nibblers 52 = .ok (.getfield 14, 3) := by decide +kernel
theorem dX2_nibblers_55 : decode cX2_nibblers 55 = .ok (.aload_n 0, 1) := by decide +kernel
theorem dX2_nibblers_56 : decode cX2_nibblers 56 = .ok (.getfield 32, 3) := by decide +kernel
theorem dX2_nibblers_59 : decode cX2_nibblers 59 = .ok (.iload_n 1, 1) := by decide +kernel
theorem dX2_nibblers_60 : decode cX2_nibblers 60 = .ok (.invokevirtual 40, 3) := by decide +kernel
theorem dX2_nibblers_63 : decode cX2_nibblers 63 = .ok (.aload_n 0, 1) := by decide +kernel
theorem dX2_nibblers_64 : decode cX2_nibblers 64 = .ok (.getfield 14, 3) := by decide +kernel
theorem dX2_nibblers_67 : decode cX2_nibblers 67 = .ok (.iload_n 2, 1) := by decide +kernel
theorem dX2_nibblers_68 : decode cX2_nibblers 68 = .ok (.putfield 50, 3) := by decide +kernel
theorem dX2_nibblers_71 : decode cX2_nibblers 71 = .ok (.aload_n 0, 1) := by decide +kernel
theorem dX2_nibblers_72 : decode cX2_nibblers 72 = .ok (.getfield 14, 3) := by decide +kernel
theorem dX2_nibblers_75 : decode cX2_nibblers 75 = .ok (.iload 4, 2) := by decide +kernel
theorem dX2_nibblers_77 : decode cX2_nibblers 77 = .ok (.putfield 70, 3) := by decide +kernel
theorem dX2_nibblers_80 : decode cX2_nibblers 80 = .ok (.aload_n 0, 1) := by decide +kernel
theorem dX2_nibblers_81 : decode cX2_nibblers 81 = .ok (.getfield 14, 3) := by decide +kernel
theorem dX2_nibblers_84 : decode cX2_nibblers 84 = .ok (.iconst 0, 1) := by decide +kernel
theorem dX2_nibblers_85 : decode cX2_nibblers 85 = .ok (.putfield 124, 3) := by decide +kernel
theorem dX2_nibblers_88 : decode cX2_nibblers 88 = .ok (.aload_n 0, 1) := by decide +kernel
theorem dX2_nibblers_89 : decode cX2_nibblers 89 = .ok (.iload 7, 2) := by decide +kernel
theorem dX2_nibblers_91 : decode cX2_nibblers 91 = .ok (.invokevirtual 127, 3) := by decide +kernel
theorem dX2_nibblers_94 : decode cX2_nibblers 94 = .ok (.ifCond .eq 15, 3) := by decide +kernel
theorem dX2_nibblers_97 : decode cX2_nibblers 97 = .ok (.iload 6, 2) := by decide +kernel
theorem dX2_nibblers_99 : decode cX2_nibblers 99 = .ok (.iload_n 3, 1) := by decide +kernel
theorem dX2_nibblers_100 : decode cX2_nibblers 100 = .ok (.if_icmp .ne 6, 3) := by decide +kernel
theorem dX2_nibblers_103 : decode cX2_nibblers 103 = .ok (.iload 7, 2) := by decide +kernel
theorem dX2_nibblers_105 : decode cX2_nibblers 105 = .ok (.ireturn, 1) := by decide +kernel
theorem dX2_nibblers_106 : decode cX2_nibblers 106 = .ok (.iinc 6 1, 3) := by decide +kernel
theorem dX2_nibblers_109 : decode cX2_nibblers 109 = .ok (.iinc 7 1, 3) := by decide +kernel
theorem dX2_nibblers_112 : decode cX2_nibblers 112 = .ok (.goto (-68), 3) := by decide +kernel
theorem dX2_nibblers_115 : decode cX2_nibblers 115 = .ok (.iload_n 3, 1) := by decide +kernel
theorem dX2_nibblers_116 : decode cX2_nibblers 116 = .ok (.iconst (-1), 1) := by decide +kernel
theorem dX2_nibblers_117 : decode cX2_nibblers 117 = .ok (.if_icmp .ne 8, 3) := by decide +kernel
theorem dX2_nibblers_120 : decode cX2_nibblers 120 = .ok (.iload 6, 2) := by decide +kernel
theorem dX2_nibblers_122 : decode cX2_nibblers 122 = .ok (.goto 4, 3) := by decide +kernel
theorem dX2_nibblers_125 : decode cX2_nibblers 125 = .ok (.iconst (-1), 1) := by decide +kernel
theorem dX2_nibblers_126 : decode cX2_nibblers 126 = .ok (.ireturn, 1) := by decide +kernel
theorem dX2_fitsSeen_0 : decode cX2_fitsSeen 0 = .ok (.iconst 0, 1) := by decide +kernel
theorem dX2_fitsSeen_1 : decode cX2_fitsSeen 1 = .ok (.istore_n 2, 1) := by decide +kernel
theorem dX2_fitsSeen_2 : decode cX2_fitsSeen 2 = .ok (.iload_n 2, 1) := by decide +kernel
theorem dX2_fitsSeen_3 : decode cX2_fitsSeen 3 = .ok (.aload_n 0, 1) := by decide +kernel
theorem dX2_fitsSeen_4 : decode cX2_fitsSeen 4 = .ok (.getfield 32, 3) := by decide +kernel
theorem dX2_fitsSeen_7 : decode cX2_fitsSeen 7 = .ok (.getfield 131, 3) := by decide +kernel
theorem dX2_fitsSeen_10 : decode cX2_fitsSeen 10 = .ok (.if_icmp .ge 62, 3) := by decide +kernel
theorem dX2_fitsSeen_13 : decode cX2_fitsSeen 13 = .ok (.iload_n 2, 1) := by decide +kernel
theorem dX2_fitsSeen_14 : decode cX2_fitsSeen 14 = .ok (.bipush 8, 2) := by decide +kernel
theorem dX2_fitsSeen_16 : decode cX2_fitsSeen 16 = .ok (.if_icmp .ge 56, 3) := by decide +kernel
theorem dX2_fitsSeen_19 : decode cX2_fitsSeen 19 = .ok (.aload_n 0, 1) := by decide +kernel
theorem dX2_fitsSeen_20 : decode cX2_fitsSeen 20 = .ok (.getfield 14, 3) := by decide +kernel
theorem dX2_fitsSeen_23 : decode cX2_fitsSeen 23 = .ok (.dup, 1) := by decide +kernel
theorem dX2_fitsSeen_24 : decode cX2_fitsSeen 24 = .ok (.getfield 84, 3) := by decide +kernel
theorem dX2_fitsSeen_27 : decode cX2_fitsSeen 27 = .ok (.iconst 1, 1) := by decide +kernel
theorem dX2_fitsSeen_28 : decode cX2_fitsSeen 28 = .ok (.iadd, 1) := by decide +kernel
theorem dX2_fitsSeen_29 : decode cX2_fitsSeen 29 = .ok (.putfield 84, 3) := by decide +kernel
theorem dX2_fitsSeen_32 : decode cX2_fitsSeen 32 = .ok (.aload_n 0, 1) := by decide +kernel
theorem dX2_fitsSeen_33 : decode cX2_fitsSeen 33 = .ok (.getfield 36, 3) := by decide +kernel
theorem dX2_fitsSeen_36 : decode cX2_fitsSeen 36 = .ok (.iload_n 1, 1) := by decide +kernel
theorem dX2_fitsSeen_37 : decode cX2_fitsSeen 37 = .ok (.aload_n 0, 1) := by decide +kernel
theorem dX2_fitsSeen_38 : decode cX2_fitsSeen 38 = .ok (.getfield 14, 3) := by decide +kernel
theorem dX2_fitsSeen_41 : decode cX2_fitsSeen 41 = .ok (.invokevirtual 134, 3) := by decide +kernel
theorem dX2_fitsSeen_44 : decode cX2_fitsSeen 44 = .ok (.pop, 1) := by decide +kernel
theorem dX2_fitsSeen_45 : decode cX2_fitsSeen 45 = .ok (.aload_n 0, 1) := by decide +kernel
theorem dX2_fitsSeen_46 : decode cX2_fitsSeen 46 = .ok (.getfield 14, 3) := by decide +kernel
theorem dX2_fitsSeen_49 : decode cX2_fitsSeen 49 = .ok (.getfield 70, 3) := by decide +kernel
theorem dX2_fitsSeen_52 : decode cX2_fitsSeen 52 = .ok (.aload_n 0, 1) := by decide +kernel
theorem dX2_fitsSeen_53 : decode cX2_fitsSeen 53 = .ok (.getfield 32, 3) := by decide +kernel
theorem dX2_fitsSeen_56 : decode cX2_fitsSeen 56 = .ok (.getfield 138, 3) := by decide +kernel
theorem dX2_fitsSeen_59 : decode cX2_fitsSeen 59 = .ok (.iload_n 2, 1) := by decide +kernel
theorem dX2_fitsSeen_60 : decode cX2_fitsSeen 60 = .ok (.iaload, 1) := by decide +kernel
theorem dX2_fitsSeen_61 : decode cX2_fitsSeen 61 = .ok (.if_icmp .eq 5, 3) := by decide +kernel
theorem dX2_fitsSeen_64 : decode cX2_fitsSeen 64 = .ok (.iconst 0, 1) := by decide +kernel
theorem dX2_fitsSeen_65 : decode cX2_fitsSeen 65 = .ok (.ireturn, 1) := by decide +kernel
theorem dX2_fitsSeen_66 : decode cX2_fitsSeen 66 = .ok (.iinc 2 1, 3) := by decide +kernel
theorem dX2_fitsSeen_69 : decode cX2_fitsSeen 69 = .ok (.goto (-67), 3) := by decide +kernel
theorem dX2_fitsSeen_72 : decode cX2_fitsSeen 72 = .ok (.iconst 1, 1) := by decide +kernel
theorem dX2_fitsSeen_73 : decode cX2_fitsSeen 73 = .ok (.ireturn, 1) := by decide +kernel
theorem dX3_init_0 : decode cX3_init 0 = .ok (.aload_n 0, 1) := by decide +kernel
theorem dX3_init_1 : decode cX3_init 1 = .ok (.invokespecial 3, 3) := by decide +kernel
theorem dX3_init_4 : decode cX3_init 4 = .ok (.aload_n 0, 1) := by decide +kernel
theorem dX3_init_5 : decode cX3_init 5 = .ok (.new 9, 3) := by decide +kernel
theorem dX3_init_8 : decode cX3_init 8 = .ok (.dup, 1) := by decide +kernel
theorem dX3_init_9 : decode cX3_init 9 = .ok (.invokespecial 11, 3) := by decide +kernel
theorem dX3_init_12 : decode cX3_init 12 = .ok (.putfield 12, 3) := by decide +kernel
theorem dX3_init_15 : decode cX3_init 15 = .ok (.aload_n 0, 1) := by decide +kernel
theorem dX3_init_16 : decode cX3_init 16 = .ok (.new 18, 3) := by decide +kernel
theorem dX3_init_19 : decode cX3_init 19 = .ok (.dup, 1) := by decide +kernel
theorem dX3_init_20 : decode cX3_init 20 = .ok (.invokespecial 20, 3) := by decide +kernel
theorem dX3_init_23 : decode cX3_init 23 = .ok (.putfield 21, 3) := by decide +kernel
theorem dX3_init_26 : decode cX3_init 26 = .ok (.aload_n 0, 1) := by decide +kernel
theorem dX3_init_27 : decode cX3_init 27 = .ok (.aconst_null, 1) := by decide +kernel
theorem dX3_init_28 : decode cX3_init 28 = .ok (.putfield 25, 3) := by decide +kernel
theorem dX3_init_31 : decode cX3_init 31 = .ok (.aload_n 0, 1) := by decide +kernel
theorem dX3_init_32 : decode cX3_init 32 = .ok (.aload_n 1, 1) := by decide +kernel
theorem dX3_init_33 : decode cX3_init 33 = .ok (.putfield 29, 3) := by decide +kernel
theorem dX3_init_36 : decode cX3_init 36 = .ok (.return_, 1) := by decide +kernel
theorem dX3_slicesAt_0 : decode cX3_slicesAt 0 = .ok (.aload_n 0, 1) := by decide +kernel
theorem dX3_slicesAt_1 : decode cX3_slicesAt 1 = .ok (.getfield 25, 3) := by decide +kernel
theorem dX3_slicesAt_4 : decode cX3_slicesAt 4 = .ok (.ifnull 13, 3) := by decide +kernel
theorem dX3_slicesAt_7 : decode cX3_slicesAt 7 = .ok (.aload_n 0, 1) := by decide +kernel
theorem dX3_slicesAt_8 : decode cX3_slicesAt 8 = .ok (.getfield 25, 3) := by decide +kernel
theorem dX3_slicesAt_11 : decode cX3_slicesAt 11 = .ok (.invokevirtual 33, 3) := by decide +kernel
theorem dX3_slicesAt_14 : decode cX3_slicesAt 14 = .ok (.ifCond .ne 6, 3) := by decide +kernel
theorem dX3_slicesAt_17 : decode cX3_slicesAt 17 = .ok (.bipush 12, 2) := by decide +kernel
theorem dX3_slicesAt_19 : decode cX3_slicesAt 19 = .ok (.ireturn, 1) := by decide +kernel
theorem dX3_slicesAt_20 : decode cX3_slicesAt 20 = .ok (.aload_n 0, 1) := by decide +kernel
theorem dX3_slicesAt_21 : decode cX3_slicesAt 21 = .ok (.getfield 21, 3) := by decide +kernel
theorem dX3_slicesAt_24 : decode cX3_slicesAt 24 = .ok (.iload_n 2, 1) := by decide +kernel
theorem dX3_slicesAt_25 : decode cX3_slicesAt 25 = .ok (.iload_n 1, 1) := by decide +kernel
theorem dX3_slicesAt_26 : decode cX3_slicesAt 26 = .ok (.iload_n 3, 1) := by decide +kernel
theorem dX3_slicesAt_27 : decode cX3_slicesAt 27 = .ok (.invokevirtual 39, 3) := by decide +kernel
theorem dX3_slicesAt_30 : decode cX3_slicesAt 30 = .ok (.iconst 1, 1) := by decide +kernel
theorem dX3_slicesAt_31 : decode cX3_slicesAt 31 = .ok (.bipush 60, 2) := by decide +kernel
theorem dX3_slicesAt_33 : decode cX3_slicesAt 33 = .ok (.aload_n 0, 1) := by decide +kernel
theorem dX3_slicesAt_34 : decode cX3_slicesAt 34 = .ok (.getfield 21, 3) := by decide +kernel
theorem dX3_slicesAt_37 : decode cX3_slicesAt 37 = .ok (.aload_n 0, 1) := by decide +kernel
theorem dX3_slicesAt_38 : decode cX3_slicesAt 38 = .ok (.getfield 25, 3) := by decide +kernel
theorem dX3_slicesAt_41 : decode cX3_slicesAt 41 = .ok (.aload_n 0, 1) := by decide +kernel
theorem dX3_slicesAt_42 : decode cX3_slicesAt 42 = .ok (.getfield 25, 3) := by decide +kernel
theorem dX3_slicesAt_45 : decode cX3_slicesAt 45 = .ok (.getfield 43, 3) := by decide +kernel
theorem dX3_slicesAt_48 : decode cX3_slicesAt 48 = .ok (.aload_n 0, 1) := by decide +kernel
theorem dX3_slicesAt_49 : decode cX3_slicesAt 49 = .ok (.getfield 25, 3) := by decide +kernel
theorem dX3_slicesAt_52 : decode cX3_slicesAt 52 = .ok (.getfield 47, 3) := by decide +kernel
theorem dX3_slicesAt_55 : decode cX3_slicesAt 55 = .ok (.invokevirtual 50, 3) := by decide +kernel
theorem dX3_slicesAt_58 : decode cX3_slicesAt 58 = .ok (.invokestatic 54, 3) := by decide +kernel
theorem dX3_slicesAt_61 : decode cX3_slicesAt 61 = .ok (.invokestatic 60, 3) := by decide +kernel
theorem dX3_slicesAt_64 : decode cX3_slicesAt 64 = .ok (.ireturn, 1) := by decide +kernel
theorem dX3_eatenBy_0 : decode cX3_eatenBy 0 = .ok (.aload_n 2, 1) := by decide +kernel
theorem dX3_eatenBy_1 : decode cX3_eatenBy 1 = .ok (.getfield 63, 3) := by decide +kernel
theorem dX3_eatenBy_4 : decode cX3_eatenBy 4 = .ok (.istore_n 3, 1) := by decide +kernel
theorem dX3_eatenBy_5 : decode cX3_eatenBy 5 = .ok (.aload_n 0, 1) := by decide +kernel
theorem dX3_eatenBy_6 : decode cX3_eatenBy 6 = .ok (.getfield 25, 3) := by decide +kernel
theorem dX3_eatenBy_9 : decode cX3_eatenBy 9 = .ok (.ifnull 17, 3) := by decide +kernel
theorem dX3_eatenBy_12 : decode cX3_eatenBy 12 = .ok (.aload_n 0, 1) := by decide +kernel
theorem dX3_eatenBy_13 : decode cX3_eatenBy 13 = .ok (.getfield 25, 3) := by decide +kernel
theorem dX3_eatenBy_16 : decode cX3_eatenBy 16 = .ok (.invokevirtual 66, 3) := by decide +kernel
theorem dX3_eatenBy_19 : decode cX3_eatenBy 19 = .ok (.ifCond .eq 7, 3) := by decide +kernel
theorem dX3_eatenBy_22 : decode cX3_eatenBy 22 = .ok (.iconst 1, 1) := by decide +kernel
theorem dX3_eatenBy_23 : decode cX3_eatenBy 23 = .ok (.goto 4, 3) := by decide +kernel
theorem dX3_eatenBy_26 : decode cX3_eatenBy 26 = .ok (.iconst 0, 1) := by decide +kernel
theorem dX3_eatenBy_27 : decode cX3_eatenBy 27 = .ok (.istore 4, 2) := by decide +kernel
theorem dX3_eatenBy_29 : decode cX3_eatenBy 29 = .ok (.aload_n 0, 1) := by decide +kernel
theorem dX3_eatenBy_30 : decode cX3_eatenBy 30 = .ok (.getfield 21, 3) := by decide +kernel
theorem dX3_eatenBy_33 : decode cX3_eatenBy 33 = .ok (.aload_n 2, 1) := by decide +kernel
theorem dX3_eatenBy_34 : decode cX3_eatenBy 34 = .ok (.getfield 69, 3) := by decide +kernel
theorem dX3_eatenBy_37 : decode cX3_eatenBy 37 = .ok (.aload_n 2, 1) := by decide +kernel
theorem dX3_eatenBy_38 : decode cX3_eatenBy 38 = .ok (.getfield 72, 3) := by decide +kernel
theorem dX3_eatenBy_41 : decode cX3_eatenBy 41 = .ok (.aload_n 2, 1) := by decide +kernel
theorem dX3_eatenBy_42 : decode cX3_eatenBy 42 = .ok (.getfield 75, 3) := by decide +kernel
theorem dX3_eatenBy_45 : decode cX3_eatenBy 45 = .ok (.invokevirtual 39, 3) := by decide +kernel
theorem dX3_eatenBy_48 : decode cX3_eatenBy 48 = .ok (.iconst 0, 1) := by decide +kernel
theorem dX3_eatenBy_49 : decode cX3_eatenBy 49 = .ok (.istore 5, 2) := by decide +kernel
theorem dX3_eatenBy_51 : decode cX3_eatenBy 51 = .ok (.iload 5, 2) := by decide +kernel
theorem dX3_eatenBy_53 : decode cX3_eatenBy 53 = .ok (.bipush 6, 2) := by decide +kernel
theorem dX3_eatenBy_55 : decode cX3_eatenBy 55 = .ok (.if_icmp .ge 106, 3) := by decide +kernel
theorem dX3_eatenBy_58 : decode cX3_eatenBy 58 = .ok (.iload_n 1, 1) := by decide +kernel
theorem dX3_eatenBy_59 : decode cX3_eatenBy 59 = .ok (.iload 5, 2) := by decide +kernel
theorem dX3_eatenBy_61 : decode cX3_eatenBy 61 = .ok (.ishr, 1) := by decide +kernel
theorem dX3_eatenBy_62 : decode cX3_eatenBy 62 = .ok (.iconst 1, 1) := by decide +kernel
theorem dX3_eatenBy_63 : decode cX3_eatenBy 63 = .ok (.iand, 1) := by decide +kernel
theorem dX3_eatenBy_64 : decode cX3_eatenBy 64 = .ok (.ifCond .ne 6, 3) := by decide +kernel
theorem dX3_eatenBy_67 : decode cX3_eatenBy 67 = .ok (.goto 88, 3) := by decide +kernel
theorem dX3_eatenBy_70 : decode cX3_eatenBy 70 = .ok (.aload_n 0, 1) := by decide +kernel
theorem dX3_eatenBy_71 : decode cX3_eatenBy 71 = .ok (.getfield 29, 3) := by decide +kernel
theorem dX3_eatenBy_74 : decode cX3_eatenBy 74 = .ok (.iload 5, 2) := by decide +kernel
theorem dX3_eatenBy_76 : decode cX3_eatenBy 76 = .ok (.invokevirtual 78, 3) := by decide +kernel
theorem dX3_eatenBy_79 : decode cX3_eatenBy 79 = .ok (.istore 6, 2) := by decide +kernel
theorem dX3_eatenBy_81 : decode cX3_eatenBy 81 = .ok (.iload 4, 2) := by decide +kernel
theorem dX3_eatenBy_83 : decode cX3_eatenBy 83 = .ok (.ifCond .eq 54, 3) := by decide +kernel
theorem dX3_eatenBy_86 : decode cX3_eatenBy 86 = .ok (.aload_n 0, 1) := by decide +kernel
theorem dX3_eatenBy_87 : decode cX3_eatenBy 87 = .ok (.getfield 21, 3) := by decide +kernel
theorem dX3_eatenBy_90 : decode cX3_eatenBy 90 = .ok (.iload 5, 2) := by decide +kernel
theorem dX3_eatenBy_92 : decode cX3_eatenBy 92 = .ok (.iload 6, 2) := by decide +kernel
theorem dX3_eatenBy_94 : decode cX3_eatenBy 94 = .ok (.aload_n 2, 1) := by decide +kernel
theorem dX3_eatenBy_95 : decode cX3_eatenBy 95 = .ok (.getfield 63, 3) := by decide +kernel
theorem dX3_eatenBy_98 : decode cX3_eatenBy 98 = .ok (.invokevirtual 84, 3) := by decide +kernel
theorem dX3_eatenBy_101 : decode cX3_eatenBy 101 = .ok (.iconst 0, 1) := by decide +kernel
theorem dX3_eatenBy_102 : decode cX3_eatenBy 102 = .ok (.bipush 9, 2) := by decide +kernel
theorem dX3_eatenBy_104 : decode cX3_eatenBy 104 = .ok (.aload_n 0, 1) := by decide +kernel
theorem dX3_eatenBy_105 : decode cX3_eatenBy 105 = .ok (.getfield 21, 3) := by decide +kernel
theorem dX3_eatenBy_108 : decode cX3_eatenBy 108 = .ok (.aload_n 0, 1) := by decide +kernel
theorem dX3_eatenBy_109 : decode cX3_eatenBy 109 = .ok (.getfield 25, 3) := by decide +kernel
theorem dX3_eatenBy_112 : decode cX3_eatenBy 112 = .ok (.aload_n 0, 1) := by decide +kernel
theorem dX3_eatenBy_113 : decode cX3_eatenBy 113 = .ok (.getfield 25, 3) := by decide +kernel
theorem dX3_eatenBy_116 : decode cX3_eatenBy 116 = .ok (.getfield 87, 3) := by decide +kernel
theorem dX3_eatenBy_119 : decode cX3_eatenBy 119 = .ok (.aload_n 0, 1) := by decide +kernel
theorem dX3_eatenBy_120 : decode cX3_eatenBy 120 = .ok (.getfield 25, 3) := by decide +kernel
theorem dX3_eatenBy_123 : decode cX3_eatenBy 123 = .ok (.getfield 90, 3) := by decide +kernel
theorem dX3_eatenBy_126 : decode cX3_eatenBy 126 = .ok (.invokevirtual 50, 3) := by decide +kernel
theorem dX3_eatenBy_129 : decode cX3_eatenBy 129 = .ok (.invokestatic 54, 3) := by decide +kernel
theorem dX3_eatenBy_132 : decode cX3_eatenBy 132 = .ok (.invokestatic 60, 3) := by decide +kernel
theorem dX3_eatenBy_135 : decode cX3_eatenBy 135 = .ok (.istore 6, 2) := by decide +kernel
theorem dX3_eatenBy_137 : decode cX3_eatenBy 137 = .ok (.aload_n 2, 1) := by decide +kernel
theorem dX3_eatenBy_138 : decode cX3_eatenBy 138 = .ok (.dup, 1) := by decide +kernel
theorem dX3_eatenBy_139 : decode cX3_eatenBy 139 = .ok (.getfield 63, 3) := by decide +kernel
theorem dX3_eatenBy_142 : decode cX3_eatenBy 142 = .ok (.iload 6, 2) := by decide +kernel
theorem dX3_eatenBy_144 : decode cX3_eatenBy 144 = .ok (.aload_n 2, 1) := by decide +kernel
theorem dX3_eatenBy_145 : decode cX3_eatenBy 145 = .ok (.getfield 63, 3) := by decide +kernel
theorem dX3_eatenBy_148 : decode cX3_eatenBy 148 = .ok (.invokestatic 54, 3) := by decide +kernel
theorem dX3_eatenBy_151 : decode cX3_eatenBy 151 = .ok (.isub, 1) := by decide +kernel
theorem dX3_eatenBy_152 : decode cX3_eatenBy 152 = .ok (.putfield 63, 3) := by decide +kernel
theorem dX3_eatenBy_155 : decode cX3_eatenBy 155 = .ok (.iinc 5 1, 3) := by decide +kernel
theorem dX3_eatenBy_158 : decode cX3_eatenBy 158 = .ok (.goto (-107), 3) := by decide +kernel
theorem dX3_eatenBy_161 : decode cX3_eatenBy 161 = .ok (.iload_n 3, 1) := by decide +kernel
theorem dX3_eatenBy_162 : decode cX3_eatenBy 162 = .ok (.aload_n 2, 1) := by decide +kernel
theorem dX3_eatenBy_163 : decode cX3_eatenBy 163 = .ok (.getfield 63, 3) := by decide +kernel
theorem dX3_eatenBy_166 : decode cX3_eatenBy 166 = .ok (.isub, 1) := by decide +kernel
theorem dX3_eatenBy_167 : decode cX3_eatenBy 167 = .ok (.ireturn, 1) := by decide +kernel
theorem dX3_dawnAt_0 : decode cX3_dawnAt 0 = .ok (.aload_n 1, 1) := by decide +kernel
theorem dX3_dawnAt_1 : decode cX3_dawnAt 1 = .ok (.dup, 1) := by decide +kernel
theorem dX3_dawnAt_2 : decode cX3_dawnAt 2 = .ok (.getfield 75, 3) := by decide +kernel
theorem dX3_dawnAt_5 : decode cX3_dawnAt 5 = .ok (.iconst 1, 1) := by decide +kernel
theorem dX3_dawnAt_6 : decode cX3_dawnAt 6 = .ok (.iadd, 1) := by decide +kernel
theorem dX3_dawnAt_7 : decode cX3_dawnAt 7 = .ok (.putfield 75, 3) := by decide +kernel
theorem dX3_dawnAt_10 : decode cX3_dawnAt 10 = .ok (.aload_n 1, 1) := by decide +kernel
theorem dX3_dawnAt_11 : decode cX3_dawnAt 11 = .ok (.getfield 63, 3) := by decide +kernel
theorem dX3_dawnAt_14 : decode cX3_dawnAt 14 = .ok (.ifCond .ne 50, 3) := by decide +kernel
theorem dX3_dawnAt_17 : decode cX3_dawnAt 17 = .ok (.aload_n 1, 1) := by decide +kernel
theorem dX3_dawnAt_18 : decode cX3_dawnAt 18 = .ok (.getfield 93, 3) := by decide +kernel
theorem dX3_dawnAt_21 : decode cX3_dawnAt 21 = .ok (.ifCond .ne 43, 3) := by decide +kernel
theorem dX3_dawnAt_24 : decode cX3_dawnAt 24 = .ok (.aload_n 1, 1) := by decide +kernel
theorem dX3_dawnAt_25 : decode cX3_dawnAt 25 = .ok (.getfield 69, 3) := by decide +kernel
theorem dX3_dawnAt_28 : decode cX3_dawnAt 28 = .ok (.sipush 999, 3) := by decide +kernel
theorem dX3_dawnAt_31 : decode cX3_dawnAt 31 = .ok (.if_icmp .ge 33, 3) := by decide +kernel
theorem dX3_dawnAt_34 : decode cX3_dawnAt 34 = .ok (.aload_n 1, 1) := by decide +kernel
theorem dX3_dawnAt_35 : decode cX3_dawnAt 35 = .ok (.dup, 1) := by decide +kernel
theorem dX3_dawnAt_36 : decode cX3_dawnAt 36 = .ok (.getfield 69, 3) := by decide +kernel
theorem dX3_dawnAt_39 : decode cX3_dawnAt 39 = .ok (.iconst 1, 1) := by decide +kernel
theorem dX3_dawnAt_40 : decode cX3_dawnAt 40 = .ok (.iadd, 1) := by decide +kernel
theorem dX3_dawnAt_41 : decode cX3_dawnAt 41 = .ok (.putfield 69, 3) := by decide +kernel
theorem dX3_dawnAt_44 : decode cX3_dawnAt 44 = .ok (.aload_n 1, 1) := by decide +kernel
theorem dX3_dawnAt_45 : decode cX3_dawnAt 45 = .ok (.aload_n 0, 1) := by decide +kernel
theorem dX3_dawnAt_46 : decode cX3_dawnAt 46 = .ok (.aload_n 1, 1) := by decide +kernel
theorem dX3_dawnAt_47 : decode cX3_dawnAt 47 = .ok (.getfield 72, 3) := by decide +kernel
theorem dX3_dawnAt_50 : decode cX3_dawnAt 50 = .ok (.aload_n 1, 1) := by decide +kernel
theorem dX3_dawnAt_51 : decode cX3_dawnAt 51 = .ok (.getfield 69, 3) := by decide +kernel
theorem dX3_dawnAt_54 : decode cX3_dawnAt 54 = .ok (.aload_n 1, 1) := by decide +kernel
theorem dX3_dawnAt_55 : decode cX3_dawnAt 55 = .ok (.getfield 75, 3) := by decide +kernel
theorem dX3_dawnAt_58 : decode cX3_dawnAt 58 = .ok (.invokevirtual 96, 3) := by decide +kernel
theorem dX3_dawnAt_61 : decode cX3_dawnAt 61 = .ok (.putfield 63, 3) := by decide +kernel
theorem dX3_dawnAt_64 : decode cX3_dawnAt 64 = .ok (.aload_n 0, 1) := by decide +kernel
theorem dX3_dawnAt_65 : decode cX3_dawnAt 65 = .ok (.iload_n 2, 1) := by decide +kernel
theorem dX3_dawnAt_66 : decode cX3_dawnAt 66 = .ok (.aload_n 1, 1) := by decide +kernel
theorem dX3_dawnAt_67 : decode cX3_dawnAt 67 = .ok (.invokevirtual 100, 3) := by decide +kernel
theorem dX3_dawnAt_70 : decode cX3_dawnAt 70 = .ok (.ireturn, 1) := by decide +kernel
theorem dX3_dawnForAll_0 : decode cX3_dawnForAll 0 = .ok (.aload_n 0, 1) := by decide +kernel
theorem dX3_dawnForAll_1 : decode cX3_dawnForAll 1 = .ok (.getfield 29, 3) := by decide +kernel
theorem dX3_dawnForAll_4 : decode cX3_dawnForAll 4 = .ok (.invokevirtual 104, 3) := by decide +kernel
theorem dX3_dawnForAll_7 : decode cX3_dawnForAll 7 = .ok (.iconst 0, 1) := by decide +kernel
theorem dX3_dawnForAll_8 : decode cX3_dawnForAll 8 = .ok (.istore_n 1, 1) := by decide +kernel
theorem dX3_dawnForAll_9 : decode cX3_dawnForAll 9 = .ok (.aload_n 0, 1) := by decide +kernel
theorem dX3_dawnForAll_10 : decode cX3_dawnForAll 10 = .ok (.getfield 29, 3) := by decide +kernel
theorem dX3_dawnForAll_13 : decode cX3_dawnForAll 13 = .ok (.bipush 12, 2) := by decide +kernel
theorem dX3_dawnForAll_15 : decode cX3_dawnForAll 15 = .ok (.invokevirtual 107, 3) := by decide +kernel
theorem dX3_dawnForAll_18 : decode cX3_dawnForAll 18 = .ok (.istore_n 2, 1) := by decide +kernel
theorem dX3_dawnForAll_19 : decode cX3_dawnForAll 19 = .ok (.iconst 0, 1) := by decide +kernel
theorem dX3_dawnForAll_20 : decode cX3_dawnForAll 20 = .ok (.istore_n 3, 1) := by decide +kernel
theorem dX3_dawnForAll_21 : decode cX3_dawnForAll 21 = .ok (.iload_n 3, 1) := by decide +kernel
theorem dX3_dawnForAll_22 : decode cX3_dawnForAll 22 = .ok (.iconst 2, 1) := by decide +kernel
theorem dX3_dawnForAll_23 : decode cX3_dawnForAll 23 = .ok (.if_icmp .ge 96, 3) := by decide +kernel
theorem dX3_dawnForAll_26 : decode cX3_dawnForAll 26 = .ok (.aload_n 0, 1) := by decide +kernel
theorem dX3_dawnForAll_27 : decode cX3_dawnForAll 27 = .ok (.getfield 12, 3) := by decide +kernel
theorem dX3_dawnForAll_30 : decode cX3_dawnForAll 30 = .ok (.aload_n 0, 1) := by decide +kernel
theorem dX3_dawnForAll_31 : decode cX3_dawnForAll 31 = .ok (.getfield 29, 3) := by decide +kernel
theorem dX3_dawnForAll_34 : decode cX3_dawnForAll 34 = .ok (.iload_n 3, 1) := by decide +kernel
theorem dX3_dawnForAll_35 : decode cX3_dawnForAll 35 = .ok (.invokevirtual 110, 3) := by decide +kernel
theorem dX3_dawnForAll_38 : decode cX3_dawnForAll 38 = .ok (.iload_n 1, 1) := by decide +kernel
theorem dX3_dawnForAll_39 : decode cX3_dawnForAll 39 = .ok (.aload_n 0, 1) := by decide +kernel
theorem dX3_dawnForAll_40 : decode cX3_dawnForAll 40 = .ok (.aload_n 0, 1) := by decide +kernel
theorem dX3_dawnForAll_41 : decode cX3_dawnForAll 41 = .ok (.getfield 12, 3) := by decide +kernel
theorem dX3_dawnForAll_44 : decode cX3_dawnForAll 44 = .ok (.aload_n 0, 1) := by decide +kernel
theorem dX3_dawnForAll_45 : decode cX3_dawnForAll 45 = .ok (.getfield 29, 3) := by decide +kernel
theorem dX3_dawnForAll_48 : decode cX3_dawnForAll 48 = .ok (.iload_n 3, 1) := by decide +kernel
theorem dX3_dawnForAll_49 : decode cX3_dawnForAll 49 = .ok (.invokevirtual 114, 3) := by decide +kernel
theorem dX3_dawnForAll_52 : decode cX3_dawnForAll 52 = .ok (.invokevirtual 117, 3) := by decide +kernel
theorem dX3_dawnForAll_55 : decode cX3_dawnForAll 55 = .ok (.iadd, 1) := by decide +kernel
theorem dX3_dawnForAll_56 : decode cX3_dawnForAll 56 = .ok (.istore_n 1, 1) := by decide +kernel
theorem dX3_dawnForAll_57 : decode cX3_dawnForAll 57 = .ok (.aload_n 0, 1) := by decide +kernel
theorem dX3_dawnForAll_58 : decode cX3_dawnForAll 58 = .ok (.invokevirtual 121, 3) := by decide +kernel
theorem dX3_dawnForAll_61 : decode cX3_dawnForAll 61 = .ok (.ifCond .eq 16, 3) := by decide +kernel
theorem dX3_dawnForAll_64 : decode cX3_dawnForAll 64 = .ok (.aload_n 0, 1) := by decide +kernel
theorem dX3_dawnForAll_65 : decode cX3_dawnForAll 65 = .ok (.getfield 12, 3) := by decide +kernel
theorem dX3_dawnForAll_68 : decode cX3_dawnForAll 68 = .ok (.invokevirtual 124, 3) := by decide +kernel
theorem dX3_dawnForAll_71 : decode cX3_dawnForAll 71 = .ok (.ifCond .eq 6, 3) := by decide +kernel
theorem dX3_dawnForAll_74 : decode cX3_dawnForAll 74 = .ok (.iinc 1 1, 3) := by decide +kernel
theorem dX3_dawnForAll_77 : decode cX3_dawnForAll 77 = .ok (.aload_n 0, 1) := by decide +kernel
theorem dX3_dawnForAll_78 : decode cX3_dawnForAll 78 = .ok (.getfield 29, 3) := by decide +kernel
theorem dX3_dawnForAll_81 : decode cX3_dawnForAll 81 = .ok (.iload_n 3, 1) := by decide +kernel
theorem dX3_dawnForAll_82 : decode cX3_dawnForAll 82 = .ok (.invokestatic 127, 3) := by decide +kernel
theorem dX3_dawnForAll_85 : decode cX3_dawnForAll 85 = .ok (.aload_n 0, 1) := by decide +kernel
theorem dX3_dawnForAll_86 : decode cX3_dawnForAll 86 = .ok (.getfield 12, 3) := by decide +kernel
theorem dX3_dawnForAll_89 : decode cX3_dawnForAll 89 = .ok (.getfield 69, 3) := by decide +kernel
theorem dX3_dawnForAll_92 : decode cX3_dawnForAll 92 = .ok (.invokevirtual 130, 3) := by decide +kernel
theorem dX3_dawnForAll_95 : decode cX3_dawnForAll 95 = .ok (.aload_n 0, 1) := by decide +kernel
theorem dX3_dawnForAll_96 : decode cX3_dawnForAll 96 = .ok (.getfield 29, 3) := by decide +kernel
theorem dX3_dawnForAll_99 : decode cX3_dawnForAll 99 = .ok (.iload_n 3, 1) := by decide +kernel
theorem dX3_dawnForAll_100 : decode cX3_dawnForAll 100 = .ok (.invokestatic 134, 3) := by decide +kernel
theorem dX3_dawnForAll_103 : decode cX3_dawnForAll 103 = .ok (.aload_n 0, 1) := by decide +kernel
theorem dX3_dawnForAll_104 : decode cX3_dawnForAll 104 = .ok (.getfield 12, 3) := by decide +kernel
theorem dX3_dawnForAll_107 : decode cX3_dawnForAll 107 = .ok (.getfield 63, 3) := by decide +kernel
theorem dX3_dawnForAll_110 : decode cX3_dawnForAll 110 = .ok (.invokevirtual 130, 3) := by decide +kernel
theorem dX3_dawnForAll_113 : decode cX3_dawnForAll 113 = .ok (.iinc 3 1, 3) := by decide +kernel
theorem dX3_dawnForAll_116 : decode cX3_dawnForAll 116 = .ok (.goto (-95), 3) := by decide +kernel
theorem dX3_dawnForAll_119 : decode cX3_dawnForAll 119 = .ok (.aload_n 0, 1) := by decide +kernel
theorem dX3_dawnForAll_120 : decode cX3_dawnForAll 120 = .ok (.getfield 29, 3) := by decide +kernel
theorem dX3_dawnForAll_123 : decode cX3_dawnForAll 123 = .ok (.bipush 12, 2) := by decide +kernel
theorem dX3_dawnForAll_125 : decode cX3_dawnForAll 125 = .ok (.iload_n 2, 1) := by decide +kernel
theorem dX3_dawnForAll_126 : decode cX3_dawnForAll 126 = .ok (.iconst 1, 1) := by decide +kernel
theorem dX3_dawnForAll_127 : decode cX3_dawnForAll 127 = .ok (.iadd, 1) := by decide +kernel
theorem dX3_dawnForAll_128 : decode cX3_dawnForAll 128 = .ok (.invokevirtual 130, 3) := by decide +kernel
theorem dX3_dawnForAll_131 : decode cX3_dawnForAll 131 = .ok (.iload_n 1, 1) := by decide +kernel
theorem dX3_dawnForAll_132 : decode cX3_dawnForAll 132 = .ok (.ireturn, 1) := by decide +kernel
theorem dX3_drawnForMice_0 : decode cX3_drawnForMice 0 = .ok (.aload_n 0, 1) := by decide +kernel
theorem dX3_drawnForMice_1 : decode cX3_drawnForMice 1 = .ok (.getfield 29, 3) := by decide +kernel
theorem dX3_drawnForMice_4 : decode cX3_drawnForMice 4 = .ok (.bipush 13, 2) := by decide +kernel
theorem dX3_drawnForMice_6 : decode cX3_drawnForMice 6 = .ok (.invokevirtual 107, 3) := by decide +kernel
theorem dX3_drawnForMice_9 : decode cX3_drawnForMice 9 = .ok (.istore_n 1, 1) := by decide +kernel
theorem dX3_drawnForMice_10 : decode cX3_drawnForMice 10 = .ok (.aload_n 0, 1) := by decide +kernel
theorem dX3_drawnForMice_11 : decode cX3_drawnForMice 11 = .ok (.getfield 29, 3) := by decide +kernel
theorem dX3_drawnForMice_14 : decode cX3_drawnForMice 14 = .ok (.bipush 13, 2) := by decide +kernel
theorem dX3_drawnForMice_16 : decode cX3_drawnForMice 16 = .ok (.iload_n 1, 1) := by decide +kernel
theorem dX3_drawnForMice_17 : decode cX3_drawnForMice 17 = .ok (.sipush 173, 3) := by decide +kernel
theorem dX3_drawnForMice_20 : decode cX3_drawnForMice 20 = .ok (.imul, 1) := by decide +kernel
theorem dX3_drawnForMice_21 : decode cX3_drawnForMice 21 = .ok (.bipush 79, 2) := by decide +kernel
theorem dX3_drawnForMice_23 : decode cX3_drawnForMice 23 = .ok (.iadd, 1) := by decide +kernel
theorem dX3_drawnForMice_24 : decode cX3_drawnForMice 24 = .ok (.sipush 30089, 3) := by decide +kernel
theorem dX3_drawnForMice_27 : decode cX3_drawnForMice 27 = .ok (.irem, 1) := by decide +kernel
theorem dX3_drawnForMice_28 : decode cX3_drawnForMice 28 = .ok (.invokevirtual 130, 3) := by decide +kernel
theorem dX3_drawnForMice_31 : decode cX3_drawnForMice 31 = .ok (.iload_n 1, 1) := by decide +kernel
theorem dX3_drawnForMice_32 : decode cX3_drawnForMice 32 = .ok (.bipush 10, 2) := by decide +kernel
theorem dX3_drawnForMice_34 : decode cX3_drawnForMice 34 = .ok (.irem, 1) := by decide +kernel
theorem dX3_drawnForMice_35 : decode cX3_drawnForMice 35 = .ok (.aload_n 0, 1) := by decide +kernel
theorem dX3_drawnForMice_36 : decode cX3_drawnForMice 36 = .ok (.getfield 29, 3) := by decide +kernel
theorem dX3_drawnForMice_39 : decode cX3_drawnForMice 39 = .ok (.getfield 137, 3) := by decide +kernel
theorem dX3_drawnForMice_42 : decode cX3_drawnForMice 42 = .ok (.if_icmp .ge 7, 3) := by decide +kernel
theorem dX3_drawnForMice_45 : decode cX3_drawnForMice 45 = .ok (.iconst 1, 1) := by decide +kernel
theorem dX3_drawnForMice_46 : decode cX3_drawnForMice 46 = .ok (.goto 4, 3) := by decide +kernel
theorem dX3_drawnForMice_49 : decode cX3_drawnForMice 49 = .ok (.iconst 0, 1) := by decide +kernel
theorem dX3_drawnForMice_50 : decode cX3_drawnForMice 50 = .ok (.ireturn, 1) := by decide +kernel
theorem dX3_wouldEat_0 : decode cX3_wouldEat 0 = .ok (.aload_n 0, 1) := by decide +kernel
theorem dX3_wouldEat_1 : decode cX3_wouldEat 1 = .ok (.getfield 29, 3) := by decide +kernel
theorem dX3_wouldEat_4 : decode cX3_wouldEat 4 = .ok (.iload_n 1, 1) := by decide +kernel
theorem dX3_wouldEat_5 : decode cX3_wouldEat 5 = .ok (.invokevirtual 140, 3) := by decide +kernel
theorem dX3_wouldEat_8 : decode cX3_wouldEat 8 = .ok (.istore_n 2, 1) := by decide +kernel
theorem dX3_wouldEat_9 : decode cX3_wouldEat 9 = .ok (.iload_n 2, 1) := by decide +kernel
theorem dX3_wouldEat_10 : decode cX3_wouldEat 10 = .ok (.iconst 2, 1) := by decide +kernel
theorem dX3_wouldEat_11 : decode cX3_wouldEat 11 = .ok (.if_icmp .ne 5, 3) := by decide +kernel
theorem dX3_wouldEat_14 : decode cX3_wouldEat 14 = .ok (.iconst 0, 1) := by decide +kernel
theorem dX3_wouldEat_15 : decode cX3_wouldEat 15 = .ok (.ireturn, 1) := by decide +kernel
theorem dX3_wouldEat_16 : decode cX3_wouldEat 16 = .ok (.aload_n 0, 1) := by decide +kernel
theorem dX3_wouldEat_17 : decode cX3_wouldEat 17 = .ok (.getfield 12, 3) := by decide +kernel
theorem dX3_wouldEat_20 : decode cX3_wouldEat 20 = .ok (.aload_n 0, 1) := by decide +kernel
theorem dX3_wouldEat_21 : decode cX3_wouldEat 21 = .ok (.getfield 29, 3) := by decide +kernel
theorem dX3_wouldEat_24 : decode cX3_wouldEat 24 = .ok (.iload_n 2, 1) := by decide +kernel
theorem dX3_wouldEat_25 : decode cX3_wouldEat 25 = .ok (.invokevirtual 110, 3) := by decide +kernel
theorem dX3_wouldEat_28 : decode cX3_wouldEat 28 = .ok (.aload_n 0, 1) := by decide +kernel
theorem dX3_wouldEat_29 : decode cX3_wouldEat 29 = .ok (.iconst 1, 1) := by decide +kernel
theorem dX3_wouldEat_30 : decode cX3_wouldEat 30 = .ok (.iload_n 1, 1) := by decide +kernel
theorem dX3_wouldEat_31 : decode cX3_wouldEat 31 = .ok (.ishl, 1) := by decide +kernel
theorem dX3_wouldEat_32 : decode cX3_wouldEat 32 = .ok (.aload_n 0, 1) := by decide +kernel
theorem dX3_wouldEat_33 : decode cX3_wouldEat 33 = .ok (.getfield 12, 3) := by decide +kernel
theorem dX3_wouldEat_36 : decode cX3_wouldEat 36 = .ok (.invokevirtual 100, 3) := by decide +kernel
theorem dX3_wouldEat_39 : decode cX3_wouldEat 39 = .ok (.ireturn, 1) := by decide +kernel
theorem dX4_init_0 : decode cX4_init 0 = .ok (.aload_n 0, 1) := by decide +kernel
theorem dX4_init_1 : decode cX4_init 1 = .ok (.invokespecial 3, 3) := by decide +kernel
theorem dX4_init_4 : decode cX4_init 4 = .ok (.aload_n 0, 1) := by decide +kernel
theorem dX4_init_5 : decode cX4_init 5 = .ok (.aconst_null, 1) := by decide +kernel
theorem dX4_init_6 : decode cX4_init 6 = .ok (.putfield 9, 3) := by decide +kernel
theorem dX4_init_9 : decode cX4_init 9 = .ok (.aload_n 0, 1) := by decide +kernel
theorem dX4_init_10 : decode cX4_init 10 = .ok (.iconst 0, 1) := by decide +kernel
theorem dX4_init_11 : decode cX4_init 11 = .ok (.putfield 15, 3) := by decide +kernel
theorem dX4_init_14 : decode cX4_init 14 = .ok (.aload_n 0, 1) := by decide +kernel
theorem dX4_init_15 : decode cX4_init 15 = .ok (.iconst 0, 1) := by decide +kernel
theorem dX4_init_16 : decode cX4_init 16 = .ok (.putfield 19, 3) := by decide +kernel
theorem dX4_init_19 : decode cX4_init 19 = .ok (.aload_n 0, 1) := by decide +kernel
theorem dX4_init_20 : decode cX4_init 20 = .ok (.iconst 0, 1) := by decide +kernel
theorem dX4_init_21 : decode cX4_init 21 = .ok (.putfield 22, 3) := by decide +kernel
theorem dX4_init_24 : decode cX4_init 24 = .ok (.aload_n 0, 1) := by decide +kernel
theorem dX4_init_25 : decode cX4_init 25 = .ok (.iconst (-1), 1) := by decide +kernel
theorem dX4_init_26 : decode cX4_init 26 = .ok (.putfield 26, 3) := by decide +kernel
theorem dX4_init_29 : decode cX4_init 29 = .ok (.aload_n 0, 1) := by decide +kernel
theorem dX4_init_30 : decode cX4_init 30 = .ok (.aload_n 1, 1) := by decide +kernel
theorem dX4_init_31 : decode cX4_init 31 = .ok (.putfield 29, 3) := by decide +kernel
theorem dX4_init_34 : decode cX4_init 34 = .ok (.return_, 1) := by decide +kernel
theorem dX4_parse_0 : decode cX4_parse 0 = .ok (.aload_n 1, 1) := by decide +kernel
theorem dX4_parse_1 : decode cX4_parse 1 = .ok (.ifnonnull 5, 3) := by decide +kernel
theorem dX4_parse_4 : decode cX4_parse 4 = .ok (.iconst 0, 1) := by decide +kernel
theorem dX4_parse_5 : decode cX4_parse 5 = .ok (.ireturn, 1) := by decide +kernel
theorem dX4_parse_6 : decode cX4_parse 6 = .ok (.aload_n 0, 1) := by decide +kernel
theorem dX4_parse_7 : decode cX4_parse 7 = .ok (.iconst 1, 1) := by decide +kernel
theorem dX4_parse_8 : decode cX4_parse 8 = .ok (.putfield 19, 3) := by decide +kernel
theorem dX4_parse_11 : decode cX4_parse 11 = .ok (.aload_n 0, 1) := by decide +kernel
theorem dX4_parse_12 : decode cX4_parse 12 = .ok (.iconst 0, 1) := by decide +kernel
theorem dX4_parse_13 : decode cX4_parse 13 = .ok (.putfield 22, 3) := by decide +kernel
theorem dX4_parse_16 : decode cX4_parse 16 = .ok (.aload_n 0, 1) := by decide +kernel
theorem dX4_parse_17 : decode cX4_parse 17 = .ok (.iconst (-1), 1) := by decide +kernel
theorem dX4_parse_18 : decode cX4_parse 18 = .ok (.putfield 26, 3) := by decide +kernel
theorem dX4_parse_21 : decode cX4_parse 21 = .ok (.aload_n 0, 1) := by decide +kernel
theorem dX4_parse_22 : decode cX4_parse 22 = .ok (.aload_n 1, 1) := by decide +kernel
theorem dX4_parse_23 : decode cX4_parse 23 = .ok (.putfield 9, 3) := by decide +kernel
theorem dX4_parse_26 : decode cX4_parse 26 = .ok (.aload_n 0, 1) := by decide +kernel
theorem dX4_parse_27 : decode cX4_parse 27 = .ok (.getfield 9, 3) := by decide +kernel
theorem dX4_parse_30 : decode cX4_parse 30 = .ok (.invokevirtual 33, 3) := by decide +kernel
theorem dX4_parse_33 : decode cX4_parse 33 = .ok (.aload_n 0, 1) := by decide +kernel
theorem dX4_parse_34 : decode cX4_parse 34 = .ok (.getfield 29, 3) := by decide +kernel
theorem dX4_parse_37 : decode cX4_parse 37 = .ok (.invokevirtual 38, 3) := by decide +kernel
theorem dX4_parse_40 : decode cX4_parse 40 = .ok (.iconst 0, 1) := by decide +kernel
theorem dX4_parse_41 : decode cX4_parse 41 = .ok (.istore_n 2, 1) := by decide +kernel
theorem dX4_parse_42 : decode cX4_parse 42 = .ok (.iload_n 2, 1) := by decide +kernel
theorem dX4_parse_43 : decode cX4_parse 43 = .ok (.sipush 300, 3) := by decide +kernel
theorem dX4_parse_46 : decode cX4_parse 46 = .ok (.if_icmp .ge 30, 3) := by decide +kernel
theorem dX4_parse_49 : decode cX4_parse 49 = .ok (.aload_n 0, 1) := by decide +kernel
theorem dX4_parse_50 : decode cX4_parse 50 = .ok (.getfield 22, 3) := by decide +kernel
theorem dX4_parse_53 : decode cX4_parse 53 = .ok (.ifCond .ne 23, 3) := by decide +kernel
theorem dX4_parse_56 : decode cX4_parse 56 = .ok (.aload_n 0, 1) := by decide +kernel
theorem dX4_parse_57 : decode cX4_parse 57 = .ok (.getfield 29, 3) := by decide +kernel
theorem dX4_parse_60 : decode cX4_parse 60 = .ok (.getfield 43, 3) := by decide +kernel
theorem dX4_parse_63 : decode cX4_parse 63 = .ok (.ifCond .eq 13, 3) := by decide +kernel
theorem dX4_parse_66 : decode cX4_parse 66 = .ok (.aload_n 0, 1) := by decide +kernel
theorem dX4_parse_67 : decode cX4_parse 67 = .ok (.invokevirtual 46, 3) := by decide +kernel
theorem dX4_parse_70 : decode cX4_parse 70 = .ok (.iinc 2 1, 3) := by decide +kernel
theorem dX4_parse_73 : decode cX4_parse 73 = .ok (.goto (-31), 3) := by decide +kernel
theorem dX4_parse_76 : decode cX4_parse 76 = .ok (.aload_n 0, 1) := by decide +kernel
theorem dX4_parse_77 : decode cX4_parse 77 = .ok (.getfield 22, 3) := by decide +kernel
theorem dX4_parse_80 : decode cX4_parse 80 = .ok (.ifCond .ne 7, 3) := by decide +kernel
theorem dX4_parse_83 : decode cX4_parse 83 = .ok (.iconst 1, 1) := by decide +kernel
theorem dX4_parse_84 : decode cX4_parse 84 = .ok (.goto 4, 3) := by decide +kernel
theorem dX4_parse_87 : decode cX4_parse 87 = .ok (.iconst 0, 1) := by decide +kernel
theorem dX4_parse_88 : decode cX4_parse 88 = .ok (.ireturn, 1) := by decide +kernel
theorem dX4_fail_0 : decode cX4_fail 0 = .ok (.aload_n 0, 1) := by decide +kernel
theorem dX4_fail_1 : decode cX4_fail 1 = .ok (.getfield 22, 3) := by decide +kernel
theorem dX4_fail_4 : decode cX4_fail 4 = .ok (.ifCond .ne 19, 3) := by decide +kernel
theorem dX4_fail_7 : decode cX4_fail 7 = .ok (.aload_n 0, 1) := by decide +kernel
theorem dX4_fail_8 : decode cX4_fail 8 = .ok (.iload_n 1, 1) := by decide +kernel
theorem dX4_fail_9 : decode cX4_fail 9 = .ok (.putfield 22, 3) := by decide +kernel
theorem dX4_fail_12 : decode cX4_fail 12 = .ok (.aload_n 0, 1) := by decide +kernel
theorem dX4_fail_13 : decode cX4_fail 13 = .ok (.aload_n 0, 1) := by decide +kernel
theorem dX4_fail_14 : decode cX4_fail 14 = .ok (.getfield 29, 3) := by decide +kernel
theorem dX4_fail_17 : decode cX4_fail 17 = .ok (.getfield 49, 3) := by decide +kernel
theorem dX4_fail_20 : decode cX4_fail 20 = .ok (.putfield 26, 3) := by decide +kernel
theorem dX4_fail_23 : decode cX4_fail 23 = .ok (.return_, 1) := by decide +kernel
theorem dX4_take_0 : decode cX4_take 0 = .ok (.aload_n 0, 1) := by decide +kernel
theorem dX4_take_1 : decode cX4_take 1 = .ok (.getfield 22, 3) := by decide +kernel
theorem dX4_take_4 : decode cX4_take 4 = .ok (.ifCond .eq 4, 3) := by decide +kernel
theorem dX4_take_7 : decode cX4_take 7 = .ok (.return_, 1) := by decide +kernel
theorem dX4_take_8 : decode cX4_take 8 = .ok (.aload_n 0, 1) := by decide +kernel
theorem dX4_take_9 : decode cX4_take 9 = .ok (.getfield 29, 3) := by decide +kernel
theorem dX4_take_12 : decode cX4_take 12 = .ok (.getfield 43, 3) := by decide +kernel
theorem dX4_take_15 : decode cX4_take 15 = .ok (.iload_n 1, 1) := by decide +kernel
theorem dX4_take_16 : decode cX4_take 16 = .ok (.if_icmp .ne 13, 3) := by decide +kernel
theorem dX4_take_19 : decode cX4_take 19 = .ok (.aload_n 0, 1) := by decide +kernel
theorem dX4_take_20 : decode cX4_take 20 = .ok (.getfield 29, 3) := by decide +kernel
theorem dX4_take_23 : decode cX4_take 23 = .ok (.invokevirtual 52, 3) := by decide +kernel
theorem dX4_take_26 : decode cX4_take 26 = .ok (.goto 8, 3) := by decide +kernel
theorem dX4_take_29 : decode cX4_take 29 = .ok (.aload_n 0, 1) := by decide +kernel
theorem dX4_take_30 : decode cX4_take 30 = .ok (.iconst 1, 1) := by decide +kernel
theorem dX4_take_31 : decode cX4_take 31 = .ok (.invokevirtual 55, 3) := by decide +kernel
theorem dX4_take_34 : decode cX4_take 34 = .ok (.return_, 1) := by decide +kernel
theorem dX4_takeNumber_0 : decode cX4_takeNumber 0 = .ok (.aload_n 0, 1) := by decide +kernel
theorem dX4_takeNumber_1 : decode cX4_takeNumber 1 = .ok (.getfield 22, 3) := by decide +kernel
theorem dX4_takeNumber_4 : decode cX4_takeNumber 4 = .ok (.ifCond .eq 5, 3) := by decide +kernel
theorem dX4_takeNumber_7 : decode cX4_takeNumber 7 = .ok (.iconst 0, 1) := by decide +kernel
theorem dX4_takeNumber_8 : decode cX4_takeNumber 8 = .ok (.ireturn, 1) := by decide +kernel
theorem dX4_takeNumber_9 : decode cX4_takeNumber 9 = .ok (.aload_n 0, 1) := by decide +kernel
theorem dX4_takeNumber_10 : decode cX4_takeNumber 10 = .ok (.getfield 29, 3) := by decide +kernel
theorem dX4_takeNumber_13 : decode cX4_takeNumber 13 = .ok (.getfield 59, 3) := by decide +kernel
theorem dX4_takeNumber_16 : decode cX4_takeNumber 16 = .ok (.istore_n 3, 1) := by decide +kernel
theorem dX4_takeNumber_17 : decode cX4_takeNumber 17 = .ok (.aload_n 0, 1) := by decide +kernel
theorem dX4_takeNumber_18 : decode cX4_takeNumber 18 = .ok (.getfield 29, 3) := by decide +kernel
theorem dX4_takeNumber_21 : decode cX4_takeNumber 21 = .ok (.getfield 43, 3) := by decide +kernel
theorem dX4_takeNumber_24 : decode cX4_takeNumber 24 = .ok (.iconst 2, 1) := by decide +kernel
theorem dX4_takeNumber_25 : decode cX4_takeNumber 25 = .ok (.if_icmp .eq 11, 3) := by decide +kernel
theorem dX4_takeNumber_28 : decode cX4_takeNumber 28 = .ok (.aload_n 0, 1) := by decide +kernel
theorem dX4_takeNumber_29 : decode cX4_takeNumber 29 = .ok (.iconst 1, 1) := by decide +kernel
theorem dX4_takeNumber_30 : decode cX4_takeNumber 30 = .ok (.invokevirtual 55, 3) := by decide +kernel
theorem dX4_takeNumber_33 : decode cX4_takeNumber 33 = .ok (.goto 28, 3) := by decide +kernel
theorem dX4_takeNumber_36 : decode cX4_takeNumber 36 = .ok (.iload_n 3, 1) := by decide +kernel
theorem dX4_takeNumber_37 : decode cX4_takeNumber 37 = .ok (.iload_n 1, 1) := by decide +kernel
theorem dX4_takeNumber_38 : decode cX4_takeNumber 38 = .ok (.if_icmp .lt 8, 3) := by decide +kernel
theorem dX4_takeNumber_41 : decode cX4_takeNumber 41 = .ok (.iload_n 3, 1) := by decide +kernel
theorem dX4_takeNumber_42 : decode cX4_takeNumber 42 = .ok (.iload_n 2, 1) := by decide +kernel
theorem dX4_takeNumber_43 : decode cX4_takeNumber 43 = .ok (.if_icmp .le 11, 3) := by decide +kernel
theorem dX4_takeNumber_46 : decode cX4_takeNumber 46 = .ok (.aload_n 0, 1) := by decide +kernel
theorem dX4_takeNumber_47 : decode cX4_takeNumber 47 = .ok (.iconst 2, 1) := by decide +kernel
theorem dX4_takeNumber_48 : decode cX4_takeNumber 48 = .ok (.invokevirtual 55, 3) := by decide +kernel
theorem dX4_takeNumber_51 : decode cX4_takeNumber 51 = .ok (.goto 10, 3) := by decide +kernel
theorem dX4_takeNumber_54 : decode cX4_takeNumber 54 = .ok (.aload_n 0, 1) := by decide +kernel
theorem dX4_takeNumber_55 : decode cX4_takeNumber 55 = .ok (.getfield 29, 3) := by decide +kernel
theorem dX4_takeNumber_58 : decode cX4_takeNumber 58 = .ok (.invokevirtual 52, 3) := by decide +kernel
theorem dX4_takeNumber_61 : decode cX4_takeNumber 61 = .ok (.iload_n 3, 1) := by decide +kernel
theorem dX4_takeNumber_62 : decode cX4_takeNumber 62 = .ok (.ireturn, 1) := by decide +kernel
theorem dX4_readClause_0 : decode cX4_readClause 0 = .ok (.aload_n 0, 1) := by decide +kernel
theorem dX4_readClause_1 : decode cX4_readClause 1 = .ok (.getfield 29, 3) := by decide +kernel
theorem dX4_readClause_4 : decode cX4_readClause 4 = .ok (.getfield 43, 3) := by decide +kernel
theorem dX4_readClause_7 : decode cX4_readClause 7 = .ok (.istore_n 1, 1) := by decide +kernel
theorem dX4_readClause_8 : decode cX4_readClause 8 = .ok (.iload_n 1, 1) := by decide +kernel
theorem dX4_readClause_9 : decode cX4_readClause 9 = .ok (.sipush 200, 3) := by decide +kernel
theorem dX4_readClause_12 : decode cX4_readClause 12 = .ok (.if_icmp .lt 10, 3) := by decide +kernel
theorem dX4_readClause_15 : decode cX4_readClause 15 = .ok (.iload_n 1, 1) := by decide +kernel
theorem dX4_readClause_16 : decode cX4_readClause 16 = .ok (.sipush 205, 3) := by decide +kernel
theorem dX4_readClause_19 : decode cX4_readClause 19 = .ok (.if_icmp .le 11, 3) := by decide +kernel
theorem dX4_readClause_22 : decode cX4_readClause 22 = .ok (.aload_n 0, 1) := by decide +kernel
theorem dX4_readClause_23 : decode cX4_readClause 23 = .ok (.iconst 1, 1) := by decide +kernel
theorem dX4_readClause_24 : decode cX4_readClause 24 = .ok (.invokevirtual 55, 3) := by decide +kernel
theorem dX4_readClause_27 : decode cX4_readClause 27 = .ok (.goto 139, 3) := by decide +kernel
theorem dX4_readClause_30 : decode cX4_readClause 30 = .ok (.iload_n 1, 1) := by decide +kernel
theorem dX4_readClause_31 : decode cX4_readClause 31 = .ok (.sipush 200, 3) := by decide +kernel
theorem dX4_readClause_34 : decode cX4_readClause 34 = .ok (.if_icmp .ne 13, 3) := by decide +kernel
theorem dX4_readClause_37 : decode cX4_readClause 37 = .ok (.aload_n 0, 1) := by decide +kernel
theorem dX4_readClause_38 : decode cX4_readClause 38 = .ok (.getfield 9, 3) := by decide +kernel
theorem dX4_readClause_41 : decode cX4_readClause 41 = .ok (.invokevirtual 62, 3) := by decide +kernel
theorem dX4_readClause_44 : decode cX4_readClause 44 = .ok (.ifCond .ne 20, 3) := by decide +kernel
theorem dX4_readClause_47 : decode cX4_readClause 47 = .ok (.iload_n 1, 1) := by decide +kernel
theorem dX4_readClause_48 : decode cX4_readClause 48 = .ok (.sipush 201, 3) := by decide +kernel
theorem dX4_readClause_51 : decode cX4_readClause 51 = .ok (.if_icmp .ne 21, 3) := by decide +kernel
theorem dX4_readClause_54 : decode cX4_readClause 54 = .ok (.aload_n 0, 1) := by decide +kernel
theorem dX4_readClause_55 : decode cX4_readClause 55 = .ok (.getfield 9, 3) := by decide +kernel
theorem dX4_readClause_58 : decode cX4_readClause 58 = .ok (.invokevirtual 66, 3) := by decide +kernel
theorem dX4_readClause_61 : decode cX4_readClause 61 = .ok (.ifCond .eq 11, 3) := by decide +kernel
theorem dX4_readClause_64 : decode cX4_readClause 64 = .ok (.aload_n 0, 1) := by decide +kernel
theorem dX4_readClause_65 : decode cX4_readClause 65 = .ok (.iconst 4, 1) := by decide +kernel
theorem dX4_readClause_66 : decode cX4_readClause 66 = .ok (.invokevirtual 55, 3) := by decide +kernel
theorem dX4_readClause_69 : decode cX4_readClause 69 = .ok (.goto 97, 3) := by decide +kernel
theorem dX4_readClause_72 : decode cX4_readClause 72 = .ok (.aload_n 0, 1) := by decide +kernel
theorem dX4_readClause_73 : decode cX4_readClause 73 = .ok (.getfield 9, 3) := by decide +kernel
theorem dX4_readClause_76 : decode cX4_readClause 76 = .ok (.getfield 69, 3) := by decide +kernel
theorem dX4_readClause_79 : decode cX4_readClause 79 = .ok (.bipush 24, 2) := by decide +kernel
theorem dX4_readClause_81 : decode cX4_readClause 81 = .ok (.if_icmp .lt 12, 3) := by decide +kernel
theorem dX4_readClause_84 : decode cX4_readClause 84 = .ok (.aload_n 0, 1) := by decide +kernel
theorem dX4_readClause_85 : decode cX4_readClause 85 = .ok (.bipush 6, 2) := by decide +kernel
theorem dX4_readClause_87 : decode cX4_readClause 87 = .ok (.invokevirtual 55, 3) := by decide +kernel
theorem dX4_readClause_90 : decode cX4_readClause 90 = .ok (.goto 76, 3) := by decide +kernel
theorem dX4_readClause_93 : decode cX4_readClause 93 = .ok (.aload_n 0, 1) := by decide +kernel
theorem dX4_readClause_94 : decode cX4_readClause 94 = .ok (.getfield 29, 3) := by decide +kernel
theorem dX4_readClause_97 : decode cX4_readClause 97 = .ok (.invokevirtual 52, 3) := by decide +kernel
theorem dX4_readClause_100 : decode cX4_readClause 100 = .ok (.iload_n 1, 1) := by decide +kernel
theorem dX4_readClause_101 : decode cX4_readClause 101 = .ok (.sipush 200, 3) := by decide +kernel
theorem dX4_readClause_104 : decode cX4_readClause 104 = .ok (.if_icmp .eq 10, 3) := by decide +kernel
theorem dX4_readClause_107 : decode cX4_readClause 107 = .ok (.iload_n 1, 1) := by decide +kernel
theorem dX4_readClause_108 : decode cX4_readClause 108 = .ok (.sipush 201, 3) := by decide +kernel
theorem dX4_readClause_111 : decode cX4_readClause 111 = .ok (.if_icmp .ne 44, 3) := by decide +kernel
theorem dX4_readClause_114 : decode cX4_readClause 114 = .ok (.aload_n 0, 1) := by decide +kernel
theorem dX4_readClause_115 : decode cX4_readClause 115 = .ok (.getfield 9, 3) := by decide +kernel
theorem dX4_readClause_118 : decode cX4_readClause 118 = .ok (.getfield 72, 3) := by decide +kernel
theorem dX4_readClause_121 : decode cX4_readClause 121 = .ok (.istore_n 2, 1) := by decide +kernel
theorem dX4_readClause_122 : decode cX4_readClause 122 = .ok (.aload_n 0, 1) := by decide +kernel
theorem dX4_readClause_123 : decode cX4_readClause 123 = .ok (.iload_n 1, 1) := by decide +kernel
theorem dX4_readClause_124 : decode cX4_readClause 124 = .ok (.sipush 201, 3) := by decide +kernel
theorem dX4_readClause_127 : decode cX4_readClause 127 = .ok (.if_icmp .ne 7, 3) := by decide +kernel
theorem dX4_readClause_130 : decode cX4_readClause 130 = .ok (.iconst 1, 1) := by decide +kernel
theorem dX4_readClause_131 : decode cX4_readClause 131 = .ok (.goto 4, 3) := by decide +kernel
theorem dX4_readClause_134 : decode cX4_readClause 134 = .ok (.iconst 0, 1) := by decide +kernel
theorem dX4_readClause_135 : decode cX4_readClause 135 = .ok (.putfield 15, 3) := by decide +kernel
theorem dX4_readClause_138 : decode cX4_readClause 138 = .ok (.aload_n 0, 1) := by decide +kernel
theorem dX4_readClause_139 : decode cX4_readClause 139 = .ok (.iconst 0, 1) := by decide +kernel
theorem dX4_readClause_140 : decode cX4_readClause 140 = .ok (.invokevirtual 75, 3) := by decide +kernel
theorem dX4_readClause_143 : decode cX4_readClause 143 = .ok (.aload_n 0, 1) := by decide +kernel
theorem dX4_readClause_144 : decode cX4_readClause 144 = .ok (.getfield 9, 3) := by decide +kernel
theorem dX4_readClause_147 : decode cX4_readClause 147 = .ok (.iload_n 1, 1) := by decide +kernel
theorem dX4_readClause_148 : decode cX4_readClause 148 = .ok (.iload_n 2, 1) := by decide +kernel
theorem dX4_readClause_149 : decode cX4_readClause 149 = .ok (.invokevirtual 78, 3) := by decide +kernel
theorem dX4_readClause_152 : decode cX4_readClause 152 = .ok (.goto 8, 3) := by decide +kernel
theorem dX4_readClause_155 : decode cX4_readClause 155 = .ok (.aload_n 0, 1) := by decide +kernel
theorem dX4_readClause_156 : decode cX4_readClause 156 = .ok (.iload_n 1, 1) := by decide +kernel
theorem dX4_readClause_157 : decode cX4_readClause 157 = .ok (.invokevirtual 82, 3) := by decide +kernel
theorem dX4_readClause_160 : decode cX4_readClause 160 = .ok (.aload_n 0, 1) := by decide +kernel
theorem dX4_readClause_161 : decode cX4_readClause 161 = .ok (.bipush 59, 2) := by decide +kernel
theorem dX4_readClause_163 : decode cX4_readClause 163 = .ok (.invokevirtual 85, 3) := by decide +kernel
theorem dX4_readClause_166 : decode cX4_readClause 166 = .ok (.return_, 1) := by decide +kernel
theorem dX4_readOrder_0 : decode cX4_readOrder 0 = .ok (.iload_n 1, 1) := by decide +kernel
theorem dX4_readOrder_1 : decode cX4_readOrder 1 = .ok (.sipush 205, 3) := by decide +kernel
theorem dX4_readOrder_4 : decode cX4_readOrder 4 = .ok (.if_icmp .ne 20, 3) := by decide +kernel
theorem dX4_readOrder_7 : decode cX4_readOrder 7 = .ok (.aload_n 0, 1) := by decide +kernel
theorem dX4_readOrder_8 : decode cX4_readOrder 8 = .ok (.getfield 9, 3) := by decide +kernel
theorem dX4_readOrder_11 : decode cX4_readOrder 11 = .ok (.iload_n 1, 1) := by decide +kernel
theorem dX4_readOrder_12 : decode cX4_readOrder 12 = .ok (.aload_n 0, 1) := by decide +kernel
theorem dX4_readOrder_13 : decode cX4_readOrder 13 = .ok (.iconst 1, 1) := by decide +kernel
theorem dX4_readOrder_14 : decode cX4_readOrder 14 = .ok (.bipush 99, 2) := by decide +kernel
theorem dX4_readOrder_16 : decode cX4_readOrder 16 = .ok (.invokevirtual 88, 3) := by decide +kernel
theorem dX4_readOrder_19 : decode cX4_readOrder 19 = .ok (.iconst 0, 1) := by decide +kernel
theorem dX4_readOrder_20 : decode cX4_readOrder 20 = .ok (.invokevirtual 92, 3) := by decide +kernel
theorem dX4_readOrder_23 : decode cX4_readOrder 23 = .ok (.return_, 1) := by decide +kernel
theorem dX4_readOrder_24 : decode cX4_readOrder 24 = .ok (.iload_n 1, 1) := by decide +kernel
theorem dX4_readOrder_25 : decode cX4_readOrder 25 = .ok (.sipush 202, 3) := by decide +kernel
theorem dX4_readOrder_28 : decode cX4_readOrder 28 = .ok (.if_icmp .ne 7, 3) := by decide +kernel
theorem dX4_readOrder_31 : decode cX4_readOrder 31 = .ok (.iconst 1, 1) := by decide +kernel
theorem dX4_readOrder_32 : decode cX4_readOrder 32 = .ok (.goto 4, 3) := by decide +kernel
theorem dX4_readOrder_35 : decode cX4_readOrder 35 = .ok (.iconst 0, 1) := by decide +kernel
theorem dX4_readOrder_36 : decode cX4_readOrder 36 = .ok (.istore_n 2, 1) := by decide +kernel
theorem dX4_readOrder_37 : decode cX4_readOrder 37 = .ok (.iload_n 2, 1) := by decide +kernel
theorem dX4_readOrder_38 : decode cX4_readOrder 38 = .ok (.ifCond .eq 12, 3) := by decide +kernel
theorem dX4_readOrder_41 : decode cX4_readOrder 41 = .ok (.aload_n 0, 1) := by decide +kernel
theorem dX4_readOrder_42 : decode cX4_readOrder 42 = .ok (.iconst 0, 1) := by decide +kernel
theorem dX4_readOrder_43 : decode cX4_readOrder 43 = .ok (.iconst 5, 1) := by decide +kernel
theorem dX4_readOrder_44 : decode cX4_readOrder 44 = .ok (.invokevirtual 88, 3) := by decide +kernel
theorem dX4_readOrder_47 : decode cX4_readOrder 47 = .ok (.goto 10, 3) := by decide +kernel
theorem dX4_readOrder_50 : decode cX4_readOrder 50 = .ok (.aload_n 0, 1) := by decide +kernel
theorem dX4_readOrder_51 : decode cX4_readOrder 51 = .ok (.iconst 1, 1) := by decide +kernel
theorem dX4_readOrder_52 : decode cX4_readOrder 52 = .ok (.bipush 9, 2) := by decide +kernel
theorem dX4_readOrder_54 : decode cX4_readOrder 54 = .ok (.invokevirtual 88, 3) := by decide +kernel
theorem dX4_readOrder_57 : decode cX4_readOrder 57 = .ok (.istore_n 3, 1) := by decide +kernel
theorem dX4_readOrder_58 : decode cX4_readOrder 58 = .ok (.aload_n 0, 1) := by decide +kernel
theorem dX4_readOrder_59 : decode cX4_readOrder 59 = .ok (.sipush 206, 3) := by decide +kernel
theorem dX4_readOrder_62 : decode cX4_readOrder 62 = .ok (.invokevirtual 85, 3) := by decide +kernel
theorem dX4_readOrder_65 : decode cX4_readOrder 65 = .ok (.aload_n 0, 1) := by decide +kernel
theorem dX4_readOrder_66 : decode cX4_readOrder 66 = .ok (.iconst 0, 1) := by decide +kernel
theorem dX4_readOrder_67 : decode cX4_readOrder 67 = .ok (.iload_n 2, 1) := by decide +kernel
theorem dX4_readOrder_68 : decode cX4_readOrder 68 = .ok (.ifCond .eq 7, 3) := by decide +kernel
theorem dX4_readOrder_71 : decode cX4_readOrder 71 = .ok (.iconst 2, 1) := by decide +kernel
theorem dX4_readOrder_72 : decode cX4_readOrder 72 = .ok (.goto 4, 3) := by decide +kernel
theorem dX4_readOrder_75 : decode cX4_readOrder 75 = .ok (.iconst 1, 1) := by decide +kernel
theorem dX4_readOrder_76 : decode cX4_readOrder 76 = .ok (.invokevirtual 88, 3) := by decide +kernel
theorem dX4_readOrder_79 : decode cX4_readOrder 79 = .ok (.istore 4, 2) := by decide +kernel
theorem dX4_readOrder_81 : decode cX4_readOrder 81 = .ok (.aload_n 0, 1) := by decide +kernel
theorem dX4_readOrder_82 : decode cX4_readOrder 82 = .ok (.getfield 9, 3) := by decide +kernel
theorem dX4_readOrder_85 : decode cX4_readOrder 85 = .ok (.iload_n 1, 1) := by decide +kernel
theorem dX4_readOrder_86 : decode cX4_readOrder 86 = .ok (.iload_n 3, 1) := by decide +kernel
theorem dX4_readOrder_87 : decode cX4_readOrder 87 = .ok (.iload 4, 2) := by decide +kernel
theorem dX4_readOrder_89 : decode cX4_readOrder 89 = .ok (.invokevirtual 92, 3) := by decide +kernel
theorem dX4_readOrder_92 : decode cX4_readOrder 92 = .ok (.return_, 1) := by decide +kernel
theorem dX4_readSum_0 : decode cX4_readSum 0 = .ok (.aload_n 0, 1) := by decide +kernel
theorem dX4_readSum_1 : decode cX4_readSum 1 = .ok (.iload_n 1, 1) := by decide +kernel
theorem dX4_readSum_2 : decode cX4_readSum 2 = .ok (.invokevirtual 96, 3) := by decide +kernel
theorem dX4_readSum_5 : decode cX4_readSum 5 = .ok (.iconst 0, 1) := by decide +kernel
theorem dX4_readSum_6 : decode cX4_readSum 6 = .ok (.istore_n 2, 1) := by decide +kernel
theorem dX4_readSum_7 : decode cX4_readSum 7 = .ok (.iload_n 2, 1) := by decide +kernel
theorem dX4_readSum_8 : decode cX4_readSum 8 = .ok (.sipush 300, 3) := by decide +kernel
theorem dX4_readSum_11 : decode cX4_readSum 11 = .ok (.if_icmp .ge 81, 3) := by decide +kernel
theorem dX4_readSum_14 : decode cX4_readSum 14 = .ok (.aload_n 0, 1) := by decide +kernel
theorem dX4_readSum_15 : decode cX4_readSum 15 = .ok (.getfield 22, 3) := by decide +kernel
theorem dX4_readSum_18 : decode cX4_readSum 18 = .ok (.ifCond .ne 74, 3) := by decide +kernel
theorem dX4_readSum_21 : decode cX4_readSum 21 = .ok (.aload_n 0, 1) := by decide +kernel
theorem dX4_readSum_22 : decode cX4_readSum 22 = .ok (.getfield 29, 3) := by decide +kernel
theorem dX4_readSum_25 : decode cX4_readSum 25 = .ok (.getfield 43, 3) := by decide +kernel
theorem dX4_readSum_28 : decode cX4_readSum 28 = .ok (.bipush 43, 2) := by decide +kernel
theorem dX4_readSum_30 : decode cX4_readSum 30 = .ok (.if_icmp .eq 15, 3) := by decide +kernel
theorem dX4_readSum_33 : decode cX4_readSum 33 = .ok (.aload_n 0, 1) := by decide +kernel
theorem dX4_readSum_34 : decode cX4_readSum 34 = .ok (.getfield 29, 3) := by decide +kernel
theorem dX4_readSum_37 : decode cX4_readSum 37 = .ok (.getfield 43, 3) := by decide +kernel
theorem dX4_readSum_40 : decode cX4_readSum 40 = .ok (.bipush 45, 2) := by decide +kernel
theorem dX4_readSum_42 : decode cX4_readSum 42 = .ok (.if_icmp .ne 50, 3) := by decide +kernel
theorem dX4_readSum_45 : decode cX4_readSum 45 = .ok (.aload_n 0, 1) := by decide +kernel
theorem dX4_readSum_46 : decode cX4_readSum 46 = .ok (.getfield 29, 3) := by decide +kernel
theorem dX4_readSum_49 : decode cX4_readSum 49 = .ok (.getfield 43, 3) := by decide +kernel
theorem dX4_readSum_52 : decode cX4_readSum 52 = .ok (.bipush 43, 2) := by decide +kernel
theorem dX4_readSum_54 : decode cX4_readSum 54 = .ok (.if_icmp .ne 8, 3) := by decide +kernel
theorem dX4_readSum_57 : decode cX4_readSum 57 = .ok (.bipush 6, 2) := by decide +kernel
theorem dX4_readSum_59 : decode cX4_readSum 59 = .ok (.goto 5, 3) := by decide +kernel
theorem dX4_readSum_62 : decode cX4_readSum 62 = .ok (.bipush 7, 2) := by decide +kernel
theorem dX4_readSum_64 : decode cX4_readSum 64 = .ok (.istore_n 3, 1) := by decide +kernel
theorem dX4_readSum_65 : decode cX4_readSum 65 = .ok (.aload_n 0, 1) := by decide +kernel
theorem dX4_readSum_66 : decode cX4_readSum 66 = .ok (.getfield 29, 3) := by decide +kernel
theorem dX4_readSum_69 : decode cX4_readSum 69 = .ok (.invokevirtual 52, 3) := by decide +kernel
theorem dX4_readSum_72 : decode cX4_readSum 72 = .ok (.aload_n 0, 1) := by decide +kernel
theorem dX4_readSum_73 : decode cX4_readSum 73 = .ok (.iload_n 1, 1) := by decide +kernel
theorem dX4_readSum_74 : decode cX4_readSum 74 = .ok (.invokevirtual 96, 3) := by decide +kernel
theorem dX4_readSum_77 : decode cX4_readSum 77 = .ok (.aload_n 0, 1) := by decide +kernel
theorem dX4_readSum_78 : decode cX4_readSum 78 = .ok (.getfield 9, 3) := by decide +kernel
theorem dX4_readSum_81 : decode cX4_readSum 81 = .ok (.iload_n 3, 1) := by decide +kernel
theorem dX4_readSum_82 : decode cX4_readSum 82 = .ok (.iconst 0, 1) := by decide +kernel
theorem dX4_readSum_83 : decode cX4_readSum 83 = .ok (.invokevirtual 101, 3) := by decide +kernel
theorem dX4_readSum_86 : decode cX4_readSum 86 = .ok (.iinc 2 1, 3) := by decide +kernel
theorem dX4_readSum_89 : decode cX4_readSum 89 = .ok (.goto (-82), 3) := by decide +kernel
theorem dX4_readSum_92 : decode cX4_readSum 92 = .ok (.return_, 1) := by decide +kernel
theorem dX4_readProduct_0 : decode cX4_readProduct 0 = .ok (.aload_n 0, 1) := by decide +kernel
theorem dX4_readProduct_1 : decode cX4_readProduct 1 = .ok (.iload_n 1, 1) := by decide +kernel
theorem dX4_readProduct_2 : decode cX4_readProduct 2 = .ok (.invokevirtual 104, 3) := by decide +kernel
theorem dX4_readProduct_5 : decode cX4_readProduct 5 = .ok (.iconst 0, 1) := by decide +kernel
theorem dX4_readProduct_6 : decode cX4_readProduct 6 = .ok (.istore_n 2, 1) := by decide +kernel
theorem dX4_readProduct_7 : decode cX4_readProduct 7 = .ok (.iload_n 2, 1) := by decide +kernel
theorem dX4_readProduct_8 : decode cX4_readProduct 8 = .ok (.sipush 300, 3) := by decide +kernel
theorem dX4_readProduct_11 : decode cX4_readProduct 11 = .ok (.if_icmp .ge 81, 3) := by decide +kernel
theorem dX4_readProduct_14 : decode cX4_readProduct 14 = .ok (.aload_n 0, 1) := by decide +kernel
theorem dX4_readProduct_15 : decode cX4_readProduct 15 = .ok (.getfield 22, 3) := by decide +kernel
theorem dX4_readProduct_18 : decode cX4_readProduct 18 = .ok (.ifCond .ne 74, 3) := by decide +kernel
theorem dX4_readProduct_21 : decode cX4_readProduct 21 = .ok (.aload_n 0, 1) := by decide +kernel
theorem dX4_readProduct_22 : decode cX4_readProduct 22 = .ok (.getfield 29, 3) := by decide +kernel
theorem dX4_readProduct_25 : decode cX4_readProduct 25 = .ok (.getfield 43, 3) := by decide +kernel
theorem dX4_readProduct_28 : decode cX4_readProduct 28 = .ok (.bipush 42, 2) := by decide +kernel
theorem dX4_readProduct_30 : decode cX4_readProduct 30 = .ok (.if_icmp .eq 15, 3) := by decide +kernel
theorem dX4_readProduct_33 : decode cX4_readProduct 33 = .ok (.aload_n 0, 1) := by decide +kernel
theorem dX4_readProduct_34 : decode cX4_readProduct 34 = .ok (.getfield 29, 3) := by decide +kernel
theorem dX4_readProduct_37 : decode cX4_readProduct 37 = .ok (.getfield 43, 3) := by decide +kernel
theorem dX4_readProduct_40 : decode cX4_readProduct 40 = .ok (.bipush 47, 2) := by decide +kernel
theorem dX4_readProduct_42 : decode cX4_readProduct 42 = .ok (.if_icmp .ne 50, 3) := by decide +kernel
theorem dX4_readProduct_45 : decode cX4_readProduct 45 = .ok (.aload_n 0, 1) := by decide +kernel
theorem dX4_readProduct_46 : decode cX4_readProduct 46 = .ok (.getfield 29, 3) := by decide +kernel
theorem dX4_readProduct_49 : decode cX4_readProduct 49 = .ok (.getfield 43, 3) := by decide +kernel
theorem dX4_readProduct_52 : decode cX4_readProduct 52 = .ok (.bipush 42, 2) := by decide +kernel
theorem dX4_readProduct_54 : decode cX4_readProduct 54 = .ok (.if_icmp .ne 8, 3) := by decide +kernel
theorem dX4_readProduct_57 : decode cX4_readProduct 57 = .ok (.bipush 8, 2) := by decide +kernel
theorem dX4_readProduct_59 : decode cX4_readProduct 59 = .ok (.goto 5, 3) := by decide +kernel
theorem dX4_readProduct_62 : decode cX4_readProduct 62 = .ok (.bipush 9, 2) := by decide +kernel
theorem dX4_readProduct_64 : decode cX4_readProduct 64 = .ok (.istore_n 3, 1) := by decide +kernel
theorem dX4_readProduct_65 : decode cX4_readProduct 65 = .ok (.aload_n 0, 1) := by decide +kernel
theorem dX4_readProduct_66 : decode cX4_readProduct 66 = .ok (.getfield 29, 3) := by decide +kernel
theorem dX4_readProduct_69 : decode cX4_readProduct 69 = .ok (.invokevirtual 52, 3) := by decide +kernel
theorem dX4_readProduct_72 : decode cX4_readProduct 72 = .ok (.aload_n 0, 1) := by decide +kernel
theorem dX4_readProduct_73 : decode cX4_readProduct 73 = .ok (.iload_n 1, 1) := by decide +kernel
theorem dX4_readProduct_74 : decode cX4_readProduct 74 = .ok (.invokevirtual 104, 3) := by decide +kernel
theorem dX4_readProduct_77 : decode cX4_readProduct 77 = .ok (.aload_n 0, 1) := by decide +kernel
theorem dX4_readProduct_78 : decode cX4_readProduct 78 = .ok (.getfield 9, 3) := by decide +kernel
theorem dX4_readProduct_81 : decode cX4_readProduct 81 = .ok (.iload_n 3, 1) := by decide +kernel
theorem dX4_readProduct_82 : decode cX4_readProduct 82 = .ok (.iconst 0, 1) := by decide +kernel
theorem dX4_readProduct_83 : decode cX4_readProduct 83 = .ok (.invokevirtual 101, 3) := by decide +kernel
theorem dX4_readProduct_86 : decode cX4_readProduct 86 = .ok (.iinc 2 1, 3) := by decide +kernel
theorem dX4_readProduct_89 : decode cX4_readProduct 89 = .ok (.goto (-82), 3) := by decide +kernel
theorem dX4_readProduct_92 : decode cX4_readProduct 92 = .ok (.return_, 1) := by decide +kernel
theorem dX4_readOne_0 : decode cX4_readOne 0 = .ok (.aload_n 0, 1) := by decide +kernel
theorem dX4_readOne_1 : decode cX4_readOne 1 = .ok (.getfield 22, 3) := by decide +kernel
theorem dX4_readOne_4 : decode cX4_readOne 4 = .ok (.ifCond .eq 4, 3) := by decide +kernel
theorem dX4_readOne_7 : decode cX4_readOne 7 = .ok (.return_, 1) := by decide +kernel
theorem dX4_readOne_8 : decode cX4_readOne 8 = .ok (.aload_n 0, 1) := by decide +kernel
theorem dX4_readOne_9 : decode cX4_readOne 9 = .ok (.getfield 29, 3) := by decide +kernel
theorem dX4_readOne_12 : decode cX4_readOne 12 = .ok (.getfield 43, 3) := by decide +kernel
theorem dX4_readOne_15 : decode cX4_readOne 15 = .ok (.istore_n 2, 1) := by decide +kernel
theorem dX4_readOne_16 : decode cX4_readOne 16 = .ok (.iload_n 2, 1) := by decide +kernel
theorem dX4_readOne_17 : decode cX4_readOne 17 = .ok (.iconst 2, 1) := by decide +kernel
theorem dX4_readOne_18 : decode cX4_readOne 18 = .ok (.if_icmp .ne 22, 3) := by decide +kernel
theorem dX4_readOne_21 : decode cX4_readOne 21 = .ok (.aload_n 0, 1) := by decide +kernel
theorem dX4_readOne_22 : decode cX4_readOne 22 = .ok (.getfield 9, 3) := by decide +kernel
theorem dX4_readOne_25 : decode cX4_readOne 25 = .ok (.iconst 0, 1) := by decide +kernel
theorem dX4_readOne_26 : decode cX4_readOne 26 = .ok (.aload_n 0, 1) := by decide +kernel
theorem dX4_readOne_27 : decode cX4_readOne 27 = .ok (.iconst 0, 1) := by decide +kernel
theorem dX4_readOne_28 : decode cX4_readOne 28 = .ok (.sipush 9999, 3) := by decide +kernel
theorem dX4_readOne_31 : decode cX4_readOne 31 = .ok (.invokevirtual 88, 3) := by decide +kernel
theorem dX4_readOne_34 : decode cX4_readOne 34 = .ok (.invokevirtual 101, 3) := by decide +kernel
theorem dX4_readOne_37 : decode cX4_readOne 37 = .ok (.goto 114, 3) := by decide +kernel
theorem dX4_readOne_40 : decode cX4_readOne 40 = .ok (.iload_n 2, 1) := by decide +kernel
theorem dX4_readOne_41 : decode cX4_readOne 41 = .ok (.sipush 212, 3) := by decide +kernel
theorem dX4_readOne_44 : decode cX4_readOne 44 = .ok (.if_icmp .lt 18, 3) := by decide +kernel
theorem dX4_readOne_47 : decode cX4_readOne 47 = .ok (.iload_n 2, 1) := by decide +kernel
theorem dX4_readOne_48 : decode cX4_readOne 48 = .ok (.sipush 217, 3) := by decide +kernel
theorem dX4_readOne_51 : decode cX4_readOne 51 = .ok (.if_icmp .gt 11, 3) := by decide +kernel
theorem dX4_readOne_54 : decode cX4_readOne 54 = .ok (.aload_n 0, 1) := by decide +kernel
theorem dX4_readOne_55 : decode cX4_readOne 55 = .ok (.iload_n 2, 1) := by decide +kernel
theorem dX4_readOne_56 : decode cX4_readOne 56 = .ok (.invokevirtual 107, 3) := by decide +kernel
theorem dX4_readOne_59 : decode cX4_readOne 59 = .ok (.goto 92, 3) := by decide +kernel
theorem dX4_readOne_62 : decode cX4_readOne 62 = .ok (.iload_n 2, 1) := by decide +kernel
theorem dX4_readOne_63 : decode cX4_readOne 63 = .ok (.bipush 40, 2) := by decide +kernel
theorem dX4_readOne_65 : decode cX4_readOne 65 = .ok (.if_icmp .eq 24, 3) := by decide +kernel
theorem dX4_readOne_68 : decode cX4_readOne 68 = .ok (.iload_n 2, 1) := by decide +kernel
theorem dX4_readOne_69 : decode cX4_readOne 69 = .ok (.bipush 45, 2) := by decide +kernel
theorem dX4_readOne_71 : decode cX4_readOne 71 = .ok (.if_icmp .eq 18, 3) := by decide +kernel
theorem dX4_readOne_74 : decode cX4_readOne 74 = .ok (.iload_n 2, 1) := by decide +kernel
theorem dX4_readOne_75 : decode cX4_readOne 75 = .ok (.sipush 207, 3) := by decide +kernel
theorem dX4_readOne_78 : decode cX4_readOne 78 = .ok (.if_icmp .eq 11, 3) := by decide +kernel
theorem dX4_readOne_81 : decode cX4_readOne 81 = .ok (.aload_n 0, 1) := by decide +kernel
theorem dX4_readOne_82 : decode cX4_readOne 82 = .ok (.iconst 1, 1) := by decide +kernel
theorem dX4_readOne_83 : decode cX4_readOne 83 = .ok (.invokevirtual 55, 3) := by decide +kernel
theorem dX4_readOne_86 : decode cX4_readOne 86 = .ok (.goto 65, 3) := by decide +kernel
theorem dX4_readOne_89 : decode cX4_readOne 89 = .ok (.aload_n 0, 1) := by decide +kernel
theorem dX4_readOne_90 : decode cX4_readOne 90 = .ok (.iload_n 1, 1) := by decide +kernel
theorem dX4_readOne_91 : decode cX4_readOne 91 = .ok (.invokevirtual 110, 3) := by decide +kernel
theorem dX4_readOne_94 : decode cX4_readOne 94 = .ok (.ifCond .eq 57, 3) := by decide +kernel
theorem dX4_readOne_97 : decode cX4_readOne 97 = .ok (.iload_n 2, 1) := by decide +kernel
theorem dX4_readOne_98 : decode cX4_readOne 98 = .ok (.bipush 40, 2) := by decide +kernel
theorem dX4_readOne_100 : decode cX4_readOne 100 = .ok (.if_icmp .ne 19, 3) := by decide +kernel
theorem dX4_readOne_103 : decode cX4_readOne 103 = .ok (.aload_n 0, 1) := by decide +kernel
theorem dX4_readOne_104 : decode cX4_readOne 104 = .ok (.iload_n 1, 1) := by decide +kernel
theorem dX4_readOne_105 : decode cX4_readOne 105 = .ok (.iconst 1, 1) := by decide +kernel
theorem dX4_readOne_106 : decode cX4_readOne 106 = .ok (.iadd, 1) := by decide +kernel
theorem dX4_readOne_107 : decode cX4_readOne 107 = .ok (.invokevirtual 75, 3) := by decide +kernel
theorem dX4_readOne_110 : decode cX4_readOne 110 = .ok (.aload_n 0, 1) := by decide +kernel
theorem dX4_readOne_111 : decode cX4_readOne 111 = .ok (.bipush 41, 2) := by decide +kernel
theorem dX4_readOne_113 : decode cX4_readOne 113 = .ok (.invokevirtual 85, 3) := by decide +kernel
theorem dX4_readOne_116 : decode cX4_readOne 116 = .ok (.goto 35, 3) := by decide +kernel
theorem dX4_readOne_119 : decode cX4_readOne 119 = .ok (.iload_n 2, 1) := by decide +kernel
theorem dX4_readOne_120 : decode cX4_readOne 120 = .ok (.bipush 45, 2) := by decide +kernel
theorem dX4_readOne_122 : decode cX4_readOne 122 = .ok (.if_icmp .ne 22, 3) := by decide +kernel
theorem dX4_readOne_125 : decode cX4_readOne 125 = .ok (.aload_n 0, 1) := by decide +kernel
theorem dX4_readOne_126 : decode cX4_readOne 126 = .ok (.iload_n 1, 1) := by decide +kernel
theorem dX4_readOne_127 : decode cX4_readOne 127 = .ok (.iconst 1, 1) := by decide +kernel
theorem dX4_readOne_128 : decode cX4_readOne 128 = .ok (.iadd, 1) := by decide +kernel
theorem dX4_readOne_129 : decode cX4_readOne 129 = .ok (.invokevirtual 104, 3) := by decide +kernel
theorem dX4_readOne_132 : decode cX4_readOne 132 = .ok (.aload_n 0, 1) := by decide +kernel
theorem dX4_readOne_133 : decode cX4_readOne 133 = .ok (.getfield 9, 3) := by decide +kernel
theorem dX4_readOne_136 : decode cX4_readOne 136 = .ok (.iconst 4, 1) := by decide +kernel
theorem dX4_readOne_137 : decode cX4_readOne 137 = .ok (.iconst 0, 1) := by decide +kernel
theorem dX4_readOne_138 : decode cX4_readOne 138 = .ok (.invokevirtual 101, 3) := by decide +kernel
theorem dX4_readOne_141 : decode cX4_readOne 141 = .ok (.goto 10, 3) := by decide +kernel
theorem dX4_readOne_144 : decode cX4_readOne 144 = .ok (.aload_n 0, 1) := by decide +kernel
theorem dX4_readOne_145 : decode cX4_readOne 145 = .ok (.iload_n 1, 1) := by decide +kernel
theorem dX4_readOne_146 : decode cX4_readOne 146 = .ok (.iconst 1, 1) := by decide +kernel
theorem dX4_readOne_147 : decode cX4_readOne 147 = .ok (.iadd, 1) := by decide +kernel
theorem dX4_readOne_148 : decode cX4_readOne 148 = .ok (.invokevirtual 114, 3) := by decide +kernel
theorem dX4_readOne_151 : decode cX4_readOne 151 = .ok (.return_, 1) := by decide +kernel
theorem dX4_readName_0 : decode cX4_readName 0 = .ok (.iload_n 1, 1) := by decide +kernel
theorem dX4_readName_1 : decode cX4_readName 1 = .ok (.sipush 214, 3) := by decide +kernel
theorem dX4_readName_4 : decode cX4_readName 4 = .ok (.if_icmp .le 16, 3) := by decide +kernel
theorem dX4_readName_7 : decode cX4_readName 7 = .ok (.aload_n 0, 1) := by decide +kernel
theorem dX4_readName_8 : decode cX4_readName 8 = .ok (.getfield 15, 3) := by decide +kernel
theorem dX4_readName_11 : decode cX4_readName 11 = .ok (.ifCond .ne 9, 3) := by decide +kernel
theorem dX4_readName_14 : decode cX4_readName 14 = .ok (.aload_n 0, 1) := by decide +kernel
theorem dX4_readName_15 : decode cX4_readName 15 = .ok (.iconst 5, 1) := by decide +kernel
theorem dX4_readName_16 : decode cX4_readName 16 = .ok (.invokevirtual 55, 3) := by decide +kernel
theorem dX4_readName_19 : decode cX4_readName 19 = .ok (.return_, 1) := by decide +kernel
theorem dX4_readName_20 : decode cX4_readName 20 = .ok (.aload_n 0, 1) := by decide +kernel
theorem dX4_readName_21 : decode cX4_readName 21 = .ok (.getfield 9, 3) := by decide +kernel
theorem dX4_readName_24 : decode cX4_readName 24 = .ok (.iconst 1, 1) := by decide +kernel
theorem dX4_readName_25 : decode cX4_readName 25 = .ok (.iload_n 1, 1) := by decide +kernel
theorem dX4_readName_26 : decode cX4_readName 26 = .ok (.sipush 212, 3) := by decide +kernel
theorem dX4_readName_29 : decode cX4_readName 29 = .ok (.isub, 1) := by decide +kernel
theorem dX4_readName_30 : decode cX4_readName 30 = .ok (.invokevirtual 101, 3) := by decide +kernel
theorem dX4_readName_33 : decode cX4_readName 33 = .ok (.aload_n 0, 1) := by decide +kernel
theorem dX4_readName_34 : decode cX4_readName 34 = .ok (.getfield 29, 3) := by decide +kernel
theorem dX4_readName_37 : decode cX4_readName 37 = .ok (.invokevirtual 52, 3) := by decide +kernel
theorem dX4_readName_40 : decode cX4_readName 40 = .ok (.return_, 1) := by decide +kernel
theorem dX4_opens_0 : decode cX4_opens 0 = .ok (.iload_n 1, 1) := by decide +kernel
theorem dX4_opens_1 : decode cX4_opens 1 = .ok (.bipush 8, 2) := by decide +kernel
theorem dX4_opens_3 : decode cX4_opens 3 = .ok (.if_icmp .lt 10, 3) := by decide +kernel
theorem dX4_opens_6 : decode cX4_opens 6 = .ok (.aload_n 0, 1) := by decide +kernel
theorem dX4_opens_7 : decode cX4_opens 7 = .ok (.iconst 3, 1) := by decide +kernel
theorem dX4_opens_8 : decode cX4_opens 8 = .ok (.invokevirtual 55, 3) := by decide +kernel
theorem dX4_opens_11 : decode cX4_opens 11 = .ok (.iconst 0, 1) := by decide +kernel
theorem dX4_opens_12 : decode cX4_opens 12 = .ok (.ireturn, 1) := by decide +kernel
theorem dX4_opens_13 : decode cX4_opens 13 = .ok (.aload_n 0, 1) := by decide +kernel
theorem dX4_opens_14 : decode cX4_opens 14 = .ok (.getfield 29, 3) := by decide +kernel
theorem dX4_opens_17 : decode cX4_opens 17 = .ok (.invokevirtual 52, 3) := by decide +kernel
theorem dX4_opens_20 : decode cX4_opens 20 = .ok (.iconst 1, 1) := by decide +kernel
theorem dX4_opens_21 : decode cX4_opens 21 = .ok (.ireturn, 1) := by decide +kernel
theorem dX4_readIf_0 : decode cX4_readIf 0 = .ok (.aload_n 0, 1) := by decide +kernel
theorem dX4_readIf_1 : decode cX4_readIf 1 = .ok (.iload_n 1, 1) := by decide +kernel
theorem dX4_readIf_2 : decode cX4_readIf 2 = .ok (.invokevirtual 117, 3) := by decide +kernel
theorem dX4_readIf_5 : decode cX4_readIf 5 = .ok (.aload_n 0, 1) := by decide +kernel
theorem dX4_readIf_6 : decode cX4_readIf 6 = .ok (.bipush 63, 2) := by decide +kernel
theorem dX4_readIf_8 : decode cX4_readIf 8 = .ok (.invokevirtual 85, 3) := by decide +kernel
theorem dX4_readIf_11 : decode cX4_readIf 11 = .ok (.aload_n 0, 1) := by decide +kernel
theorem dX4_readIf_12 : decode cX4_readIf 12 = .ok (.getfield 9, 3) := by decide +kernel
theorem dX4_readIf_15 : decode cX4_readIf 15 = .ok (.getfield 72, 3) := by decide +kernel
theorem dX4_readIf_18 : decode cX4_readIf 18 = .ok (.istore_n 2, 1) := by decide +kernel
theorem dX4_readIf_19 : decode cX4_readIf 19 = .ok (.aload_n 0, 1) := by decide +kernel
theorem dX4_readIf_20 : decode cX4_readIf 20 = .ok (.getfield 9, 3) := by decide +kernel
theorem dX4_readIf_23 : decode cX4_readIf 23 = .ok (.iconst 3, 1) := by decide +kernel
theorem dX4_readIf_24 : decode cX4_readIf 24 = .ok (.iconst 0, 1) := by decide +kernel
theorem dX4_readIf_25 : decode cX4_readIf 25 = .ok (.invokevirtual 101, 3) := by decide +kernel
theorem dX4_readIf_28 : decode cX4_readIf 28 = .ok (.aload_n 0, 1) := by decide +kernel
theorem dX4_readIf_29 : decode cX4_readIf 29 = .ok (.iload_n 1, 1) := by decide +kernel
theorem dX4_readIf_30 : decode cX4_readIf 30 = .ok (.invokevirtual 75, 3) := by decide +kernel
theorem dX4_readIf_33 : decode cX4_readIf 33 = .ok (.aload_n 0, 1) := by decide +kernel
theorem dX4_readIf_34 : decode cX4_readIf 34 = .ok (.bipush 58, 2) := by decide +kernel
theorem dX4_readIf_36 : decode cX4_readIf 36 = .ok (.invokevirtual 85, 3) := by decide +kernel
theorem dX4_readIf_39 : decode cX4_readIf 39 = .ok (.aload_n 0, 1) := by decide +kernel
theorem dX4_readIf_40 : decode cX4_readIf 40 = .ok (.getfield 9, 3) := by decide +kernel
theorem dX4_readIf_43 : decode cX4_readIf 43 = .ok (.getfield 72, 3) := by decide +kernel
theorem dX4_readIf_46 : decode cX4_readIf 46 = .ok (.istore_n 3, 1) := by decide +kernel
theorem dX4_readIf_47 : decode cX4_readIf 47 = .ok (.aload_n 0, 1) := by decide +kernel
theorem dX4_readIf_48 : decode cX4_readIf 48 = .ok (.getfield 9, 3) := by decide +kernel
theorem dX4_readIf_51 : decode cX4_readIf 51 = .ok (.iconst 2, 1) := by decide +kernel
theorem dX4_readIf_52 : decode cX4_readIf 52 = .ok (.iconst 0, 1) := by decide +kernel
theorem dX4_readIf_53 : decode cX4_readIf 53 = .ok (.invokevirtual 101, 3) := by decide +kernel
theorem dX4_readIf_56 : decode cX4_readIf 56 = .ok (.aload_n 0, 1) := by decide +kernel
theorem dX4_readIf_57 : decode cX4_readIf 57 = .ok (.getfield 9, 3) := by decide +kernel
theorem dX4_readIf_60 : decode cX4_readIf 60 = .ok (.iload_n 2, 1) := by decide +kernel
theorem dX4_readIf_61 : decode cX4_readIf 61 = .ok (.invokevirtual 120, 3) := by decide +kernel
theorem dX4_readIf_64 : decode cX4_readIf 64 = .ok (.aload_n 0, 1) := by decide +kernel
theorem dX4_readIf_65 : decode cX4_readIf 65 = .ok (.iload_n 1, 1) := by decide +kernel
theorem dX4_readIf_66 : decode cX4_readIf 66 = .ok (.invokevirtual 75, 3) := by decide +kernel
theorem dX4_readIf_69 : decode cX4_readIf 69 = .ok (.aload_n 0, 1) := by decide +kernel
theorem dX4_readIf_70 : decode cX4_readIf 70 = .ok (.getfield 9, 3) := by decide +kernel
theorem dX4_readIf_73 : decode cX4_readIf 73 = .ok (.iload_n 3, 1) := by decide +kernel
theorem dX4_readIf_74 : decode cX4_readIf 74 = .ok (.invokevirtual 120, 3) := by decide +kernel
theorem dX4_readIf_77 : decode cX4_readIf 77 = .ok (.aload_n 0, 1) := by decide +kernel
theorem dX4_readIf_78 : decode cX4_readIf 78 = .ok (.sipush 211, 3) := by decide +kernel
theorem dX4_readIf_81 : decode cX4_readIf 81 = .ok (.invokevirtual 85, 3) := by decide +kernel
theorem dX4_readIf_84 : decode cX4_readIf 84 = .ok (.return_, 1) := by decide +kernel
theorem dX4_readEither_0 : decode cX4_readEither 0 = .ok (.aload_n 0, 1) := by decide +kernel
theorem dX4_readEither_1 : decode cX4_readEither 1 = .ok (.iload_n 1, 1) := by decide +kernel
theorem dX4_readEither_2 : decode cX4_readEither 2 = .ok (.invokevirtual 123, 3) := by decide +kernel
theorem dX4_readEither_5 : decode cX4_readEither 5 = .ok (.iconst 0, 1) := by decide +kernel
theorem dX4_readEither_6 : decode cX4_readEither 6 = .ok (.istore_n 2, 1) := by decide +kernel
theorem dX4_readEither_7 : decode cX4_readEither 7 = .ok (.iload_n 2, 1) := by decide +kernel
theorem dX4_readEither_8 : decode cX4_readEither 8 = .ok (.sipush 300, 3) := by decide +kernel
theorem dX4_readEither_11 : decode cX4_readEither 11 = .ok (.if_icmp .ge 51, 3) := by decide +kernel
theorem dX4_readEither_14 : decode cX4_readEither 14 = .ok (.aload_n 0, 1) := by decide +kernel
theorem dX4_readEither_15 : decode cX4_readEither 15 = .ok (.getfield 22, 3) := by decide +kernel
theorem dX4_readEither_18 : decode cX4_readEither 18 = .ok (.ifCond .ne 44, 3) := by decide +kernel
theorem dX4_readEither_21 : decode cX4_readEither 21 = .ok (.aload_n 0, 1) := by decide +kernel
theorem dX4_readEither_22 : decode cX4_readEither 22 = .ok (.getfield 29, 3) := by decide +kernel
theorem dX4_readEither_25 : decode cX4_readEither 25 = .ok (.getfield 43, 3) := by decide +kernel
theorem dX4_readEither_28 : decode cX4_readEither 28 = .ok (.sipush 208, 3) := by decide +kernel
theorem dX4_readEither_31 : decode cX4_readEither 31 = .ok (.if_icmp .ne 31, 3) := by decide +kernel
theorem dX4_readEither_34 : decode cX4_readEither 34 = .ok (.aload_n 0, 1) := by decide +kernel
theorem dX4_readEither_35 : decode cX4_readEither 35 = .ok (.getfield 29, 3) := by decide +kernel
theorem dX4_readEither_38 : decode cX4_readEither 38 = .ok (.invokevirtual 52, 3) := by decide +kernel
theorem dX4_readEither_41 : decode cX4_readEither 41 = .ok (.aload_n 0, 1) := by decide +kernel
theorem dX4_readEither_42 : decode cX4_readEither 42 = .ok (.iload_n 1, 1) := by decide +kernel
theorem dX4_readEither_43 : decode cX4_readEither 43 = .ok (.invokevirtual 123, 3) := by decide +kernel
theorem dX4_readEither_46 : decode cX4_readEither 46 = .ok (.aload_n 0, 1) := by decide +kernel
theorem dX4_readEither_47 : decode cX4_readEither 47 = .ok (.getfield 9, 3) := by decide +kernel
theorem dX4_readEither_50 : decode cX4_readEither 50 = .ok (.bipush 17, 2) := by decide +kernel
theorem dX4_readEither_52 : decode cX4_readEither 52 = .ok (.iconst 0, 1) := by decide +kernel
theorem dX4_readEither_53 : decode cX4_readEither 53 = .ok (.invokevirtual 101, 3) := by decide +kernel
theorem dX4_readEither_56 : decode cX4_readEither 56 = .ok (.iinc 2 1, 3) := by decide +kernel
theorem dX4_readEither_59 : decode cX4_readEither 59 = .ok (.goto (-52), 3) := by decide +kernel
theorem dX4_readEither_62 : decode cX4_readEither 62 = .ok (.return_, 1) := by decide +kernel
theorem dX4_readBoth_0 : decode cX4_readBoth 0 = .ok (.aload_n 0, 1) := by decide +kernel
theorem dX4_readBoth_1 : decode cX4_readBoth 1 = .ok (.iload_n 1, 1) := by decide +kernel
theorem dX4_readBoth_2 : decode cX4_readBoth 2 = .ok (.invokevirtual 126, 3) := by decide +kernel
theorem dX4_readBoth_5 : decode cX4_readBoth 5 = .ok (.iconst 0, 1) := by decide +kernel
theorem dX4_readBoth_6 : decode cX4_readBoth 6 = .ok (.istore_n 2, 1) := by decide +kernel
theorem dX4_readBoth_7 : decode cX4_readBoth 7 = .ok (.iload_n 2, 1) := by decide +kernel
theorem dX4_readBoth_8 : decode cX4_readBoth 8 = .ok (.sipush 300, 3) := by decide +kernel
theorem dX4_readBoth_11 : decode cX4_readBoth 11 = .ok (.if_icmp .ge 51, 3) := by decide +kernel
theorem dX4_readBoth_14 : decode cX4_readBoth 14 = .ok (.aload_n 0, 1) := by decide +kernel
theorem dX4_readBoth_15 : decode cX4_readBoth 15 = .ok (.getfield 22, 3) := by decide +kernel
theorem dX4_readBoth_18 : decode cX4_readBoth 18 = .ok (.ifCond .ne 44, 3) := by decide +kernel
theorem dX4_readBoth_21 : decode cX4_readBoth 21 = .ok (.aload_n 0, 1) := by decide +kernel
theorem dX4_readBoth_22 : decode cX4_readBoth 22 = .ok (.getfield 29, 3) := by decide +kernel
theorem dX4_readBoth_25 : decode cX4_readBoth 25 = .ok (.getfield 43, 3) := by decide +kernel
theorem dX4_readBoth_28 : decode cX4_readBoth 28 = .ok (.sipush 209, 3) := by decide +kernel
theorem dX4_readBoth_31 : decode cX4_readBoth 31 = .ok (.if_icmp .ne 31, 3) := by decide +kernel
theorem dX4_readBoth_34 : decode cX4_readBoth 34 = .ok (.aload_n 0, 1) := by decide +kernel
theorem dX4_readBoth_35 : decode cX4_readBoth 35 = .ok (.getfield 29, 3) := by decide +kernel
theorem dX4_readBoth_38 : decode cX4_readBoth 38 = .ok (.invokevirtual 52, 3) := by decide +kernel
theorem dX4_readBoth_41 : decode cX4_readBoth 41 = .ok (.aload_n 0, 1) := by decide +kernel
theorem dX4_readBoth_42 : decode cX4_readBoth 42 = .ok (.iload_n 1, 1) := by decide +kernel
theorem dX4_readBoth_43 : decode cX4_readBoth 43 = .ok (.invokevirtual 126, 3) := by decide +kernel
theorem dX4_readBoth_46 : decode cX4_readBoth 46 = .ok (.aload_n 0, 1) := by decide +kernel
theorem dX4_readBoth_47 : decode cX4_readBoth 47 = .ok (.getfield 9, 3) := by decide +kernel
theorem dX4_readBoth_50 : decode cX4_readBoth 50 = .ok (.bipush 16, 2) := by decide +kernel
theorem dX4_readBoth_52 : decode cX4_readBoth 52 = .ok (.iconst 0, 1) := by decide +kernel
theorem dX4_readBoth_53 : decode cX4_readBoth 53 = .ok (.invokevirtual 101, 3) := by decide +kernel
theorem dX4_readBoth_56 : decode cX4_readBoth 56 = .ok (.iinc 2 1, 3) := by decide +kernel
theorem dX4_readBoth_59 : decode cX4_readBoth 59 = .ok (.goto (-52), 3) := by decide +kernel
theorem dX4_readBoth_62 : decode cX4_readBoth 62 = .ok (.return_, 1) := by decide +kernel
theorem dX4_readAsk_0 : decode cX4_readAsk 0 = .ok (.aload_n 0, 1) := by decide +kernel
theorem dX4_readAsk_1 : decode cX4_readAsk 1 = .ok (.getfield 22, 3) := by decide +kernel
theorem dX4_readAsk_4 : decode cX4_readAsk 4 = .ok (.ifCond .eq 4, 3) := by decide +kernel
theorem dX4_readAsk_7 : decode cX4_readAsk 7 = .ok (.return_, 1) := by decide +kernel
theorem dX4_readAsk_8 : decode cX4_readAsk 8 = .ok (.aload_n 0, 1) := by decide +kernel
theorem dX4_readAsk_9 : decode cX4_readAsk 9 = .ok (.getfield 29, 3) := by decide +kernel
theorem dX4_readAsk_12 : decode cX4_readAsk 12 = .ok (.getfield 43, 3) := by decide +kernel
theorem dX4_readAsk_15 : decode cX4_readAsk 15 = .ok (.sipush 210, 3) := by decide +kernel
theorem dX4_readAsk_18 : decode cX4_readAsk 18 = .ok (.if_icmp .ne 28, 3) := by decide +kernel
theorem dX4_readAsk_21 : decode cX4_readAsk 21 = .ok (.aload_n 0, 1) := by decide +kernel
theorem dX4_readAsk_22 : decode cX4_readAsk 22 = .ok (.iload_n 1, 1) := by decide +kernel
theorem dX4_readAsk_23 : decode cX4_readAsk 23 = .ok (.invokevirtual 110, 3) := by decide +kernel
theorem dX4_readAsk_26 : decode cX4_readAsk 26 = .ok (.ifCond .eq 19, 3) := by decide +kernel
theorem dX4_readAsk_29 : decode cX4_readAsk 29 = .ok (.aload_n 0, 1) := by decide +kernel
theorem dX4_readAsk_30 : decode cX4_readAsk 30 = .ok (.iload_n 1, 1) := by decide +kernel
theorem dX4_readAsk_31 : decode cX4_readAsk 31 = .ok (.iconst 1, 1) := by decide +kernel
theorem dX4_readAsk_32 : decode cX4_readAsk 32 = .ok (.iadd, 1) := by decide +kernel
theorem dX4_readAsk_33 : decode cX4_readAsk 33 = .ok (.invokevirtual 126, 3) := by decide +kernel
theorem dX4_readAsk_36 : decode cX4_readAsk 36 = .ok (.aload_n 0, 1) := by decide +kernel
theorem dX4_readAsk_37 : decode cX4_readAsk 37 = .ok (.getfield 9, 3) := by decide +kernel
theorem dX4_readAsk_40 : decode cX4_readAsk 40 = .ok (.iconst 5, 1) := by decide +kernel
theorem dX4_readAsk_41 : decode cX4_readAsk 41 = .ok (.iconst 0, 1) := by decide +kernel
theorem dX4_readAsk_42 : decode cX4_readAsk 42 = .ok (.invokevirtual 101, 3) := by decide +kernel
theorem dX4_readAsk_45 : decode cX4_readAsk 45 = .ok (.return_, 1) := by decide +kernel
theorem dX4_readAsk_46 : decode cX4_readAsk 46 = .ok (.aload_n 0, 1) := by decide +kernel
theorem dX4_readAsk_47 : decode cX4_readAsk 47 = .ok (.iload_n 1, 1) := by decide +kernel
theorem dX4_readAsk_48 : decode cX4_readAsk 48 = .ok (.invokevirtual 75, 3) := by decide +kernel
theorem dX4_readAsk_51 : decode cX4_readAsk 51 = .ok (.aload_n 0, 1) := by decide +kernel
theorem dX4_readAsk_52 : decode cX4_readAsk 52 = .ok (.getfield 29, 3) := by decide +kernel
theorem dX4_readAsk_55 : decode cX4_readAsk 55 = .ok (.getfield 43, 3) := by decide +kernel
theorem dX4_readAsk_58 : decode cX4_readAsk 58 = .ok (.invokestatic 129, 3) := by decide +kernel
theorem dX4_readAsk_61 : decode cX4_readAsk 61 = .ok (.istore_n 2, 1) := by decide +kernel
theorem dX4_readAsk_62 : decode cX4_readAsk 62 = .ok (.iload_n 2, 1) := by decide +kernel
theorem dX4_readAsk_63 : decode cX4_readAsk 63 = .ok (.iconst (-1), 1) := by decide +kernel
theorem dX4_readAsk_64 : decode cX4_readAsk 64 = .ok (.if_icmp .ne 9, 3) := by decide +kernel
theorem dX4_readAsk_67 : decode cX4_readAsk 67 = .ok (.aload_n 0, 1) := by decide +kernel
theorem dX4_readAsk_68 : decode cX4_readAsk 68 = .ok (.iconst 1, 1) := by decide +kernel
theorem dX4_readAsk_69 : decode cX4_readAsk 69 = .ok (.invokevirtual 55, 3) := by decide +kernel
theorem dX4_readAsk_72 : decode cX4_readAsk 72 = .ok (.return_, 1) := by decide +kernel
theorem dX4_readAsk_73 : decode cX4_readAsk 73 = .ok (.aload_n 0, 1) := by decide +kernel
theorem dX4_readAsk_74 : decode cX4_readAsk 74 = .ok (.getfield 22, 3) := by decide +kernel
theorem dX4_readAsk_77 : decode cX4_readAsk 77 = .ok (.ifCond .ne 24, 3) := by decide +kernel
theorem dX4_readAsk_80 : decode cX4_readAsk 80 = .ok (.aload_n 0, 1) := by decide +kernel
theorem dX4_readAsk_81 : decode cX4_readAsk 81 = .ok (.getfield 29, 3) := by decide +kernel
theorem dX4_readAsk_84 : decode cX4_readAsk 84 = .ok (.invokevirtual 52, 3) := by decide +kernel
theorem dX4_readAsk_87 : decode cX4_readAsk 87 = .ok (.aload_n 0, 1) := by decide +kernel
theorem dX4_readAsk_88 : decode cX4_readAsk 88 = .ok (.iload_n 1, 1) := by decide +kernel
theorem dX4_readAsk_89 : decode cX4_readAsk 89 = .ok (.invokevirtual 75, 3) := by decide +kernel
theorem dX4_readAsk_92 : decode cX4_readAsk 92 = .ok (.aload_n 0, 1) := by decide +kernel
theorem dX4_readAsk_93 : decode cX4_readAsk 93 = .ok (.getfield 9, 3) := by decide +kernel
theorem dX4_readAsk_96 : decode cX4_readAsk 96 = .ok (.iload_n 2, 1) := by decide +kernel
theorem dX4_readAsk_97 : decode cX4_readAsk 97 = .ok (.iconst 0, 1) := by decide +kernel
theorem dX4_readAsk_98 : decode cX4_readAsk 98 = .ok (.invokevirtual 101, 3) := by decide +kernel
theorem dX4_readAsk_101 : decode cX4_readAsk 101 = .ok (.return_, 1) := by decide +kernel
theorem dX4_comparison_0 : decode cX4_comparison 0 = .ok (.iload_n 0, 1) := by decide +kernel
theorem dX4_comparison_1 : decode cX4_comparison 1 = .ok (.lookupswitch 77 #[(3, 62), (4, 68), (35, 74), (60, 59), (61, 71), (62, 65)], 59) := by decide +kernel
theorem dX4_comparison_60 : decode cX4_comparison 60 = .ok (.bipush 10, 2) := by decide +kernel
theorem dX4_comparison_62 : decode cX4_comparison 62 = .ok (.ireturn, 1) := by decide +kernel
theorem dX4_comparison_63 : decode cX4_comparison 63 = .ok (.bipush 11, 2) := by decide +kernel
theorem dX4_comparison_65 : decode cX4_comparison 65 = .ok (.ireturn, 1) := by decide +kernel
theorem dX4_comparison_66 : decode cX4_comparison 66 = .ok (.bipush 12, 2) := by decide +kernel
theorem dX4_comparison_68 : decode cX4_comparison 68 = .ok (.ireturn, 1) := by decide +kernel
theorem dX4_comparison_69 : decode cX4_comparison 69 = .ok (.bipush 13, 2) := by decide +kernel
theorem dX4_comparison_71 : decode cX4_comparison 71 = .ok (.ireturn, 1) := by decide +kernel
theorem dX4_comparison_72 : decode cX4_comparison 72 = .ok (.bipush 14, 2) := by decide +kernel
theorem dX4_comparison_74 : decode cX4_comparison 74 = .ok (.ireturn, 1) := by decide +kernel
theorem dX4_comparison_75 : decode cX4_comparison 75 = .ok (.bipush 15, 2) := by decide +kernel
theorem dX4_comparison_77 : decode cX4_comparison 77 = .ok (.ireturn, 1) := by decide +kernel
theorem dX4_comparison_78 : decode cX4_comparison 78 = .ok (.iconst (-1), 1) := by decide +kernel
theorem dX4_comparison_79 : decode cX4_comparison 79 = .ok (.ireturn, 1) := by decide +kernel
theorem dX5_init_0 : decode cX5_init 0 = .ok (.aload_n 0, 1) := by decide +kernel
theorem dX5_init_1 : decode cX5_init 1 = .ok (.invokespecial 3, 3) := by decide +kernel
theorem dX5_init_4 : decode cX5_init 4 = .ok (.aload_n 0, 1) := by decide +kernel
theorem dX5_init_5 : decode cX5_init 5 = .ok (.bipush 6, 2) := by decide +kernel
theorem dX5_init_7 : decode cX5_init 7 = .ok (.newarray .int, 2) := by decide +kernel
theorem dX5_init_9 : decode cX5_init 9 = .ok (.putfield 11, 3) := by decide +kernel
theorem dX5_init_12 : decode cX5_init 12 = .ok (.aload_n 0, 1) := by decide +kernel
theorem dX5_init_13 : decode cX5_init 13 = .ok (.bipush 64, 2) := by decide +kernel
theorem dX5_init_15 : decode cX5_init 15 = .ok (.newarray .int, 2) := by decide +kernel
theorem dX5_init_17 : decode cX5_init 17 = .ok (.putfield 15, 3) := by decide +kernel
theorem dX5_init_20 : decode cX5_init 20 = .ok (.return_, 1) := by decide +kernel
theorem dX5_tell_0 : decode cX5_tell 0 = .ok (.aload_n 0, 1) := by decide +kernel
theorem dX5_tell_1 : decode cX5_tell 1 = .ok (.getfield 11, 3) := by decide +kernel
theorem dX5_tell_4 : decode cX5_tell 4 = .ok (.iconst 0, 1) := by decide +kernel
theorem dX5_tell_5 : decode cX5_tell 5 = .ok (.iload_n 1, 1) := by decide +kernel
theorem dX5_tell_6 : decode cX5_tell 6 = .ok (.iastore, 1) := by decide +kernel
theorem dX5_tell_7 : decode cX5_tell 7 = .ok (.aload_n 0, 1) := by decide +kernel
theorem dX5_tell_8 : decode cX5_tell 8 = .ok (.getfield 11, 3) := by decide +kernel
theorem dX5_tell_11 : decode cX5_tell 11 = .ok (.iconst 1, 1) := by decide +kernel
theorem dX5_tell_12 : decode cX5_tell 12 = .ok (.iload_n 2, 1) := by decide +kernel
theorem dX5_tell_13 : decode cX5_tell 13 = .ok (.iastore, 1) := by decide +kernel
theorem dX5_tell_14 : decode cX5_tell 14 = .ok (.aload_n 0, 1) := by decide +kernel
theorem dX5_tell_15 : decode cX5_tell 15 = .ok (.getfield 11, 3) := by decide +kernel
theorem dX5_tell_18 : decode cX5_tell 18 = .ok (.iconst 2, 1) := by decide +kernel
theorem dX5_tell_19 : decode cX5_tell 19 = .ok (.iload_n 3, 1) := by decide +kernel
theorem dX5_tell_20 : decode cX5_tell 20 = .ok (.iastore, 1) := by decide +kernel
theorem dX5_tell_21 : decode cX5_tell 21 = .ok (.return_, 1) := by decide +kernel
theorem dX5_tellEater_0 : decode cX5_tellEater 0 = .ok (.aload_n 0, 1) := by decide +kernel
theorem dX5_tellEater_1 : decode cX5_tellEater 1 = .ok (.getfield 11, 3) := by decide +kernel
theorem dX5_tellEater_4 : decode cX5_tellEater 4 = .ok (.iconst 3, 1) := by decide +kernel
theorem dX5_tellEater_5 : decode cX5_tellEater 5 = .ok (.iload_n 1, 1) := by decide +kernel
theorem dX5_tellEater_6 : decode cX5_tellEater 6 = .ok (.iastore, 1) := by decide +kernel
theorem dX5_tellEater_7 : decode cX5_tellEater 7 = .ok (.aload_n 0, 1) := by decide +kernel
theorem dX5_tellEater_8 : decode cX5_tellEater 8 = .ok (.getfield 11, 3) := by decide +kernel
theorem dX5_tellEater_11 : decode cX5_tellEater 11 = .ok (.iconst 4, 1) := by decide +kernel
theorem dX5_tellEater_12 : decode cX5_tellEater 12 = .ok (.iload_n 2, 1) := by decide +kernel
theorem dX5_tellEater_13 : decode cX5_tellEater 13 = .ok (.iastore, 1) := by decide +kernel
theorem dX5_tellEater_14 : decode cX5_tellEater 14 = .ok (.aload_n 0, 1) := by decide +kernel
theorem dX5_tellEater_15 : decode cX5_tellEater 15 = .ok (.getfield 11, 3) := by decide +kernel
theorem dX5_tellEater_18 : decode cX5_tellEater 18 = .ok (.iconst 5, 1) := by decide +kernel
theorem dX5_tellEater_19 : decode cX5_tellEater 19 = .ok (.iload_n 3, 1) := by decide +kernel
theorem dX5_tellEater_20 : decode cX5_tellEater 20 = .ok (.iastore, 1) := by decide +kernel
theorem dX5_tellEater_21 : decode cX5_tellEater 21 = .ok (.return_, 1) := by decide +kernel
theorem dX5_worked_0 : decode cX5_worked 0 = .ok (.aload_n 1, 1) := by decide +kernel
theorem dX5_worked_1 : decode cX5_worked 1 = .ok (.ifnull 14, 3) := by decide +kernel
theorem dX5_worked_4 : decode cX5_worked 4 = .ok (.iload_n 2, 1) := by decide +kernel
theorem dX5_worked_5 : decode cX5_worked 5 = .ok (.ifCond .lt 10, 3) := by decide +kernel
theorem dX5_worked_8 : decode cX5_worked 8 = .ok (.iload_n 3, 1) := by decide +kernel
theorem dX5_worked_9 : decode cX5_worked 9 = .ok (.sipush 300, 3) := by decide +kernel
theorem dX5_worked_12 : decode cX5_worked 12 = .ok (.if_icmp .le 5, 3) := by decide +kernel
theorem dX5_worked_15 : decode cX5_worked 15 = .ok (.iconst 0, 1) := by decide +kernel
theorem dX5_worked_16 : decode cX5_worked 16 = .ok (.ireturn, 1) := by decide +kernel
theorem dX5_worked_17 : decode cX5_worked 17 = .ok (.iconst 0, 1) := by decide +kernel
theorem dX5_worked_18 : decode cX5_worked 18 = .ok (.istore 4, 2) := by decide +kernel
theorem dX5_worked_20 : decode cX5_worked 20 = .ok (.iload_n 2, 1) := by decide +kernel
theorem dX5_worked_21 : decode cX5_worked 21 = .ok (.istore 5, 2) := by decide +kernel
theorem dX5_worked_23 : decode cX5_worked 23 = .ok (.iload 5, 2) := by decide +kernel
theorem dX5_worked_25 : decode cX5_worked 25 = .ok (.iload_n 3, 1) := by decide +kernel
theorem dX5_worked_26 : decode cX5_worked 26 = .ok (.if_icmp .ge 245, 3) := by decide +kernel
theorem dX5_worked_29 : decode cX5_worked 29 = .ok (.aload_n 1, 1) := by decide +kernel
theorem dX5_worked_30 : decode cX5_worked 30 = .ok (.getfield 18, 3) := by decide +kernel
theorem dX5_worked_33 : decode cX5_worked 33 = .ok (.iload 5, 2) := by decide +kernel
theorem dX5_worked_35 : decode cX5_worked 35 = .ok (.iaload, 1) := by decide +kernel
theorem dX5_worked_36 : decode cX5_worked 36 = .ok (.istore 6, 2) := by decide +kernel
theorem dX5_worked_38 : decode cX5_worked 38 = .ok (.aload_n 1, 1) := by decide +kernel
theorem dX5_worked_39 : decode cX5_worked 39 = .ok (.getfield 23, 3) := by decide +kernel
theorem dX5_worked_42 : decode cX5_worked 42 = .ok (.iload 5, 2) := by decide +kernel
theorem dX5_worked_44 : decode cX5_worked 44 = .ok (.iaload, 1) := by decide +kernel
theorem dX5_worked_45 : decode cX5_worked 45 = .ok (.istore 7, 2) := by decide +kernel
theorem dX5_worked_47 : decode cX5_worked 47 = .ok (.iload 6, 2) := by decide +kernel
theorem dX5_worked_49 : decode cX5_worked 49 = .ok (.ifCond .eq 9, 3) := by decide +kernel
theorem dX5_worked_52 : decode cX5_worked 52 = .ok (.iload 6, 2) := by decide +kernel
theorem dX5_worked_54 : decode cX5_worked 54 = .ok (.iconst 1, 1) := by decide +kernel
theorem dX5_worked_55 : decode cX5_worked 55 = .ok (.if_icmp .ne 41, 3) := by decide +kernel
theorem dX5_worked_58 : decode cX5_worked 58 = .ok (.iload 4, 2) := by decide +kernel
theorem dX5_worked_60 : decode cX5_worked 60 = .ok (.bipush 64, 2) := by decide +kernel
theorem dX5_worked_62 : decode cX5_worked 62 = .ok (.if_icmp .lt 5, 3) := by decide +kernel
theorem dX5_worked_65 : decode cX5_worked 65 = .ok (.iconst 0, 1) := by decide +kernel
theorem dX5_worked_66 : decode cX5_worked 66 = .ok (.ireturn, 1) := by decide +kernel
theorem dX5_worked_67 : decode cX5_worked 67 = .ok (.aload_n 0, 1) := by decide +kernel
theorem dX5_worked_68 : decode cX5_worked 68 = .ok (.getfield 15, 3) := by decide +kernel
theorem dX5_worked_71 : decode cX5_worked 71 = .ok (.iload 4, 2) := by decide +kernel
theorem dX5_worked_73 : decode cX5_worked 73 = .ok (.iload 6, 2) := by decide +kernel
theorem dX5_worked_75 : decode cX5_worked 75 = .ok (.ifCond .ne 8, 3) := by decide +kernel
theorem dX5_worked_78 : decode cX5_worked 78 = .ok (.iload 7, 2) := by decide +kernel
theorem dX5_worked_80 : decode cX5_worked 80 = .ok (.goto 9, 3) := by decide +kernel
theorem dX5_worked_83 : decode cX5_worked 83 = .ok (.aload_n 0, 1) := by decide +kernel
theorem dX5_worked_84 : decode cX5_worked 84 = .ok (.iload 7, 2) := by decide +kernel
theorem dX5_worked_86 : decode cX5_worked 86 = .ok (.invokevirtual 26, 3) := by decide +kernel
theorem dX5_worked_89 : decode cX5_worked 89 = .ok (.iastore, 1) := by decide +kernel
theorem dX5_worked_90 : decode cX5_worked 90 = .ok (.iinc 4 1, 3) := by decide +kernel
theorem dX5_worked_93 : decode cX5_worked 93 = .ok (.goto 172, 3) := by decide +kernel
theorem dX5_worked_96 : decode cX5_worked 96 = .ok (.iload 6, 2) := by decide +kernel
theorem dX5_worked_98 : decode cX5_worked 98 = .ok (.iconst 2, 1) := by decide +kernel
theorem dX5_worked_99 : decode cX5_worked 99 = .ok (.if_icmp .ne 17, 3) := by decide +kernel
theorem dX5_worked_102 : decode cX5_worked 102 = .ok (.iload 5, 2) := by decide +kernel
theorem dX5_worked_104 : decode cX5_worked 104 = .ok (.iload 7, 2) := by decide +kernel
theorem dX5_worked_106 : decode cX5_worked 106 = .ok (.iconst 1, 1) := by decide +kernel
theorem dX5_worked_107 : decode cX5_worked 107 = .ok (.isub, 1) := by decide +kernel
theorem dX5_worked_108 : decode cX5_worked 108 = .ok (.invokestatic 30, 3) := by decide +kernel
theorem dX5_worked_111 : decode cX5_worked 111 = .ok (.istore 5, 2) := by decide +kernel
theorem dX5_worked_113 : decode cX5_worked 113 = .ok (.goto 152, 3) := by decide +kernel
theorem dX5_worked_116 : decode cX5_worked 116 = .ok (.iload 4, 2) := by decide +kernel
theorem dX5_worked_118 : decode cX5_worked 118 = .ok (.iconst 1, 1) := by decide +kernel
theorem dX5_worked_119 : decode cX5_worked 119 = .ok (.if_icmp .ge 5, 3) := by decide +kernel
theorem dX5_worked_122 : decode cX5_worked 122 = .ok (.iconst 0, 1) := by decide +kernel
theorem dX5_worked_123 : decode cX5_worked 123 = .ok (.ireturn, 1) := by decide +kernel
theorem dX5_worked_124 : decode cX5_worked 124 = .ok (.iload 6, 2) := by decide +kernel
theorem dX5_worked_126 : decode cX5_worked 126 = .ok (.iconst 3, 1) := by decide +kernel
theorem dX5_worked_127 : decode cX5_worked 127 = .ok (.if_icmp .ne 35, 3) := by decide +kernel
theorem dX5_worked_130 : decode cX5_worked 130 = .ok (.iinc 4 (-1), 3) := by decide +kernel
theorem dX5_worked_133 : decode cX5_worked 133 = .ok (.aload_n 0, 1) := by decide +kernel
theorem dX5_worked_134 : decode cX5_worked 134 = .ok (.getfield 15, 3) := by decide +kernel
theorem dX5_worked_137 : decode cX5_worked 137 = .ok (.iload 4, 2) := by decide +kernel
theorem dX5_worked_139 : decode cX5_worked 139 = .ok (.iaload, 1) := by decide +kernel
theorem dX5_worked_140 : decode cX5_worked 140 = .ok (.ifCond .ne 15, 3) := by decide +kernel
theorem dX5_worked_143 : decode cX5_worked 143 = .ok (.iload 5, 2) := by decide +kernel
theorem dX5_worked_145 : decode cX5_worked 145 = .ok (.iload 7, 2) := by decide +kernel
theorem dX5_worked_147 : decode cX5_worked 147 = .ok (.iconst 1, 1) := by decide +kernel
theorem dX5_worked_148 : decode cX5_worked 148 = .ok (.isub, 1) := by decide +kernel
theorem dX5_worked_149 : decode cX5_worked 149 = .ok (.invokestatic 30, 3) := by decide +kernel
theorem dX5_worked_152 : decode cX5_worked 152 = .ok (.goto 5, 3) := by decide +kernel
theorem dX5_worked_155 : decode cX5_worked 155 = .ok (.iload 5, 2) := by decide +kernel
theorem dX5_worked_157 : decode cX5_worked 157 = .ok (.istore 5, 2) := by decide +kernel
theorem dX5_worked_159 : decode cX5_worked 159 = .ok (.goto 106, 3) := by decide +kernel
theorem dX5_worked_162 : decode cX5_worked 162 = .ok (.iload 6, 2) := by decide +kernel
theorem dX5_worked_164 : decode cX5_worked 164 = .ok (.iconst 4, 1) := by decide +kernel
theorem dX5_worked_165 : decode cX5_worked 165 = .ok (.if_icmp .ne 25, 3) := by decide +kernel
theorem dX5_worked_168 : decode cX5_worked 168 = .ok (.aload_n 0, 1) := by decide +kernel
theorem dX5_worked_169 : decode cX5_worked 169 = .ok (.getfield 15, 3) := by decide +kernel
theorem dX5_worked_172 : decode cX5_worked 172 = .ok (.iload 4, 2) := by decide +kernel
theorem dX5_worked_174 : decode cX5_worked 174 = .ok (.iconst 1, 1) := by decide +kernel
theorem dX5_worked_175 : decode cX5_worked 175 = .ok (.isub, 1) := by decide +kernel
theorem dX5_worked_176 : decode cX5_worked 176 = .ok (.aload_n 0, 1) := by decide +kernel
theorem dX5_worked_177 : decode cX5_worked 177 = .ok (.getfield 15, 3) := by decide +kernel
theorem dX5_worked_180 : decode cX5_worked 180 = .ok (.iload 4, 2) := by decide +kernel
theorem dX5_worked_182 : decode cX5_worked 182 = .ok (.iconst 1, 1) := by decide +kernel
theorem dX5_worked_183 : decode cX5_worked 183 = .ok (.isub, 1) := by decide +kernel
theorem dX5_worked_184 : decode cX5_worked 184 = .ok (.iaload, 1) := by decide +kernel
theorem dX5_worked_185 : decode cX5_worked 185 = .ok (.ineg, 1) := by decide +kernel
theorem dX5_worked_186 : decode cX5_worked 186 = .ok (.iastore, 1) := by decide +kernel
theorem dX5_worked_187 : decode cX5_worked 187 = .ok (.goto 78, 3) := by decide +kernel
theorem dX5_worked_190 : decode cX5_worked 190 = .ok (.iload 6, 2) := by decide +kernel
theorem dX5_worked_192 : decode cX5_worked 192 = .ok (.iconst 5, 1) := by decide +kernel
theorem dX5_worked_193 : decode cX5_worked 193 = .ok (.if_icmp .ne 26, 3) := by decide +kernel
theorem dX5_worked_196 : decode cX5_worked 196 = .ok (.aload_n 0, 1) := by decide +kernel
theorem dX5_worked_197 : decode cX5_worked 197 = .ok (.getfield 15, 3) := by decide +kernel
theorem dX5_worked_200 : decode cX5_worked 200 = .ok (.iload 4, 2) := by decide +kernel
theorem dX5_worked_202 : decode cX5_worked 202 = .ok (.iconst 1, 1) := by decide +kernel
theorem dX5_worked_203 : decode cX5_worked 203 = .ok (.isub, 1) := by decide +kernel
