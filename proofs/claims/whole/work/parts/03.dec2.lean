theorem dX9_nextToken_388 : decode cX9_nextToken 388 = .ok (.iconst 1, 1) := by decide +kernel
theorem dX9_nextToken_389 : decode cX9_nextToken 389 = .ok (.iadd, 1) := by decide +kernel
theorem dX9_nextToken_390 : decode cX9_nextToken 390 = .ok (.putfield 67, 3) := by decide +kernel
theorem dX9_nextToken_393 : decode cX9_nextToken 393 = .ok (.aload_n 0, 1) := by decide +kernel
theorem dX9_nextToken_394 : decode cX9_nextToken 394 = .ok (.iload_n 1, 1) := by decide +kernel
theorem dX9_nextToken_395 : decode cX9_nextToken 395 = .ok (.bipush 60, 2) := by decide +kernel
theorem dX9_nextToken_397 : decode cX9_nextToken 397 = .ok (.if_icmp .ne 7, 3) := by decide +kernel
theorem dX9_nextToken_400 : decode cX9_nextToken 400 = .ok (.iconst 4, 1) := by decide +kernel
theorem dX9_nextToken_401 : decode cX9_nextToken 401 = .ok (.goto 4, 3) := by decide +kernel
theorem dX9_nextToken_404 : decode cX9_nextToken 404 = .ok (.iconst 5, 1) := by decide +kernel
theorem dX9_nextToken_405 : decode cX9_nextToken 405 = .ok (.putfield 77, 3) := by decide +kernel
theorem dX9_nextToken_408 : decode cX9_nextToken 408 = .ok (.return_, 1) := by decide +kernel
theorem dX9_w3_0 : decode cX9_w3 0 = .ok (.iload_n 0, 1) := by decide +kernel
theorem dX9_w3_1 : decode cX9_w3 1 = .ok (.i2l, 1) := by decide +kernel
theorem dX9_w3_2 : decode cX9_w3 2 = .ok (.bipush 8, 2) := by decide +kernel
theorem dX9_w3_4 : decode cX9_w3 4 = .ok (.lshl, 1) := by decide +kernel
theorem dX9_w3_5 : decode cX9_w3 5 = .ok (.iload_n 1, 1) := by decide +kernel
theorem dX9_w3_6 : decode cX9_w3 6 = .ok (.i2l, 1) := by decide +kernel
theorem dX9_w3_7 : decode cX9_w3 7 = .ok (.lor, 1) := by decide +kernel
theorem dX9_w3_8 : decode cX9_w3 8 = .ok (.bipush 8, 2) := by decide +kernel
theorem dX9_w3_10 : decode cX9_w3 10 = .ok (.lshl, 1) := by decide +kernel
theorem dX9_w3_11 : decode cX9_w3 11 = .ok (.iload_n 2, 1) := by decide +kernel
theorem dX9_w3_12 : decode cX9_w3 12 = .ok (.i2l, 1) := by decide +kernel
theorem dX9_w3_13 : decode cX9_w3 13 = .ok (.lor, 1) := by decide +kernel
theorem dX9_w3_14 : decode cX9_w3 14 = .ok (.lreturn, 1) := by decide +kernel
theorem dX9_w5_0 : decode cX9_w5 0 = .ok (.iload_n 0, 1) := by decide +kernel
theorem dX9_w5_1 : decode cX9_w5 1 = .ok (.iload_n 1, 1) := by decide +kernel
theorem dX9_w5_2 : decode cX9_w5 2 = .ok (.iload_n 2, 1) := by decide +kernel
theorem dX9_w5_3 : decode cX9_w5 3 = .ok (.invokestatic 95, 3) := by decide +kernel
theorem dX9_w5_6 : decode cX9_w5 6 = .ok (.bipush 8, 2) := by decide +kernel
theorem dX9_w5_8 : decode cX9_w5 8 = .ok (.lshl, 1) := by decide +kernel
theorem dX9_w5_9 : decode cX9_w5 9 = .ok (.iload_n 3, 1) := by decide +kernel
theorem dX9_w5_10 : decode cX9_w5 10 = .ok (.i2l, 1) := by decide +kernel
theorem dX9_w5_11 : decode cX9_w5 11 = .ok (.lor, 1) := by decide +kernel
theorem dX9_w5_12 : decode cX9_w5 12 = .ok (.bipush 8, 2) := by decide +kernel
theorem dX9_w5_14 : decode cX9_w5 14 = .ok (.lshl, 1) := by decide +kernel
theorem dX9_w5_15 : decode cX9_w5 15 = .ok (.iload 4, 2) := by decide +kernel
theorem dX9_w5_17 : decode cX9_w5 17 = .ok (.i2l, 1) := by decide +kernel
theorem dX9_w5_18 : decode cX9_w5 18 = .ok (.lor, 1) := by decide +kernel
theorem dX9_w5_19 : decode cX9_w5 19 = .ok (.lreturn, 1) := by decide +kernel
theorem dX9_w4_0 : decode cX9_w4 0 = .ok (.iload_n 0, 1) := by decide +kernel
theorem dX9_w4_1 : decode cX9_w4 1 = .ok (.iload_n 1, 1) := by decide +kernel
theorem dX9_w4_2 : decode cX9_w4 2 = .ok (.iload_n 2, 1) := by decide +kernel
theorem dX9_w4_3 : decode cX9_w4 3 = .ok (.invokestatic 95, 3) := by decide +kernel
theorem dX9_w4_6 : decode cX9_w4 6 = .ok (.bipush 8, 2) := by decide +kernel
theorem dX9_w4_8 : decode cX9_w4 8 = .ok (.lshl, 1) := by decide +kernel
theorem dX9_w4_9 : decode cX9_w4 9 = .ok (.iload_n 3, 1) := by decide +kernel
theorem dX9_w4_10 : decode cX9_w4 10 = .ok (.i2l, 1) := by decide +kernel
theorem dX9_w4_11 : decode cX9_w4 11 = .ok (.lor, 1) := by decide +kernel
theorem dX9_w4_12 : decode cX9_w4 12 = .ok (.lreturn, 1) := by decide +kernel
theorem dX9_w6_0 : decode cX9_w6 0 = .ok (.iload_n 0, 1) := by decide +kernel
theorem dX9_w6_1 : decode cX9_w6 1 = .ok (.iload_n 1, 1) := by decide +kernel
theorem dX9_w6_2 : decode cX9_w6 2 = .ok (.iload_n 2, 1) := by decide +kernel
theorem dX9_w6_3 : decode cX9_w6 3 = .ok (.iload_n 3, 1) := by decide +kernel
theorem dX9_w6_4 : decode cX9_w6 4 = .ok (.iload 4, 2) := by decide +kernel
theorem dX9_w6_6 : decode cX9_w6 6 = .ok (.invokestatic 99, 3) := by decide +kernel
theorem dX9_w6_9 : decode cX9_w6 9 = .ok (.bipush 8, 2) := by decide +kernel
theorem dX9_w6_11 : decode cX9_w6 11 = .ok (.lshl, 1) := by decide +kernel
theorem dX9_w6_12 : decode cX9_w6 12 = .ok (.iload 5, 2) := by decide +kernel
theorem dX9_w6_14 : decode cX9_w6 14 = .ok (.i2l, 1) := by decide +kernel
theorem dX9_w6_15 : decode cX9_w6 15 = .ok (.lor, 1) := by decide +kernel
theorem dX9_w6_16 : decode cX9_w6 16 = .ok (.lreturn, 1) := by decide +kernel
theorem dX9_isWord_0 : decode cX9_isWord 0 = .ok (.aload_n 0, 1) := by decide +kernel
theorem dX9_isWord_1 : decode cX9_isWord 1 = .ok (.getfield 77, 3) := by decide +kernel
theorem dX9_isWord_4 : decode cX9_isWord 4 = .ok (.iconst 2, 1) := by decide +kernel
theorem dX9_isWord_5 : decode cX9_isWord 5 = .ok (.if_icmp .ne 16, 3) := by decide +kernel
theorem dX9_isWord_8 : decode cX9_isWord 8 = .ok (.aload_n 0, 1) := by decide +kernel
theorem dX9_isWord_9 : decode cX9_isWord 9 = .ok (.getfield 91, 3) := by decide +kernel
theorem dX9_isWord_12 : decode cX9_isWord 12 = .ok (.lload_n 1, 1) := by decide +kernel
theorem dX9_isWord_13 : decode cX9_isWord 13 = .ok (.lcmp, 1) := by decide +kernel
theorem dX9_isWord_14 : decode cX9_isWord 14 = .ok (.ifCond .ne 7, 3) := by decide +kernel
theorem dX9_isWord_17 : decode cX9_isWord 17 = .ok (.iconst 1, 1) := by decide +kernel
theorem dX9_isWord_18 : decode cX9_isWord 18 = .ok (.goto 4, 3) := by decide +kernel
theorem dX9_isWord_21 : decode cX9_isWord 21 = .ok (.iconst 0, 1) := by decide +kernel
theorem dX9_isWord_22 : decode cX9_isWord 22 = .ok (.ireturn, 1) := by decide +kernel
theorem dX9_emit_0 : decode cX9_emit 0 = .ok (.aload_n 0, 1) := by decide +kernel
theorem dX9_emit_1 : decode cX9_emit 1 = .ok (.getfield 16, 3) := by decide +kernel
theorem dX9_emit_4 : decode cX9_emit 4 = .ok (.aload_n 0, 1) := by decide +kernel
theorem dX9_emit_5 : decode cX9_emit 5 = .ok (.getfield 103, 3) := by decide +kernel
theorem dX9_emit_8 : decode cX9_emit 8 = .ok (.bipush 75, 2) := by decide +kernel
theorem dX9_emit_10 : decode cX9_emit 10 = .ok (.iadd, 1) := by decide +kernel
theorem dX9_emit_11 : decode cX9_emit 11 = .ok (.iconst 2, 1) := by decide +kernel
theorem dX9_emit_12 : decode cX9_emit 12 = .ok (.aload_n 0, 1) := by decide +kernel
theorem dX9_emit_13 : decode cX9_emit 13 = .ok (.getfield 106, 3) := by decide +kernel
theorem dX9_emit_16 : decode cX9_emit 16 = .ok (.imul, 1) := by decide +kernel
theorem dX9_emit_17 : decode cX9_emit 17 = .ok (.iadd, 1) := by decide +kernel
theorem dX9_emit_18 : decode cX9_emit 18 = .ok (.iload_n 1, 1) := by decide +kernel
theorem dX9_emit_19 : decode cX9_emit 19 = .ok (.iastore, 1) := by decide +kernel
theorem dX9_emit_20 : decode cX9_emit 20 = .ok (.aload_n 0, 1) := by decide +kernel
theorem dX9_emit_21 : decode cX9_emit 21 = .ok (.getfield 16, 3) := by decide +kernel
theorem dX9_emit_24 : decode cX9_emit 24 = .ok (.aload_n 0, 1) := by decide +kernel
theorem dX9_emit_25 : decode cX9_emit 25 = .ok (.getfield 103, 3) := by decide +kernel
theorem dX9_emit_28 : decode cX9_emit 28 = .ok (.bipush 75, 2) := by decide +kernel
theorem dX9_emit_30 : decode cX9_emit 30 = .ok (.iadd, 1) := by decide +kernel
theorem dX9_emit_31 : decode cX9_emit 31 = .ok (.iconst 2, 1) := by decide +kernel
theorem dX9_emit_32 : decode cX9_emit 32 = .ok (.aload_n 0, 1) := by decide +kernel
theorem dX9_emit_33 : decode cX9_emit 33 = .ok (.getfield 106, 3) := by decide +kernel
theorem dX9_emit_36 : decode cX9_emit 36 = .ok (.imul, 1) := by decide +kernel
theorem dX9_emit_37 : decode cX9_emit 37 = .ok (.iadd, 1) := by decide +kernel
theorem dX9_emit_38 : decode cX9_emit 38 = .ok (.iconst 1, 1) := by decide +kernel
theorem dX9_emit_39 : decode cX9_emit 39 = .ok (.iadd, 1) := by decide +kernel
theorem dX9_emit_40 : decode cX9_emit 40 = .ok (.iload_n 2, 1) := by decide +kernel
theorem dX9_emit_41 : decode cX9_emit 41 = .ok (.iastore, 1) := by decide +kernel
theorem dX9_emit_42 : decode cX9_emit 42 = .ok (.aload_n 0, 1) := by decide +kernel
theorem dX9_emit_43 : decode cX9_emit 43 = .ok (.dup, 1) := by decide +kernel
theorem dX9_emit_44 : decode cX9_emit 44 = .ok (.getfield 106, 3) := by decide +kernel
theorem dX9_emit_47 : decode cX9_emit 47 = .ok (.iconst 1, 1) := by decide +kernel
theorem dX9_emit_48 : decode cX9_emit 48 = .ok (.iadd, 1) := by decide +kernel
theorem dX9_emit_49 : decode cX9_emit 49 = .ok (.putfield 106, 3) := by decide +kernel
theorem dX9_emit_52 : decode cX9_emit 52 = .ok (.return_, 1) := by decide +kernel
theorem dX9_push_0 : decode cX9_push 0 = .ok (.aload_n 0, 1) := by decide +kernel
theorem dX9_push_1 : decode cX9_push 1 = .ok (.getfield 29, 3) := by decide +kernel
theorem dX9_push_4 : decode cX9_push 4 = .ok (.aload_n 0, 1) := by decide +kernel
theorem dX9_push_5 : decode cX9_push 5 = .ok (.getfield 109, 3) := by decide +kernel
theorem dX9_push_8 : decode cX9_push 8 = .ok (.iload_n 1, 1) := by decide +kernel
theorem dX9_push_9 : decode cX9_push 9 = .ok (.iastore, 1) := by decide +kernel
theorem dX9_push_10 : decode cX9_push 10 = .ok (.aload_n 0, 1) := by decide +kernel
theorem dX9_push_11 : decode cX9_push 11 = .ok (.dup, 1) := by decide +kernel
theorem dX9_push_12 : decode cX9_push 12 = .ok (.getfield 109, 3) := by decide +kernel
theorem dX9_push_15 : decode cX9_push 15 = .ok (.iconst 1, 1) := by decide +kernel
theorem dX9_push_16 : decode cX9_push 16 = .ok (.iadd, 1) := by decide +kernel
theorem dX9_push_17 : decode cX9_push 17 = .ok (.putfield 109, 3) := by decide +kernel
theorem dX9_push_20 : decode cX9_push 20 = .ok (.return_, 1) := by decide +kernel
theorem dX9_rank_0 : decode cX9_rank 0 = .ok (.iload_n 0, 1) := by decide +kernel
theorem dX9_rank_1 : decode cX9_rank 1 = .ok (.bipush 40, 2) := by decide +kernel
theorem dX9_rank_3 : decode cX9_rank 3 = .ok (.if_icmp .lt 7, 3) := by decide +kernel
theorem dX9_rank_6 : decode cX9_rank 6 = .ok (.iconst 0, 1) := by decide +kernel
theorem dX9_rank_7 : decode cX9_rank 7 = .ok (.goto 64, 3) := by decide +kernel
theorem dX9_rank_10 : decode cX9_rank 10 = .ok (.iload_n 0, 1) := by decide +kernel
theorem dX9_rank_11 : decode cX9_rank 11 = .ok (.bipush 22, 2) := by decide +kernel
theorem dX9_rank_13 : decode cX9_rank 13 = .ok (.if_icmp .ne 7, 3) := by decide +kernel
theorem dX9_rank_16 : decode cX9_rank 16 = .ok (.iconst 1, 1) := by decide +kernel
theorem dX9_rank_17 : decode cX9_rank 17 = .ok (.goto 54, 3) := by decide +kernel
theorem dX9_rank_20 : decode cX9_rank 20 = .ok (.iload_n 0, 1) := by decide +kernel
theorem dX9_rank_21 : decode cX9_rank 21 = .ok (.bipush 21, 2) := by decide +kernel
theorem dX9_rank_23 : decode cX9_rank 23 = .ok (.if_icmp .ne 7, 3) := by decide +kernel
theorem dX9_rank_26 : decode cX9_rank 26 = .ok (.iconst 2, 1) := by decide +kernel
theorem dX9_rank_27 : decode cX9_rank 27 = .ok (.goto 44, 3) := by decide +kernel
theorem dX9_rank_30 : decode cX9_rank 30 = .ok (.iload_n 0, 1) := by decide +kernel
theorem dX9_rank_31 : decode cX9_rank 31 = .ok (.bipush 20, 2) := by decide +kernel
theorem dX9_rank_33 : decode cX9_rank 33 = .ok (.if_icmp .ne 7, 3) := by decide +kernel
theorem dX9_rank_36 : decode cX9_rank 36 = .ok (.iconst 3, 1) := by decide +kernel
theorem dX9_rank_37 : decode cX9_rank 37 = .ok (.goto 34, 3) := by decide +kernel
theorem dX9_rank_40 : decode cX9_rank 40 = .ok (.iload_n 0, 1) := by decide +kernel
theorem dX9_rank_41 : decode cX9_rank 41 = .ok (.bipush 10, 2) := by decide +kernel
theorem dX9_rank_43 : decode cX9_rank 43 = .ok (.if_icmp .lt 7, 3) := by decide +kernel
theorem dX9_rank_46 : decode cX9_rank 46 = .ok (.iconst 4, 1) := by decide +kernel
theorem dX9_rank_47 : decode cX9_rank 47 = .ok (.goto 24, 3) := by decide +kernel
theorem dX9_rank_50 : decode cX9_rank 50 = .ok (.iload_n 0, 1) := by decide +kernel
theorem dX9_rank_51 : decode cX9_rank 51 = .ok (.iconst 2, 1) := by decide +kernel
theorem dX9_rank_52 : decode cX9_rank 52 = .ok (.if_icmp .ne 8, 3) := by decide +kernel
theorem dX9_rank_55 : decode cX9_rank 55 = .ok (.bipush 7, 2) := by decide +kernel
theorem dX9_rank_57 : decode cX9_rank 57 = .ok (.goto 14, 3) := by decide +kernel
theorem dX9_rank_60 : decode cX9_rank 60 = .ok (.iload_n 0, 1) := by decide +kernel
theorem dX9_rank_61 : decode cX9_rank 61 = .ok (.iconst 5, 1) := by decide +kernel
theorem dX9_rank_62 : decode cX9_rank 62 = .ok (.if_icmp .lt 8, 3) := by decide +kernel
theorem dX9_rank_65 : decode cX9_rank 65 = .ok (.bipush 6, 2) := by decide +kernel
theorem dX9_rank_67 : decode cX9_rank 67 = .ok (.goto 4, 3) := by decide +kernel
theorem dX9_rank_70 : decode cX9_rank 70 = .ok (.iconst 5, 1) := by decide +kernel
theorem dX9_rank_71 : decode cX9_rank 71 = .ok (.ireturn, 1) := by decide +kernel
theorem dX9_settle_0 : decode cX9_settle 0 = .ok (.aload_n 0, 1) := by decide +kernel
theorem dX9_settle_1 : decode cX9_settle 1 = .ok (.getfield 109, 3) := by decide +kernel
theorem dX9_settle_4 : decode cX9_settle 4 = .ok (.ifCond .le 85, 3) := by decide +kernel
theorem dX9_settle_7 : decode cX9_settle 7 = .ok (.aload_n 0, 1) := by decide +kernel
theorem dX9_settle_8 : decode cX9_settle 8 = .ok (.getfield 29, 3) := by decide +kernel
theorem dX9_settle_11 : decode cX9_settle 11 = .ok (.aload_n 0, 1) := by decide +kernel
theorem dX9_settle_12 : decode cX9_settle 12 = .ok (.getfield 109, 3) := by decide +kernel
theorem dX9_settle_15 : decode cX9_settle 15 = .ok (.iconst 1, 1) := by decide +kernel
theorem dX9_settle_16 : decode cX9_settle 16 = .ok (.isub, 1) := by decide +kernel
theorem dX9_settle_17 : decode cX9_settle 17 = .ok (.iaload, 1) := by decide +kernel
theorem dX9_settle_18 : decode cX9_settle 18 = .ok (.invokestatic 112, 3) := by decide +kernel
theorem dX9_settle_21 : decode cX9_settle 21 = .ok (.iload_n 1, 1) := by decide +kernel
theorem dX9_settle_22 : decode cX9_settle 22 = .ok (.if_icmp .lt 67, 3) := by decide +kernel
theorem dX9_settle_25 : decode cX9_settle 25 = .ok (.aload_n 0, 1) := by decide +kernel
theorem dX9_settle_26 : decode cX9_settle 26 = .ok (.dup, 1) := by decide +kernel
theorem dX9_settle_27 : decode cX9_settle 27 = .ok (.getfield 109, 3) := by decide +kernel
theorem dX9_settle_30 : decode cX9_settle 30 = .ok (.iconst 1, 1) := by decide +kernel
theorem dX9_settle_31 : decode cX9_settle 31 = .ok (.isub, 1) := by decide +kernel
theorem dX9_settle_32 : decode cX9_settle 32 = .ok (.putfield 109, 3) := by decide +kernel
theorem dX9_settle_35 : decode cX9_settle 35 = .ok (.aload_n 0, 1) := by decide +kernel
theorem dX9_settle_36 : decode cX9_settle 36 = .ok (.aload_n 0, 1) := by decide +kernel
theorem dX9_settle_37 : decode cX9_settle 37 = .ok (.getfield 29, 3) := by decide +kernel
theorem dX9_settle_40 : decode cX9_settle 40 = .ok (.aload_n 0, 1) := by decide +kernel
theorem dX9_settle_41 : decode cX9_settle 41 = .ok (.getfield 109, 3) := by decide +kernel
theorem dX9_settle_44 : decode cX9_settle 44 = .ok (.iaload, 1) := by decide +kernel
theorem dX9_settle_45 : decode cX9_settle 45 = .ok (.iconst 0, 1) := by decide +kernel
theorem dX9_settle_46 : decode cX9_settle 46 = .ok (.invokevirtual 115, 3) := by decide +kernel
theorem dX9_settle_49 : decode cX9_settle 49 = .ok (.aload_n 0, 1) := by decide +kernel
theorem dX9_settle_50 : decode cX9_settle 50 = .ok (.getfield 29, 3) := by decide +kernel
theorem dX9_settle_53 : decode cX9_settle 53 = .ok (.aload_n 0, 1) := by decide +kernel
theorem dX9_settle_54 : decode cX9_settle 54 = .ok (.getfield 109, 3) := by decide +kernel
theorem dX9_settle_57 : decode cX9_settle 57 = .ok (.iaload, 1) := by decide +kernel
theorem dX9_settle_58 : decode cX9_settle 58 = .ok (.iconst 2, 1) := by decide +kernel
theorem dX9_settle_59 : decode cX9_settle 59 = .ok (.if_icmp .eq 17, 3) := by decide +kernel
theorem dX9_settle_62 : decode cX9_settle 62 = .ok (.aload_n 0, 1) := by decide +kernel
theorem dX9_settle_63 : decode cX9_settle 63 = .ok (.getfield 29, 3) := by decide +kernel
theorem dX9_settle_66 : decode cX9_settle 66 = .ok (.aload_n 0, 1) := by decide +kernel
theorem dX9_settle_67 : decode cX9_settle 67 = .ok (.getfield 109, 3) := by decide +kernel
theorem dX9_settle_70 : decode cX9_settle 70 = .ok (.iaload, 1) := by decide +kernel
theorem dX9_settle_71 : decode cX9_settle 71 = .ok (.bipush 20, 2) := by decide +kernel
theorem dX9_settle_73 : decode cX9_settle 73 = .ok (.if_icmp .ne (-73), 3) := by decide +kernel
theorem dX9_settle_76 : decode cX9_settle 76 = .ok (.aload_n 0, 1) := by decide +kernel
theorem dX9_settle_77 : decode cX9_settle 77 = .ok (.dup, 1) := by decide +kernel
theorem dX9_settle_78 : decode cX9_settle 78 = .ok (.getfield 119, 3) := by decide +kernel
theorem dX9_settle_81 : decode cX9_settle 81 = .ok (.iconst 1, 1) := by decide +kernel
theorem dX9_settle_82 : decode cX9_settle 82 = .ok (.isub, 1) := by decide +kernel
theorem dX9_settle_83 : decode cX9_settle 83 = .ok (.putfield 119, 3) := by decide +kernel
theorem dX9_settle_86 : decode cX9_settle 86 = .ok (.goto (-86), 3) := by decide +kernel
theorem dX9_settle_89 : decode cX9_settle 89 = .ok (.return_, 1) := by decide +kernel
theorem dX9_whole_0 : decode cX9_whole 0 = .ok (.aload_n 0, 1) := by decide +kernel
theorem dX9_whole_1 : decode cX9_whole 1 = .ok (.iconst 1, 1) := by decide +kernel
theorem dX9_whole_2 : decode cX9_whole 2 = .ok (.putfield 122, 3) := by decide +kernel
theorem dX9_whole_5 : decode cX9_whole 5 = .ok (.aload_n 0, 1) := by decide +kernel
theorem dX9_whole_6 : decode cX9_whole 6 = .ok (.bipush 7, 2) := by decide +kernel
theorem dX9_whole_8 : decode cX9_whole 8 = .ok (.invokevirtual 126, 3) := by decide +kernel
theorem dX9_whole_11 : decode cX9_whole 11 = .ok (.return_, 1) := by decide +kernel
theorem dX9_marker_0 : decode cX9_marker 0 = .ok (.aload_n 0, 1) := by decide +kernel
theorem dX9_marker_1 : decode cX9_marker 1 = .ok (.getfield 109, 3) := by decide +kernel
theorem dX9_marker_4 : decode cX9_marker 4 = .ok (.iconst 1, 1) := by decide +kernel
theorem dX9_marker_5 : decode cX9_marker 5 = .ok (.isub, 1) := by decide +kernel
theorem dX9_marker_6 : decode cX9_marker 6 = .ok (.istore_n 1, 1) := by decide +kernel
theorem dX9_marker_7 : decode cX9_marker 7 = .ok (.iload_n 1, 1) := by decide +kernel
theorem dX9_marker_8 : decode cX9_marker 8 = .ok (.ifCond .lt 20, 3) := by decide +kernel
theorem dX9_marker_11 : decode cX9_marker 11 = .ok (.aload_n 0, 1) := by decide +kernel
theorem dX9_marker_12 : decode cX9_marker 12 = .ok (.getfield 29, 3) := by decide +kernel
theorem dX9_marker_15 : decode cX9_marker 15 = .ok (.iload_n 1, 1) := by decide +kernel
theorem dX9_marker_16 : decode cX9_marker 16 = .ok (.iaload, 1) := by decide +kernel
theorem dX9_marker_17 : decode cX9_marker 17 = .ok (.bipush 40, 2) := by decide +kernel
theorem dX9_marker_19 : decode cX9_marker 19 = .ok (.if_icmp .ge 9, 3) := by decide +kernel
theorem dX9_marker_22 : decode cX9_marker 22 = .ok (.iinc 1 (-1), 3) := by decide +kernel
theorem dX9_marker_25 : decode cX9_marker 25 = .ok (.goto (-18), 3) := by decide +kernel
theorem dX9_marker_28 : decode cX9_marker 28 = .ok (.iload_n 1, 1) := by decide +kernel
theorem dX9_marker_29 : decode cX9_marker 29 = .ok (.ireturn, 1) := by decide +kernel
theorem dX9_kindOpen_0 : decode cX9_kindOpen 0 = .ok (.aload_n 0, 1) := by decide +kernel
theorem dX9_kindOpen_1 : decode cX9_kindOpen 1 = .ok (.invokevirtual 129, 3) := by decide +kernel
theorem dX9_kindOpen_4 : decode cX9_kindOpen 4 = .ok (.istore_n 2, 1) := by decide +kernel
theorem dX9_kindOpen_5 : decode cX9_kindOpen 5 = .ok (.iload_n 2, 1) := by decide +kernel
theorem dX9_kindOpen_6 : decode cX9_kindOpen 6 = .ok (.ifCond .lt 12, 3) := by decide +kernel
theorem dX9_kindOpen_9 : decode cX9_kindOpen 9 = .ok (.aload_n 0, 1) := by decide +kernel
theorem dX9_kindOpen_10 : decode cX9_kindOpen 10 = .ok (.getfield 29, 3) := by decide +kernel
theorem dX9_kindOpen_13 : decode cX9_kindOpen 13 = .ok (.iload_n 2, 1) := by decide +kernel
theorem dX9_kindOpen_14 : decode cX9_kindOpen 14 = .ok (.iaload, 1) := by decide +kernel
theorem dX9_kindOpen_15 : decode cX9_kindOpen 15 = .ok (.goto 14, 3) := by decide +kernel
theorem dX9_kindOpen_18 : decode cX9_kindOpen 18 = .ok (.iload_n 1, 1) := by decide +kernel
theorem dX9_kindOpen_19 : decode cX9_kindOpen 19 = .ok (.ifCond .eq 8, 3) := by decide +kernel
theorem dX9_kindOpen_22 : decode cX9_kindOpen 22 = .ok (.bipush 41, 2) := by decide +kernel
theorem dX9_kindOpen_24 : decode cX9_kindOpen 24 = .ok (.goto 5, 3) := by decide +kernel
theorem dX9_kindOpen_27 : decode cX9_kindOpen 27 = .ok (.bipush 40, 2) := by decide +kernel
theorem dX9_kindOpen_29 : decode cX9_kindOpen 29 = .ok (.ireturn, 1) := by decide +kernel
theorem dX9_isCompared_0 : decode cX9_isCompared 0 = .ok (.aload_n 0, 1) := by decide +kernel
theorem dX9_isCompared_1 : decode cX9_isCompared 1 = .ok (.getfield 109, 3) := by decide +kernel
theorem dX9_isCompared_4 : decode cX9_isCompared 4 = .ok (.iconst 1, 1) := by decide +kernel
theorem dX9_isCompared_5 : decode cX9_isCompared 5 = .ok (.isub, 1) := by decide +kernel
theorem dX9_isCompared_6 : decode cX9_isCompared 6 = .ok (.istore_n 1, 1) := by decide +kernel
theorem dX9_isCompared_7 : decode cX9_isCompared 7 = .ok (.iload_n 1, 1) := by decide +kernel
theorem dX9_isCompared_8 : decode cX9_isCompared 8 = .ok (.ifCond .lt 22, 3) := by decide +kernel
theorem dX9_isCompared_11 : decode cX9_isCompared 11 = .ok (.aload_n 0, 1) := by decide +kernel
theorem dX9_isCompared_12 : decode cX9_isCompared 12 = .ok (.getfield 29, 3) := by decide +kernel
theorem dX9_isCompared_15 : decode cX9_isCompared 15 = .ok (.iload_n 1, 1) := by decide +kernel
theorem dX9_isCompared_16 : decode cX9_isCompared 16 = .ok (.iaload, 1) := by decide +kernel
theorem dX9_isCompared_17 : decode cX9_isCompared 17 = .ok (.invokestatic 112, 3) := by decide +kernel
theorem dX9_isCompared_20 : decode cX9_isCompared 20 = .ok (.iconst 4, 1) := by decide +kernel
theorem dX9_isCompared_21 : decode cX9_isCompared 21 = .ok (.if_icmp .le 9, 3) := by decide +kernel
theorem dX9_isCompared_24 : decode cX9_isCompared 24 = .ok (.iinc 1 (-1), 3) := by decide +kernel
theorem dX9_isCompared_27 : decode cX9_isCompared 27 = .ok (.goto (-20), 3) := by decide +kernel
theorem dX9_isCompared_30 : decode cX9_isCompared 30 = .ok (.iload_n 1, 1) := by decide +kernel
theorem dX9_isCompared_31 : decode cX9_isCompared 31 = .ok (.ifCond .lt 20, 3) := by decide +kernel
theorem dX9_isCompared_34 : decode cX9_isCompared 34 = .ok (.aload_n 0, 1) := by decide +kernel
theorem dX9_isCompared_35 : decode cX9_isCompared 35 = .ok (.getfield 29, 3) := by decide +kernel
theorem dX9_isCompared_38 : decode cX9_isCompared 38 = .ok (.iload_n 1, 1) := by decide +kernel
theorem dX9_isCompared_39 : decode cX9_isCompared 39 = .ok (.iaload, 1) := by decide +kernel
theorem dX9_isCompared_40 : decode cX9_isCompared 40 = .ok (.invokestatic 112, 3) := by decide +kernel
theorem dX9_isCompared_43 : decode cX9_isCompared 43 = .ok (.iconst 4, 1) := by decide +kernel
theorem dX9_isCompared_44 : decode cX9_isCompared 44 = .ok (.if_icmp .ne 7, 3) := by decide +kernel
theorem dX9_isCompared_47 : decode cX9_isCompared 47 = .ok (.iconst 1, 1) := by decide +kernel
theorem dX9_isCompared_48 : decode cX9_isCompared 48 = .ok (.goto 4, 3) := by decide +kernel
theorem dX9_isCompared_51 : decode cX9_isCompared 51 = .ok (.iconst 0, 1) := by decide +kernel
theorem dX9_isCompared_52 : decode cX9_isCompared 52 = .ok (.ireturn, 1) := by decide +kernel
theorem dX9_isAskAhead_0 : decode cX9_isAskAhead 0 = .ok (.aload_n 0, 1) := by decide +kernel
theorem dX9_isAskAhead_1 : decode cX9_isAskAhead 1 = .ok (.iload_n 1, 1) := by decide +kernel
theorem dX9_isAskAhead_2 : decode cX9_isAskAhead 2 = .ok (.invokevirtual 133, 3) := by decide +kernel
theorem dX9_isAskAhead_5 : decode cX9_isAskAhead 5 = .ok (.bipush 41, 2) := by decide +kernel
theorem dX9_isAskAhead_7 : decode cX9_isAskAhead 7 = .ok (.if_icmp .ne 52, 3) := by decide +kernel
theorem dX9_isAskAhead_10 : decode cX9_isAskAhead 10 = .ok (.aload_n 0, 1) := by decide +kernel
theorem dX9_isAskAhead_11 : decode cX9_isAskAhead 11 = .ok (.getfield 109, 3) := by decide +kernel
theorem dX9_isAskAhead_14 : decode cX9_isAskAhead 14 = .ok (.ifCond .eq 41, 3) := by decide +kernel
theorem dX9_isAskAhead_17 : decode cX9_isAskAhead 17 = .ok (.aload_n 0, 1) := by decide +kernel
theorem dX9_isAskAhead_18 : decode cX9_isAskAhead 18 = .ok (.getfield 29, 3) := by decide +kernel
theorem dX9_isAskAhead_21 : decode cX9_isAskAhead 21 = .ok (.aload_n 0, 1) := by decide +kernel
theorem dX9_isAskAhead_22 : decode cX9_isAskAhead 22 = .ok (.getfield 109, 3) := by decide +kernel
theorem dX9_isAskAhead_25 : decode cX9_isAskAhead 25 = .ok (.iconst 1, 1) := by decide +kernel
theorem dX9_isAskAhead_26 : decode cX9_isAskAhead 26 = .ok (.isub, 1) := by decide +kernel
theorem dX9_isAskAhead_27 : decode cX9_isAskAhead 27 = .ok (.iaload, 1) := by decide +kernel
theorem dX9_isAskAhead_28 : decode cX9_isAskAhead 28 = .ok (.bipush 41, 2) := by decide +kernel
theorem dX9_isAskAhead_30 : decode cX9_isAskAhead 30 = .ok (.if_icmp .eq 25, 3) := by decide +kernel
theorem dX9_isAskAhead_33 : decode cX9_isAskAhead 33 = .ok (.aload_n 0, 1) := by decide +kernel
theorem dX9_isAskAhead_34 : decode cX9_isAskAhead 34 = .ok (.getfield 29, 3) := by decide +kernel
theorem dX9_isAskAhead_37 : decode cX9_isAskAhead 37 = .ok (.aload_n 0, 1) := by decide +kernel
theorem dX9_isAskAhead_38 : decode cX9_isAskAhead 38 = .ok (.getfield 109, 3) := by decide +kernel
theorem dX9_isAskAhead_41 : decode cX9_isAskAhead 41 = .ok (.iconst 1, 1) := by decide +kernel
theorem dX9_isAskAhead_42 : decode cX9_isAskAhead 42 = .ok (.isub, 1) := by decide +kernel
theorem dX9_isAskAhead_43 : decode cX9_isAskAhead 43 = .ok (.iaload, 1) := by decide +kernel
theorem dX9_isAskAhead_44 : decode cX9_isAskAhead 44 = .ok (.invokestatic 112, 3) := by decide +kernel
theorem dX9_isAskAhead_47 : decode cX9_isAskAhead 47 = .ok (.iconst 1, 1) := by decide +kernel
theorem dX9_isAskAhead_48 : decode cX9_isAskAhead 48 = .ok (.iconst 3, 1) := by decide +kernel
theorem dX9_isAskAhead_49 : decode cX9_isAskAhead 49 = .ok (.invokestatic 56, 3) := by decide +kernel
theorem dX9_isAskAhead_52 : decode cX9_isAskAhead 52 = .ok (.ifCond .eq 7, 3) := by decide +kernel
theorem dX9_isAskAhead_55 : decode cX9_isAskAhead 55 = .ok (.iconst 1, 1) := by decide +kernel
theorem dX9_isAskAhead_56 : decode cX9_isAskAhead 56 = .ok (.goto 4, 3) := by decide +kernel
theorem dX9_isAskAhead_59 : decode cX9_isAskAhead 59 = .ok (.iconst 0, 1) := by decide +kernel
theorem dX9_isAskAhead_60 : decode cX9_isAskAhead 60 = .ok (.ireturn, 1) := by decide +kernel
theorem dX9_opensBy_0 : decode cX9_opensBy 0 = .ok (.aload_n 0, 1) := by decide +kernel
theorem dX9_opensBy_1 : decode cX9_opensBy 1 = .ok (.getfield 119, 3) := by decide +kernel
theorem dX9_opensBy_4 : decode cX9_opensBy 4 = .ok (.bipush 8, 2) := by decide +kernel
theorem dX9_opensBy_6 : decode cX9_opensBy 6 = .ok (.if_icmp .ne 5, 3) := by decide +kernel
theorem dX9_opensBy_9 : decode cX9_opensBy 9 = .ok (.iconst 3, 1) := by decide +kernel
theorem dX9_opensBy_10 : decode cX9_opensBy 10 = .ok (.ireturn, 1) := by decide +kernel
theorem dX9_opensBy_11 : decode cX9_opensBy 11 = .ok (.aload_n 0, 1) := by decide +kernel
theorem dX9_opensBy_12 : decode cX9_opensBy 12 = .ok (.dup, 1) := by decide +kernel
theorem dX9_opensBy_13 : decode cX9_opensBy 13 = .ok (.getfield 119, 3) := by decide +kernel
theorem dX9_opensBy_16 : decode cX9_opensBy 16 = .ok (.iconst 1, 1) := by decide +kernel
theorem dX9_opensBy_17 : decode cX9_opensBy 17 = .ok (.iadd, 1) := by decide +kernel
theorem dX9_opensBy_18 : decode cX9_opensBy 18 = .ok (.putfield 119, 3) := by decide +kernel
theorem dX9_opensBy_21 : decode cX9_opensBy 21 = .ok (.aload_n 0, 1) := by decide +kernel
theorem dX9_opensBy_22 : decode cX9_opensBy 22 = .ok (.iload_n 1, 1) := by decide +kernel
theorem dX9_opensBy_23 : decode cX9_opensBy 23 = .ok (.invokevirtual 137, 3) := by decide +kernel
theorem dX9_opensBy_26 : decode cX9_opensBy 26 = .ok (.aload_n 0, 1) := by decide +kernel
theorem dX9_opensBy_27 : decode cX9_opensBy 27 = .ok (.invokevirtual 140, 3) := by decide +kernel
theorem dX9_opensBy_30 : decode cX9_opensBy 30 = .ok (.iconst 0, 1) := by decide +kernel
theorem dX9_opensBy_31 : decode cX9_opensBy 31 = .ok (.ireturn, 1) := by decide +kernel
theorem dX9_beginOne_0 : decode cX9_beginOne 0 = .ok (.aload_n 0, 1) := by decide +kernel
theorem dX9_beginOne_1 : decode cX9_beginOne 1 = .ok (.getfield 77, 3) := by decide +kernel
theorem dX9_beginOne_4 : decode cX9_beginOne 4 = .ok (.iconst 1, 1) := by decide +kernel
theorem dX9_beginOne_5 : decode cX9_beginOne 5 = .ok (.if_icmp .ne 15, 3) := by decide +kernel
theorem dX9_beginOne_8 : decode cX9_beginOne 8 = .ok (.aload_n 0, 1) := by decide +kernel
theorem dX9_beginOne_9 : decode cX9_beginOne 9 = .ok (.getfield 84, 3) := by decide +kernel
theorem dX9_beginOne_12 : decode cX9_beginOne 12 = .ok (.sipush 9999, 3) := by decide +kernel
theorem dX9_beginOne_15 : decode cX9_beginOne 15 = .ok (.if_icmp .le 5, 3) := by decide +kernel
theorem dX9_beginOne_18 : decode cX9_beginOne 18 = .ok (.iconst 2, 1) := by decide +kernel
theorem dX9_beginOne_19 : decode cX9_beginOne 19 = .ok (.ireturn, 1) := by decide +kernel
theorem dX9_beginOne_20 : decode cX9_beginOne 20 = .ok (.aload_n 0, 1) := by decide +kernel
theorem dX9_beginOne_21 : decode cX9_beginOne 21 = .ok (.invokevirtual 143, 3) := by decide +kernel
theorem dX9_beginOne_24 : decode cX9_beginOne 24 = .ok (.istore_n 2, 1) := by decide +kernel
theorem dX9_beginOne_25 : decode cX9_beginOne 25 = .ok (.iload_n 2, 1) := by decide +kernel
theorem dX9_beginOne_26 : decode cX9_beginOne 26 = .ok (.ifCond .lt 13, 3) := by decide +kernel
theorem dX9_beginOne_29 : decode cX9_beginOne 29 = .ok (.aload_n 0, 1) := by decide +kernel
theorem dX9_beginOne_30 : decode cX9_beginOne 30 = .ok (.iload_n 2, 1) := by decide +kernel
theorem dX9_beginOne_31 : decode cX9_beginOne 31 = .ok (.invokevirtual 146, 3) := by decide +kernel
theorem dX9_beginOne_34 : decode cX9_beginOne 34 = .ok (.ifCond .ne 5, 3) := by decide +kernel
theorem dX9_beginOne_37 : decode cX9_beginOne 37 = .ok (.iconst 5, 1) := by decide +kernel
theorem dX9_beginOne_38 : decode cX9_beginOne 38 = .ok (.ireturn, 1) := by decide +kernel
theorem dX9_beginOne_39 : decode cX9_beginOne 39 = .ok (.aload_n 0, 1) := by decide +kernel
theorem dX9_beginOne_40 : decode cX9_beginOne 40 = .ok (.getfield 77, 3) := by decide +kernel
theorem dX9_beginOne_43 : decode cX9_beginOne 43 = .ok (.iconst 1, 1) := by decide +kernel
theorem dX9_beginOne_44 : decode cX9_beginOne 44 = .ok (.if_icmp .eq 7, 3) := by decide +kernel
theorem dX9_beginOne_47 : decode cX9_beginOne 47 = .ok (.iload_n 2, 1) := by decide +kernel
theorem dX9_beginOne_48 : decode cX9_beginOne 48 = .ok (.ifCond .lt 46, 3) := by decide +kernel
theorem dX9_beginOne_51 : decode cX9_beginOne 51 = .ok (.aload_n 0, 1) := by decide +kernel
theorem dX9_beginOne_52 : decode cX9_beginOne 52 = .ok (.aload_n 0, 1) := by decide +kernel
theorem dX9_beginOne_53 : decode cX9_beginOne 53 = .ok (.getfield 77, 3) := by decide +kernel
theorem dX9_beginOne_56 : decode cX9_beginOne 56 = .ok (.iconst 1, 1) := by decide +kernel
theorem dX9_beginOne_57 : decode cX9_beginOne 57 = .ok (.if_icmp .ne 7, 3) := by decide +kernel
theorem dX9_beginOne_60 : decode cX9_beginOne 60 = .ok (.iconst 0, 1) := by decide +kernel
theorem dX9_beginOne_61 : decode cX9_beginOne 61 = .ok (.goto 4, 3) := by decide +kernel
theorem dX9_beginOne_64 : decode cX9_beginOne 64 = .ok (.iconst 1, 1) := by decide +kernel
theorem dX9_beginOne_65 : decode cX9_beginOne 65 = .ok (.aload_n 0, 1) := by decide +kernel
theorem dX9_beginOne_66 : decode cX9_beginOne 66 = .ok (.getfield 77, 3) := by decide +kernel
theorem dX9_beginOne_69 : decode cX9_beginOne 69 = .ok (.iconst 1, 1) := by decide +kernel
theorem dX9_beginOne_70 : decode cX9_beginOne 70 = .ok (.if_icmp .ne 10, 3) := by decide +kernel
theorem dX9_beginOne_73 : decode cX9_beginOne 73 = .ok (.aload_n 0, 1) := by decide +kernel
theorem dX9_beginOne_74 : decode cX9_beginOne 74 = .ok (.getfield 84, 3) := by decide +kernel
theorem dX9_beginOne_77 : decode cX9_beginOne 77 = .ok (.goto 4, 3) := by decide +kernel
theorem dX9_beginOne_80 : decode cX9_beginOne 80 = .ok (.iload_n 2, 1) := by decide +kernel
theorem dX9_beginOne_81 : decode cX9_beginOne 81 = .ok (.invokevirtual 115, 3) := by decide +kernel
theorem dX9_beginOne_84 : decode cX9_beginOne 84 = .ok (.aload_n 0, 1) := by decide +kernel
theorem dX9_beginOne_85 : decode cX9_beginOne 85 = .ok (.invokevirtual 140, 3) := by decide +kernel
theorem dX9_beginOne_88 : decode cX9_beginOne 88 = .ok (.aload_n 0, 1) := by decide +kernel
theorem dX9_beginOne_89 : decode cX9_beginOne 89 = .ok (.invokevirtual 149, 3) := by decide +kernel
theorem dX9_beginOne_92 : decode cX9_beginOne 92 = .ok (.iconst 0, 1) := by decide +kernel
theorem dX9_beginOne_93 : decode cX9_beginOne 93 = .ok (.ireturn, 1) := by decide +kernel
theorem dX9_beginOne_94 : decode cX9_beginOne 94 = .ok (.aload_n 0, 1) := by decide +kernel
theorem dX9_beginOne_95 : decode cX9_beginOne 95 = .ok (.getfield 77, 3) := by decide +kernel
theorem dX9_beginOne_98 : decode cX9_beginOne 98 = .ok (.bipush 40, 2) := by decide +kernel
theorem dX9_beginOne_100 : decode cX9_beginOne 100 = .ok (.if_icmp .ne 10, 3) := by decide +kernel
theorem dX9_beginOne_103 : decode cX9_beginOne 103 = .ok (.aload_n 0, 1) := by decide +kernel
theorem dX9_beginOne_104 : decode cX9_beginOne 104 = .ok (.bipush 40, 2) := by decide +kernel
theorem dX9_beginOne_106 : decode cX9_beginOne 106 = .ok (.invokevirtual 152, 3) := by decide +kernel
theorem dX9_beginOne_109 : decode cX9_beginOne 109 = .ok (.ireturn, 1) := by decide +kernel
theorem dX9_beginOne_110 : decode cX9_beginOne 110 = .ok (.aload_n 0, 1) := by decide +kernel
theorem dX9_beginOne_111 : decode cX9_beginOne 111 = .ok (.getfield 77, 3) := by decide +kernel
theorem dX9_beginOne_114 : decode cX9_beginOne 114 = .ok (.bipush 45, 2) := by decide +kernel
theorem dX9_beginOne_116 : decode cX9_beginOne 116 = .ok (.if_icmp .ne 9, 3) := by decide +kernel
theorem dX9_beginOne_119 : decode cX9_beginOne 119 = .ok (.aload_n 0, 1) := by decide +kernel
theorem dX9_beginOne_120 : decode cX9_beginOne 120 = .ok (.iconst 2, 1) := by decide +kernel
theorem dX9_beginOne_121 : decode cX9_beginOne 121 = .ok (.invokevirtual 152, 3) := by decide +kernel
theorem dX9_beginOne_124 : decode cX9_beginOne 124 = .ok (.ireturn, 1) := by decide +kernel
theorem dX9_beginOne_125 : decode cX9_beginOne 125 = .ok (.aload_n 0, 1) := by decide +kernel
theorem dX9_beginOne_126 : decode cX9_beginOne 126 = .ok (.getfield 77, 3) := by decide +kernel
theorem dX9_beginOne_129 : decode cX9_beginOne 129 = .ok (.iconst 2, 1) := by decide +kernel
theorem dX9_beginOne_130 : decode cX9_beginOne 130 = .ok (.if_icmp .ne 21, 3) := by decide +kernel
theorem dX9_beginOne_133 : decode cX9_beginOne 133 = .ok (.aload_n 0, 1) := by decide +kernel
theorem dX9_beginOne_134 : decode cX9_beginOne 134 = .ok (.getfield 91, 3) := by decide +kernel
theorem dX9_beginOne_137 : decode cX9_beginOne 137 = .ok (.ldc2_w 155, 3) := by decide +kernel
theorem dX9_beginOne_140 : decode cX9_beginOne 140 = .ok (.lcmp, 1) := by decide +kernel
theorem dX9_beginOne_141 : decode cX9_beginOne 141 = .ok (.ifCond .ne 10, 3) := by decide +kernel
theorem dX9_beginOne_144 : decode cX9_beginOne 144 = .ok (.aload_n 0, 1) := by decide +kernel
theorem dX9_beginOne_145 : decode cX9_beginOne 145 = .ok (.bipush 41, 2) := by decide +kernel
theorem dX9_beginOne_147 : decode cX9_beginOne 147 = .ok (.invokevirtual 152, 3) := by decide +kernel
theorem dX9_beginOne_150 : decode cX9_beginOne 150 = .ok (.ireturn, 1) := by decide +kernel
theorem dX9_beginOne_151 : decode cX9_beginOne 151 = .ok (.aload_n 0, 1) := by decide +kernel
theorem dX9_beginOne_152 : decode cX9_beginOne 152 = .ok (.bipush 110, 2) := by decide +kernel
theorem dX9_beginOne_154 : decode cX9_beginOne 154 = .ok (.bipush 111, 2) := by decide +kernel
theorem dX9_beginOne_156 : decode cX9_beginOne 156 = .ok (.bipush 116, 2) := by decide +kernel
theorem dX9_beginOne_158 : decode cX9_beginOne 158 = .ok (.invokestatic 95, 3) := by decide +kernel
theorem dX9_beginOne_161 : decode cX9_beginOne 161 = .ok (.invokevirtual 157, 3) := by decide +kernel
theorem dX9_beginOne_164 : decode cX9_beginOne 164 = .ok (.ifCond .eq 20, 3) := by decide +kernel
theorem dX9_beginOne_167 : decode cX9_beginOne 167 = .ok (.aload_n 0, 1) := by decide +kernel
theorem dX9_beginOne_168 : decode cX9_beginOne 168 = .ok (.iload_n 1, 1) := by decide +kernel
theorem dX9_beginOne_169 : decode cX9_beginOne 169 = .ok (.invokevirtual 161, 3) := by decide +kernel
theorem dX9_beginOne_172 : decode cX9_beginOne 172 = .ok (.ifCond .eq 12, 3) := by decide +kernel
theorem dX9_beginOne_175 : decode cX9_beginOne 175 = .ok (.aload_n 0, 1) := by decide +kernel
theorem dX9_beginOne_176 : decode cX9_beginOne 176 = .ok (.bipush 20, 2) := by decide +kernel
theorem dX9_beginOne_178 : decode cX9_beginOne 178 = .ok (.invokevirtual 152, 3) := by decide +kernel
theorem dX9_beginOne_181 : decode cX9_beginOne 181 = .ok (.goto 4, 3) := by decide +kernel
theorem dX9_beginOne_184 : decode cX9_beginOne 184 = .ok (.iconst 1, 1) := by decide +kernel
theorem dX9_beginOne_185 : decode cX9_beginOne 185 = .ok (.ireturn, 1) := by decide +kernel
theorem dX9_compareOf_0 : decode cX9_compareOf 0 = .ok (.aload_n 0, 1) := by decide +kernel
theorem dX9_compareOf_1 : decode cX9_compareOf 1 = .ok (.getfield 77, 3) := by decide +kernel
theorem dX9_compareOf_4 : decode cX9_compareOf 4 = .ok (.bipush 60, 2) := by decide +kernel
theorem dX9_compareOf_6 : decode cX9_compareOf 6 = .ok (.if_icmp .ne 8, 3) := by decide +kernel
theorem dX9_compareOf_9 : decode cX9_compareOf 9 = .ok (.bipush 10, 2) := by decide +kernel
theorem dX9_compareOf_11 : decode cX9_compareOf 11 = .ok (.goto 72, 3) := by decide +kernel
theorem dX9_compareOf_14 : decode cX9_compareOf 14 = .ok (.aload_n 0, 1) := by decide +kernel
theorem dX9_compareOf_15 : decode cX9_compareOf 15 = .ok (.getfield 77, 3) := by decide +kernel
theorem dX9_compareOf_18 : decode cX9_compareOf 18 = .ok (.iconst 4, 1) := by decide +kernel
theorem dX9_compareOf_19 : decode cX9_compareOf 19 = .ok (.if_icmp .ne 8, 3) := by decide +kernel
theorem dX9_compareOf_22 : decode cX9_compareOf 22 = .ok (.bipush 11, 2) := by decide +kernel
theorem dX9_compareOf_24 : decode cX9_compareOf 24 = .ok (.goto 59, 3) := by decide +kernel
theorem dX9_compareOf_27 : decode cX9_compareOf 27 = .ok (.aload_n 0, 1) := by decide +kernel
theorem dX9_compareOf_28 : decode cX9_compareOf 28 = .ok (.getfield 77, 3) := by decide +kernel
theorem dX9_compareOf_31 : decode cX9_compareOf 31 = .ok (.bipush 62, 2) := by decide +kernel
theorem dX9_compareOf_33 : decode cX9_compareOf 33 = .ok (.if_icmp .ne 8, 3) := by decide +kernel
theorem dX9_compareOf_36 : decode cX9_compareOf 36 = .ok (.bipush 12, 2) := by decide +kernel
theorem dX9_compareOf_38 : decode cX9_compareOf 38 = .ok (.goto 45, 3) := by decide +kernel
theorem dX9_compareOf_41 : decode cX9_compareOf 41 = .ok (.aload_n 0, 1) := by decide +kernel
theorem dX9_compareOf_42 : decode cX9_compareOf 42 = .ok (.getfield 77, 3) := by decide +kernel
theorem dX9_compareOf_45 : decode cX9_compareOf 45 = .ok (.iconst 5, 1) := by decide +kernel
theorem dX9_compareOf_46 : decode cX9_compareOf 46 = .ok (.if_icmp .ne 8, 3) := by decide +kernel
theorem dX9_compareOf_49 : decode cX9_compareOf 49 = .ok (.bipush 13, 2) := by decide +kernel
theorem dX9_compareOf_51 : decode cX9_compareOf 51 = .ok (.goto 32, 3) := by decide +kernel
theorem dX9_compareOf_54 : decode cX9_compareOf 54 = .ok (.aload_n 0, 1) := by decide +kernel
theorem dX9_compareOf_55 : decode cX9_compareOf 55 = .ok (.getfield 77, 3) := by decide +kernel
theorem dX9_compareOf_58 : decode cX9_compareOf 58 = .ok (.bipush 61, 2) := by decide +kernel
theorem dX9_compareOf_60 : decode cX9_compareOf 60 = .ok (.if_icmp .ne 8, 3) := by decide +kernel
theorem dX9_compareOf_63 : decode cX9_compareOf 63 = .ok (.bipush 14, 2) := by decide +kernel
theorem dX9_compareOf_65 : decode cX9_compareOf 65 = .ok (.goto 18, 3) := by decide +kernel
theorem dX9_compareOf_68 : decode cX9_compareOf 68 = .ok (.aload_n 0, 1) := by decide +kernel
theorem dX9_compareOf_69 : decode cX9_compareOf 69 = .ok (.getfield 77, 3) := by decide +kernel
theorem dX9_compareOf_72 : decode cX9_compareOf 72 = .ok (.bipush 35, 2) := by decide +kernel
theorem dX9_compareOf_74 : decode cX9_compareOf 74 = .ok (.if_icmp .ne 8, 3) := by decide +kernel
theorem dX9_compareOf_77 : decode cX9_compareOf 77 = .ok (.bipush 15, 2) := by decide +kernel
theorem dX9_compareOf_79 : decode cX9_compareOf 79 = .ok (.goto 4, 3) := by decide +kernel
theorem dX9_compareOf_82 : decode cX9_compareOf 82 = .ok (.iconst (-1), 1) := by decide +kernel
theorem dX9_compareOf_83 : decode cX9_compareOf 83 = .ok (.ireturn, 1) := by decide +kernel
theorem dX9_betweenOf_0 : decode cX9_betweenOf 0 = .ok (.aload_n 0, 1) := by decide +kernel
theorem dX9_betweenOf_1 : decode cX9_betweenOf 1 = .ok (.getfield 77, 3) := by decide +kernel
theorem dX9_betweenOf_4 : decode cX9_betweenOf 4 = .ok (.bipush 43, 2) := by decide +kernel
theorem dX9_betweenOf_6 : decode cX9_betweenOf 6 = .ok (.if_icmp .ne 5, 3) := by decide +kernel
theorem dX9_betweenOf_9 : decode cX9_betweenOf 9 = .ok (.iconst 3, 1) := by decide +kernel
theorem dX9_betweenOf_10 : decode cX9_betweenOf 10 = .ok (.ireturn, 1) := by decide +kernel
theorem dX9_betweenOf_11 : decode cX9_betweenOf 11 = .ok (.aload_n 0, 1) := by decide +kernel
theorem dX9_betweenOf_12 : decode cX9_betweenOf 12 = .ok (.getfield 77, 3) := by decide +kernel
theorem dX9_betweenOf_15 : decode cX9_betweenOf 15 = .ok (.bipush 45, 2) := by decide +kernel
theorem dX9_betweenOf_17 : decode cX9_betweenOf 17 = .ok (.if_icmp .ne 5, 3) := by decide +kernel
theorem dX9_betweenOf_20 : decode cX9_betweenOf 20 = .ok (.iconst 4, 1) := by decide +kernel
theorem dX9_betweenOf_21 : decode cX9_betweenOf 21 = .ok (.ireturn, 1) := by decide +kernel
theorem dX9_betweenOf_22 : decode cX9_betweenOf 22 = .ok (.aload_n 0, 1) := by decide +kernel
theorem dX9_betweenOf_23 : decode cX9_betweenOf 23 = .ok (.getfield 77, 3) := by decide +kernel
theorem dX9_betweenOf_26 : decode cX9_betweenOf 26 = .ok (.bipush 42, 2) := by decide +kernel
theorem dX9_betweenOf_28 : decode cX9_betweenOf 28 = .ok (.if_icmp .ne 5, 3) := by decide +kernel
theorem dX9_betweenOf_31 : decode cX9_betweenOf 31 = .ok (.iconst 5, 1) := by decide +kernel
theorem dX9_betweenOf_32 : decode cX9_betweenOf 32 = .ok (.ireturn, 1) := by decide +kernel
theorem dX9_betweenOf_33 : decode cX9_betweenOf 33 = .ok (.aload_n 0, 1) := by decide +kernel
theorem dX9_betweenOf_34 : decode cX9_betweenOf 34 = .ok (.getfield 77, 3) := by decide +kernel
theorem dX9_betweenOf_37 : decode cX9_betweenOf 37 = .ok (.bipush 47, 2) := by decide +kernel
theorem dX9_betweenOf_39 : decode cX9_betweenOf 39 = .ok (.if_icmp .ne 6, 3) := by decide +kernel
theorem dX9_betweenOf_42 : decode cX9_betweenOf 42 = .ok (.bipush 6, 2) := by decide +kernel
theorem dX9_betweenOf_44 : decode cX9_betweenOf 44 = .ok (.ireturn, 1) := by decide +kernel
theorem dX9_betweenOf_45 : decode cX9_betweenOf 45 = .ok (.aload_n 0, 1) := by decide +kernel
theorem dX9_betweenOf_46 : decode cX9_betweenOf 46 = .ok (.iload_n 1, 1) := by decide +kernel
theorem dX9_betweenOf_47 : decode cX9_betweenOf 47 = .ok (.invokevirtual 133, 3) := by decide +kernel
theorem dX9_betweenOf_50 : decode cX9_betweenOf 50 = .ok (.bipush 41, 2) := by decide +kernel
theorem dX9_betweenOf_52 : decode cX9_betweenOf 52 = .ok (.if_icmp .eq 5, 3) := by decide +kernel
theorem dX9_betweenOf_55 : decode cX9_betweenOf 55 = .ok (.iconst (-1), 1) := by decide +kernel
theorem dX9_betweenOf_56 : decode cX9_betweenOf 56 = .ok (.ireturn, 1) := by decide +kernel
theorem dX9_betweenOf_57 : decode cX9_betweenOf 57 = .ok (.aload_n 0, 1) := by decide +kernel
theorem dX9_betweenOf_58 : decode cX9_betweenOf 58 = .ok (.invokevirtual 165, 3) := by decide +kernel
theorem dX9_betweenOf_61 : decode cX9_betweenOf 61 = .ok (.ifCond .ne 8, 3) := by decide +kernel
theorem dX9_betweenOf_64 : decode cX9_betweenOf 64 = .ok (.aload_n 0, 1) := by decide +kernel
theorem dX9_betweenOf_65 : decode cX9_betweenOf 65 = .ok (.invokevirtual 169, 3) := by decide +kernel
theorem dX9_betweenOf_68 : decode cX9_betweenOf 68 = .ok (.ireturn, 1) := by decide +kernel
theorem dX9_betweenOf_69 : decode cX9_betweenOf 69 = .ok (.aload_n 0, 1) := by decide +kernel
theorem dX9_betweenOf_70 : decode cX9_betweenOf 70 = .ok (.bipush 97, 2) := by decide +kernel
theorem dX9_betweenOf_72 : decode cX9_betweenOf 72 = .ok (.bipush 110, 2) := by decide +kernel
theorem dX9_betweenOf_74 : decode cX9_betweenOf 74 = .ok (.bipush 100, 2) := by decide +kernel
theorem dX9_betweenOf_76 : decode cX9_betweenOf 76 = .ok (.invokestatic 95, 3) := by decide +kernel
theorem dX9_betweenOf_79 : decode cX9_betweenOf 79 = .ok (.invokevirtual 157, 3) := by decide +kernel
theorem dX9_betweenOf_82 : decode cX9_betweenOf 82 = .ok (.ifCond .eq 8, 3) := by decide +kernel
theorem dX9_betweenOf_85 : decode cX9_betweenOf 85 = .ok (.bipush 21, 2) := by decide +kernel
theorem dX9_betweenOf_87 : decode cX9_betweenOf 87 = .ok (.goto 28, 3) := by decide +kernel
theorem dX9_betweenOf_90 : decode cX9_betweenOf 90 = .ok (.aload_n 0, 1) := by decide +kernel
theorem dX9_betweenOf_91 : decode cX9_betweenOf 91 = .ok (.getfield 77, 3) := by decide +kernel
theorem dX9_betweenOf_94 : decode cX9_betweenOf 94 = .ok (.iconst 2, 1) := by decide +kernel
theorem dX9_betweenOf_95 : decode cX9_betweenOf 95 = .ok (.if_icmp .ne 19, 3) := by decide +kernel
theorem dX9_betweenOf_98 : decode cX9_betweenOf 98 = .ok (.aload_n 0, 1) := by decide +kernel
theorem dX9_betweenOf_99 : decode cX9_betweenOf 99 = .ok (.getfield 91, 3) := by decide +kernel
theorem dX9_betweenOf_102 : decode cX9_betweenOf 102 = .ok (.ldc2_w 172, 3) := by decide +kernel
theorem dX9_betweenOf_105 : decode cX9_betweenOf 105 = .ok (.lcmp, 1) := by decide +kernel
theorem dX9_betweenOf_106 : decode cX9_betweenOf 106 = .ok (.ifCond .ne 8, 3) := by decide +kernel
theorem dX9_betweenOf_109 : decode cX9_betweenOf 109 = .ok (.bipush 22, 2) := by decide +kernel
theorem dX9_betweenOf_111 : decode cX9_betweenOf 111 = .ok (.goto 4, 3) := by decide +kernel
theorem dX9_betweenOf_114 : decode cX9_betweenOf 114 = .ok (.iconst (-1), 1) := by decide +kernel
theorem dX9_betweenOf_115 : decode cX9_betweenOf 115 = .ok (.ireturn, 1) := by decide +kernel
theorem dX9_behindOne_0 : decode cX9_behindOne 0 = .ok (.aload_n 0, 1) := by decide +kernel
theorem dX9_behindOne_1 : decode cX9_behindOne 1 = .ok (.iload_n 1, 1) := by decide +kernel
theorem dX9_behindOne_2 : decode cX9_behindOne 2 = .ok (.invokevirtual 174, 3) := by decide +kernel
theorem dX9_behindOne_5 : decode cX9_behindOne 5 = .ok (.istore_n 2, 1) := by decide +kernel
theorem dX9_behindOne_6 : decode cX9_behindOne 6 = .ok (.aload_n 0, 1) := by decide +kernel
theorem dX9_behindOne_7 : decode cX9_behindOne 7 = .ok (.invokevirtual 129, 3) := by decide +kernel
theorem dX9_behindOne_10 : decode cX9_behindOne 10 = .ok (.istore_n 3, 1) := by decide +kernel
theorem dX9_behindOne_11 : decode cX9_behindOne 11 = .ok (.iload_n 3, 1) := by decide +kernel
theorem dX9_behindOne_12 : decode cX9_behindOne 12 = .ok (.ifCond .ge 7, 3) := by decide +kernel
theorem dX9_behindOne_15 : decode cX9_behindOne 15 = .ok (.iconst (-1), 1) := by decide +kernel
theorem dX9_behindOne_16 : decode cX9_behindOne 16 = .ok (.goto 9, 3) := by decide +kernel
theorem dX9_behindOne_19 : decode cX9_behindOne 19 = .ok (.aload_n 0, 1) := by decide +kernel
theorem dX9_behindOne_20 : decode cX9_behindOne 20 = .ok (.getfield 29, 3) := by decide +kernel
theorem dX9_behindOne_23 : decode cX9_behindOne 23 = .ok (.iload_n 3, 1) := by decide +kernel
theorem dX9_behindOne_24 : decode cX9_behindOne 24 = .ok (.iaload, 1) := by decide +kernel
theorem dX9_behindOne_25 : decode cX9_behindOne 25 = .ok (.istore 4, 2) := by decide +kernel
theorem dX9_behindOne_27 : decode cX9_behindOne 27 = .ok (.iload_n 2, 1) := by decide +kernel
theorem dX9_behindOne_28 : decode cX9_behindOne 28 = .ok (.ifCond .lt 24, 3) := by decide +kernel
theorem dX9_behindOne_31 : decode cX9_behindOne 31 = .ok (.aload_n 0, 1) := by decide +kernel
theorem dX9_behindOne_32 : decode cX9_behindOne 32 = .ok (.iload_n 2, 1) := by decide +kernel
theorem dX9_behindOne_33 : decode cX9_behindOne 33 = .ok (.invokestatic 112, 3) := by decide +kernel
theorem dX9_behindOne_36 : decode cX9_behindOne 36 = .ok (.invokevirtual 126, 3) := by decide +kernel
theorem dX9_behindOne_39 : decode cX9_behindOne 39 = .ok (.aload_n 0, 1) := by decide +kernel
theorem dX9_behindOne_40 : decode cX9_behindOne 40 = .ok (.iload_n 2, 1) := by decide +kernel
theorem dX9_behindOne_41 : decode cX9_behindOne 41 = .ok (.invokevirtual 137, 3) := by decide +kernel
theorem dX9_behindOne_44 : decode cX9_behindOne 44 = .ok (.aload_n 0, 1) := by decide +kernel
theorem dX9_behindOne_45 : decode cX9_behindOne 45 = .ok (.iconst 0, 1) := by decide +kernel
theorem dX9_behindOne_46 : decode cX9_behindOne 46 = .ok (.putfield 122, 3) := by decide +kernel
theorem dX9_behindOne_49 : decode cX9_behindOne 49 = .ok (.goto 152, 3) := by decide +kernel
theorem dX9_behindOne_52 : decode cX9_behindOne 52 = .ok (.aload_n 0, 1) := by decide +kernel
theorem dX9_behindOne_53 : decode cX9_behindOne 53 = .ok (.getfield 77, 3) := by decide +kernel
theorem dX9_behindOne_56 : decode cX9_behindOne 56 = .ok (.bipush 41, 2) := by decide +kernel
theorem dX9_behindOne_58 : decode cX9_behindOne 58 = .ok (.if_icmp .ne 10, 3) := by decide +kernel
theorem dX9_behindOne_61 : decode cX9_behindOne 61 = .ok (.iload 4, 2) := by decide +kernel
theorem dX9_behindOne_63 : decode cX9_behindOne 63 = .ok (.bipush 40, 2) := by decide +kernel
theorem dX9_behindOne_65 : decode cX9_behindOne 65 = .ok (.if_icmp .eq 26, 3) := by decide +kernel
theorem dX9_behindOne_68 : decode cX9_behindOne 68 = .ok (.aload_n 0, 1) := by decide +kernel
theorem dX9_behindOne_69 : decode cX9_behindOne 69 = .ok (.bipush 101, 2) := by decide +kernel
theorem dX9_behindOne_71 : decode cX9_behindOne 71 = .ok (.bipush 110, 2) := by decide +kernel
theorem dX9_behindOne_73 : decode cX9_behindOne 73 = .ok (.bipush 100, 2) := by decide +kernel
theorem dX9_behindOne_75 : decode cX9_behindOne 75 = .ok (.invokestatic 95, 3) := by decide +kernel
theorem dX9_behindOne_78 : decode cX9_behindOne 78 = .ok (.invokevirtual 157, 3) := by decide +kernel
theorem dX9_behindOne_81 : decode cX9_behindOne 81 = .ok (.ifCond .eq 56, 3) := by decide +kernel
theorem dX9_behindOne_84 : decode cX9_behindOne 84 = .ok (.iload 4, 2) := by decide +kernel
theorem dX9_behindOne_86 : decode cX9_behindOne 86 = .ok (.bipush 43, 2) := by decide +kernel
theorem dX9_behindOne_88 : decode cX9_behindOne 88 = .ok (.if_icmp .ne 49, 3) := by decide +kernel
theorem dX9_behindOne_91 : decode cX9_behindOne 91 = .ok (.aload_n 0, 1) := by decide +kernel
theorem dX9_behindOne_92 : decode cX9_behindOne 92 = .ok (.iconst 1, 1) := by decide +kernel
theorem dX9_behindOne_93 : decode cX9_behindOne 93 = .ok (.invokevirtual 126, 3) := by decide +kernel
theorem dX9_behindOne_96 : decode cX9_behindOne 96 = .ok (.aload_n 0, 1) := by decide +kernel
theorem dX9_behindOne_97 : decode cX9_behindOne 97 = .ok (.dup, 1) := by decide +kernel
theorem dX9_behindOne_98 : decode cX9_behindOne 98 = .ok (.getfield 109, 3) := by decide +kernel
theorem dX9_behindOne_101 : decode cX9_behindOne 101 = .ok (.iconst 1, 1) := by decide +kernel
theorem dX9_behindOne_102 : decode cX9_behindOne 102 = .ok (.isub, 1) := by decide +kernel
theorem dX9_behindOne_103 : decode cX9_behindOne 103 = .ok (.putfield 109, 3) := by decide +kernel
theorem dX9_behindOne_106 : decode cX9_behindOne 106 = .ok (.aload_n 0, 1) := by decide +kernel
theorem dX9_behindOne_107 : decode cX9_behindOne 107 = .ok (.dup, 1) := by decide +kernel
theorem dX9_behindOne_108 : decode cX9_behindOne 108 = .ok (.getfield 119, 3) := by decide +kernel
theorem dX9_behindOne_111 : decode cX9_behindOne 111 = .ok (.iconst 1, 1) := by decide +kernel
theorem dX9_behindOne_112 : decode cX9_behindOne 112 = .ok (.isub, 1) := by decide +kernel
theorem dX9_behindOne_113 : decode cX9_behindOne 113 = .ok (.putfield 119, 3) := by decide +kernel
theorem dX9_behindOne_116 : decode cX9_behindOne 116 = .ok (.iload 4, 2) := by decide +kernel
theorem dX9_behindOne_118 : decode cX9_behindOne 118 = .ok (.bipush 43, 2) := by decide +kernel
theorem dX9_behindOne_120 : decode cX9_behindOne 120 = .ok (.if_icmp .ne 10, 3) := by decide +kernel
theorem dX9_behindOne_123 : decode cX9_behindOne 123 = .ok (.aload_n 0, 1) := by decide +kernel
theorem dX9_behindOne_124 : decode cX9_behindOne 124 = .ok (.bipush 23, 2) := by decide +kernel
theorem dX9_behindOne_126 : decode cX9_behindOne 126 = .ok (.iconst 0, 1) := by decide +kernel
theorem dX9_behindOne_127 : decode cX9_behindOne 127 = .ok (.invokevirtual 115, 3) := by decide +kernel
theorem dX9_behindOne_130 : decode cX9_behindOne 130 = .ok (.aload_n 0, 1) := by decide +kernel
theorem dX9_behindOne_131 : decode cX9_behindOne 131 = .ok (.invokevirtual 149, 3) := by decide +kernel
theorem dX9_behindOne_134 : decode cX9_behindOne 134 = .ok (.goto 67, 3) := by decide +kernel
theorem dX9_behindOne_137 : decode cX9_behindOne 137 = .ok (.aload_n 0, 1) := by decide +kernel
theorem dX9_behindOne_138 : decode cX9_behindOne 138 = .ok (.getfield 77, 3) := by decide +kernel
theorem dX9_behindOne_141 : decode cX9_behindOne 141 = .ok (.bipush 63, 2) := by decide +kernel
theorem dX9_behindOne_143 : decode cX9_behindOne 143 = .ok (.if_icmp .ne 17, 3) := by decide +kernel
theorem dX9_behindOne_146 : decode cX9_behindOne 146 = .ok (.iload 4, 2) := by decide +kernel
theorem dX9_behindOne_148 : decode cX9_behindOne 148 = .ok (.bipush 41, 2) := by decide +kernel
theorem dX9_behindOne_150 : decode cX9_behindOne 150 = .ok (.if_icmp .ne 10, 3) := by decide +kernel
theorem dX9_behindOne_153 : decode cX9_behindOne 153 = .ok (.aload_n 0, 1) := by decide +kernel
theorem dX9_behindOne_154 : decode cX9_behindOne 154 = .ok (.invokevirtual 165, 3) := by decide +kernel
theorem dX9_behindOne_157 : decode cX9_behindOne 157 = .ok (.ifCond .ne 19, 3) := by decide +kernel
theorem dX9_behindOne_160 : decode cX9_behindOne 160 = .ok (.aload_n 0, 1) := by decide +kernel
theorem dX9_behindOne_161 : decode cX9_behindOne 161 = .ok (.getfield 77, 3) := by decide +kernel
theorem dX9_behindOne_164 : decode cX9_behindOne 164 = .ok (.bipush 58, 2) := by decide +kernel
theorem dX9_behindOne_166 : decode cX9_behindOne 166 = .ok (.if_icmp .ne 33, 3) := by decide +kernel
theorem dX9_behindOne_169 : decode cX9_behindOne 169 = .ok (.iload 4, 2) := by decide +kernel
theorem dX9_behindOne_171 : decode cX9_behindOne 171 = .ok (.bipush 42, 2) := by decide +kernel
theorem dX9_behindOne_173 : decode cX9_behindOne 173 = .ok (.if_icmp .ne 26, 3) := by decide +kernel
theorem dX9_behindOne_176 : decode cX9_behindOne 176 = .ok (.aload_n 0, 1) := by decide +kernel
theorem dX9_behindOne_177 : decode cX9_behindOne 177 = .ok (.iconst 1, 1) := by decide +kernel
theorem dX9_behindOne_178 : decode cX9_behindOne 178 = .ok (.invokevirtual 126, 3) := by decide +kernel
theorem dX9_behindOne_181 : decode cX9_behindOne 181 = .ok (.aload_n 0, 1) := by decide +kernel
theorem dX9_behindOne_182 : decode cX9_behindOne 182 = .ok (.getfield 29, 3) := by decide +kernel
theorem dX9_behindOne_185 : decode cX9_behindOne 185 = .ok (.iload_n 3, 1) := by decide +kernel
theorem dX9_behindOne_186 : decode cX9_behindOne 186 = .ok (.iload 4, 2) := by decide +kernel
theorem dX9_behindOne_188 : decode cX9_behindOne 188 = .ok (.iconst 1, 1) := by decide +kernel
theorem dX9_behindOne_189 : decode cX9_behindOne 189 = .ok (.iadd, 1) := by decide +kernel
theorem dX9_behindOne_190 : decode cX9_behindOne 190 = .ok (.iastore, 1) := by decide +kernel
theorem dX9_behindOne_191 : decode cX9_behindOne 191 = .ok (.aload_n 0, 1) := by decide +kernel
theorem dX9_behindOne_192 : decode cX9_behindOne 192 = .ok (.iconst 0, 1) := by decide +kernel
theorem dX9_behindOne_193 : decode cX9_behindOne 193 = .ok (.putfield 122, 3) := by decide +kernel
theorem dX9_behindOne_196 : decode cX9_behindOne 196 = .ok (.goto 5, 3) := by decide +kernel
theorem dX9_behindOne_199 : decode cX9_behindOne 199 = .ok (.iconst 0, 1) := by decide +kernel
theorem dX9_behindOne_200 : decode cX9_behindOne 200 = .ok (.ireturn, 1) := by decide +kernel
theorem dX9_behindOne_201 : decode cX9_behindOne 201 = .ok (.aload_n 0, 1) := by decide +kernel
theorem dX9_behindOne_202 : decode cX9_behindOne 202 = .ok (.invokevirtual 140, 3) := by decide +kernel
theorem dX9_behindOne_205 : decode cX9_behindOne 205 = .ok (.iconst 1, 1) := by decide +kernel
theorem dX9_behindOne_206 : decode cX9_behindOne 206 = .ok (.ireturn, 1) := by decide +kernel
theorem dX9_parsed_0 : decode cX9_parsed 0 = .ok (.aload_n 0, 1) := by decide +kernel
theorem dX9_parsed_1 : decode cX9_parsed 1 = .ok (.iconst 0, 1) := by decide +kernel
theorem dX9_parsed_2 : decode cX9_parsed 2 = .ok (.putfield 109, 3) := by decide +kernel
theorem dX9_parsed_5 : decode cX9_parsed 5 = .ok (.aload_n 0, 1) := by decide +kernel
theorem dX9_parsed_6 : decode cX9_parsed 6 = .ok (.iconst 0, 1) := by decide +kernel
theorem dX9_parsed_7 : decode cX9_parsed 7 = .ok (.putfield 122, 3) := by decide +kernel
theorem dX9_parsed_10 : decode cX9_parsed 10 = .ok (.iconst 1, 1) := by decide +kernel
theorem dX9_parsed_11 : decode cX9_parsed 11 = .ok (.istore_n 2, 1) := by decide +kernel
theorem dX9_parsed_12 : decode cX9_parsed 12 = .ok (.iload_n 2, 1) := by decide +kernel
theorem dX9_parsed_13 : decode cX9_parsed 13 = .ok (.ifCond .eq 34, 3) := by decide +kernel
theorem dX9_parsed_16 : decode cX9_parsed 16 = .ok (.aload_n 0, 1) := by decide +kernel
theorem dX9_parsed_17 : decode cX9_parsed 17 = .ok (.getfield 122, 3) := by decide +kernel
theorem dX9_parsed_20 : decode cX9_parsed 20 = .ok (.ifCond .eq 12, 3) := by decide +kernel
theorem dX9_parsed_23 : decode cX9_parsed 23 = .ok (.aload_n 0, 1) := by decide +kernel
theorem dX9_parsed_24 : decode cX9_parsed 24 = .ok (.iload_n 1, 1) := by decide +kernel
theorem dX9_parsed_25 : decode cX9_parsed 25 = .ok (.invokevirtual 177, 3) := by decide +kernel
theorem dX9_parsed_28 : decode cX9_parsed 28 = .ok (.istore_n 2, 1) := by decide +kernel
theorem dX9_parsed_29 : decode cX9_parsed 29 = .ok (.goto (-17), 3) := by decide +kernel
theorem dX9_parsed_32 : decode cX9_parsed 32 = .ok (.aload_n 0, 1) := by decide +kernel
theorem dX9_parsed_33 : decode cX9_parsed 33 = .ok (.iload_n 1, 1) := by decide +kernel
theorem dX9_parsed_34 : decode cX9_parsed 34 = .ok (.invokevirtual 180, 3) := by decide +kernel
theorem dX9_parsed_37 : decode cX9_parsed 37 = .ok (.istore_n 3, 1) := by decide +kernel
theorem dX9_parsed_38 : decode cX9_parsed 38 = .ok (.iload_n 3, 1) := by decide +kernel
theorem dX9_parsed_39 : decode cX9_parsed 39 = .ok (.ifCond .eq 5, 3) := by decide +kernel
theorem dX9_parsed_42 : decode cX9_parsed 42 = .ok (.iload_n 3, 1) := by decide +kernel
theorem dX9_parsed_43 : decode cX9_parsed 43 = .ok (.ireturn, 1) := by decide +kernel
theorem dX9_parsed_44 : decode cX9_parsed 44 = .ok (.goto (-32), 3) := by decide +kernel
theorem dX9_parsed_47 : decode cX9_parsed 47 = .ok (.aload_n 0, 1) := by decide +kernel
theorem dX9_parsed_48 : decode cX9_parsed 48 = .ok (.invokevirtual 129, 3) := by decide +kernel
theorem dX9_parsed_51 : decode cX9_parsed 51 = .ok (.ifCond .ge 14, 3) := by decide +kernel
theorem dX9_parsed_54 : decode cX9_parsed 54 = .ok (.iload_n 1, 1) := by decide +kernel
theorem dX9_parsed_55 : decode cX9_parsed 55 = .ok (.ifCond .eq 12, 3) := by decide +kernel
theorem dX9_parsed_58 : decode cX9_parsed 58 = .ok (.aload_n 0, 1) := by decide +kernel
theorem dX9_parsed_59 : decode cX9_parsed 59 = .ok (.invokevirtual 165, 3) := by decide +kernel
theorem dX9_parsed_62 : decode cX9_parsed 62 = .ok (.ifCond .ne 5, 3) := by decide +kernel
theorem dX9_parsed_65 : decode cX9_parsed 65 = .ok (.iconst 1, 1) := by decide +kernel
theorem dX9_parsed_66 : decode cX9_parsed 66 = .ok (.ireturn, 1) := by decide +kernel
theorem dX9_parsed_67 : decode cX9_parsed 67 = .ok (.aload_n 0, 1) := by decide +kernel
theorem dX9_parsed_68 : decode cX9_parsed 68 = .ok (.iconst 1, 1) := by decide +kernel
theorem dX9_parsed_69 : decode cX9_parsed 69 = .ok (.invokevirtual 126, 3) := by decide +kernel
theorem dX9_parsed_72 : decode cX9_parsed 72 = .ok (.iconst 0, 1) := by decide +kernel
theorem dX9_parsed_73 : decode cX9_parsed 73 = .ok (.ireturn, 1) := by decide +kernel
theorem dX9_isAppetite_0 : decode cX9_isAppetite 0 = .ok (.aload_n 0, 1) := by decide +kernel
theorem dX9_isAppetite_1 : decode cX9_isAppetite 1 = .ok (.getfield 67, 3) := by decide +kernel
theorem dX9_isAppetite_4 : decode cX9_isAppetite 4 = .ok (.aload_n 0, 1) := by decide +kernel
theorem dX9_isAppetite_5 : decode cX9_isAppetite 5 = .ok (.getfield 74, 3) := by decide +kernel
theorem dX9_isAppetite_8 : decode cX9_isAppetite 8 = .ok (.isub, 1) := by decide +kernel
theorem dX9_isAppetite_9 : decode cX9_isAppetite 9 = .ok (.bipush 8, 2) := by decide +kernel
theorem dX9_isAppetite_11 : decode cX9_isAppetite 11 = .ok (.if_icmp .ne 61, 3) := by decide +kernel
theorem dX9_isAppetite_14 : decode cX9_isAppetite 14 = .ok (.aload_n 0, 1) := by decide +kernel
theorem dX9_isAppetite_15 : decode cX9_isAppetite 15 = .ok (.aload_n 0, 1) := by decide +kernel
theorem dX9_isAppetite_16 : decode cX9_isAppetite 16 = .ok (.getfield 74, 3) := by decide +kernel
theorem dX9_isAppetite_19 : decode cX9_isAppetite 19 = .ok (.invokevirtual 70, 3) := by decide +kernel
theorem dX9_isAppetite_22 : decode cX9_isAppetite 22 = .ok (.bipush 97, 2) := by decide +kernel
theorem dX9_isAppetite_24 : decode cX9_isAppetite 24 = .ok (.if_icmp .ne 48, 3) := by decide +kernel
theorem dX9_isAppetite_27 : decode cX9_isAppetite 27 = .ok (.aload_n 0, 1) := by decide +kernel
theorem dX9_isAppetite_28 : decode cX9_isAppetite 28 = .ok (.aload_n 0, 1) := by decide +kernel
theorem dX9_isAppetite_29 : decode cX9_isAppetite 29 = .ok (.getfield 74, 3) := by decide +kernel
theorem dX9_isAppetite_32 : decode cX9_isAppetite 32 = .ok (.iconst 1, 1) := by decide +kernel
theorem dX9_isAppetite_33 : decode cX9_isAppetite 33 = .ok (.iadd, 1) := by decide +kernel
theorem dX9_isAppetite_34 : decode cX9_isAppetite 34 = .ok (.invokevirtual 70, 3) := by decide +kernel
theorem dX9_isAppetite_37 : decode cX9_isAppetite 37 = .ok (.bipush 112, 2) := by decide +kernel
theorem dX9_isAppetite_39 : decode cX9_isAppetite 39 = .ok (.if_icmp .ne 33, 3) := by decide +kernel
theorem dX9_isAppetite_42 : decode cX9_isAppetite 42 = .ok (.aload_n 0, 1) := by decide +kernel
theorem dX9_isAppetite_43 : decode cX9_isAppetite 43 = .ok (.aload_n 0, 1) := by decide +kernel
theorem dX9_isAppetite_44 : decode cX9_isAppetite 44 = .ok (.getfield 74, 3) := by decide +kernel
theorem dX9_isAppetite_47 : decode cX9_isAppetite 47 = .ok (.iconst 2, 1) := by decide +kernel
theorem dX9_isAppetite_48 : decode cX9_isAppetite 48 = .ok (.iadd, 1) := by decide +kernel
theorem dX9_isAppetite_49 : decode cX9_isAppetite 49 = .ok (.invokevirtual 70, 3) := by decide +kernel
theorem dX9_isAppetite_52 : decode cX9_isAppetite 52 = .ok (.bipush 112, 2) := by decide +kernel
theorem dX9_isAppetite_54 : decode cX9_isAppetite 54 = .ok (.if_icmp .ne 18, 3) := by decide +kernel
theorem dX9_isAppetite_57 : decode cX9_isAppetite 57 = .ok (.aload_n 0, 1) := by decide +kernel
theorem dX9_isAppetite_58 : decode cX9_isAppetite 58 = .ok (.aload_n 0, 1) := by decide +kernel
theorem dX9_isAppetite_59 : decode cX9_isAppetite 59 = .ok (.getfield 74, 3) := by decide +kernel
theorem dX9_isAppetite_62 : decode cX9_isAppetite 62 = .ok (.iconst 3, 1) := by decide +kernel
theorem dX9_isAppetite_63 : decode cX9_isAppetite 63 = .ok (.iadd, 1) := by decide +kernel
theorem dX9_isAppetite_64 : decode cX9_isAppetite 64 = .ok (.invokevirtual 70, 3) := by decide +kernel
theorem dX9_isAppetite_67 : decode cX9_isAppetite 67 = .ok (.bipush 101, 2) := by decide +kernel
theorem dX9_isAppetite_69 : decode cX9_isAppetite 69 = .ok (.if_icmp .eq 5, 3) := by decide +kernel
theorem dX9_isAppetite_72 : decode cX9_isAppetite 72 = .ok (.iconst 0, 1) := by decide +kernel
theorem dX9_isAppetite_73 : decode cX9_isAppetite 73 = .ok (.ireturn, 1) := by decide +kernel
theorem dX9_isAppetite_74 : decode cX9_isAppetite 74 = .ok (.aload_n 0, 1) := by decide +kernel
theorem dX9_isAppetite_75 : decode cX9_isAppetite 75 = .ok (.aload_n 0, 1) := by decide +kernel
theorem dX9_isAppetite_76 : decode cX9_isAppetite 76 = .ok (.getfield 74, 3) := by decide +kernel
theorem dX9_isAppetite_79 : decode cX9_isAppetite 79 = .ok (.iconst 4, 1) := by decide +kernel
theorem dX9_isAppetite_80 : decode cX9_isAppetite 80 = .ok (.iadd, 1) := by decide +kernel
theorem dX9_isAppetite_81 : decode cX9_isAppetite 81 = .ok (.invokevirtual 70, 3) := by decide +kernel
theorem dX9_isAppetite_84 : decode cX9_isAppetite 84 = .ok (.bipush 116, 2) := by decide +kernel
theorem dX9_isAppetite_86 : decode cX9_isAppetite 86 = .ok (.if_icmp .ne 54, 3) := by decide +kernel
theorem dX9_isAppetite_89 : decode cX9_isAppetite 89 = .ok (.aload_n 0, 1) := by decide +kernel
theorem dX9_isAppetite_90 : decode cX9_isAppetite 90 = .ok (.aload_n 0, 1) := by decide +kernel
theorem dX9_isAppetite_91 : decode cX9_isAppetite 91 = .ok (.getfield 74, 3) := by decide +kernel
theorem dX9_isAppetite_94 : decode cX9_isAppetite 94 = .ok (.iconst 5, 1) := by decide +kernel
theorem dX9_isAppetite_95 : decode cX9_isAppetite 95 = .ok (.iadd, 1) := by decide +kernel
theorem dX9_isAppetite_96 : decode cX9_isAppetite 96 = .ok (.invokevirtual 70, 3) := by decide +kernel
theorem dX9_isAppetite_99 : decode cX9_isAppetite 99 = .ok (.bipush 105, 2) := by decide +kernel
theorem dX9_isAppetite_101 : decode cX9_isAppetite 101 = .ok (.if_icmp .ne 39, 3) := by decide +kernel
theorem dX9_isAppetite_104 : decode cX9_isAppetite 104 = .ok (.aload_n 0, 1) := by decide +kernel
theorem dX9_isAppetite_105 : decode cX9_isAppetite 105 = .ok (.aload_n 0, 1) := by decide +kernel
theorem dX9_isAppetite_106 : decode cX9_isAppetite 106 = .ok (.getfield 74, 3) := by decide +kernel
theorem dX9_isAppetite_109 : decode cX9_isAppetite 109 = .ok (.bipush 6, 2) := by decide +kernel
theorem dX9_isAppetite_111 : decode cX9_isAppetite 111 = .ok (.iadd, 1) := by decide +kernel
theorem dX9_isAppetite_112 : decode cX9_isAppetite 112 = .ok (.invokevirtual 70, 3) := by decide +kernel
theorem dX9_isAppetite_115 : decode cX9_isAppetite 115 = .ok (.bipush 116, 2) := by decide +kernel
theorem dX9_isAppetite_117 : decode cX9_isAppetite 117 = .ok (.if_icmp .ne 23, 3) := by decide +kernel
theorem dX9_isAppetite_120 : decode cX9_isAppetite 120 = .ok (.aload_n 0, 1) := by decide +kernel
theorem dX9_isAppetite_121 : decode cX9_isAppetite 121 = .ok (.aload_n 0, 1) := by decide +kernel
theorem dX9_isAppetite_122 : decode cX9_isAppetite 122 = .ok (.getfield 74, 3) := by decide +kernel
theorem dX9_isAppetite_125 : decode cX9_isAppetite 125 = .ok (.bipush 7, 2) := by decide +kernel
theorem dX9_isAppetite_127 : decode cX9_isAppetite 127 = .ok (.iadd, 1) := by decide +kernel
theorem dX9_isAppetite_128 : decode cX9_isAppetite 128 = .ok (.invokevirtual 70, 3) := by decide +kernel
theorem dX9_isAppetite_131 : decode cX9_isAppetite 131 = .ok (.bipush 101, 2) := by decide +kernel
theorem dX9_isAppetite_133 : decode cX9_isAppetite 133 = .ok (.if_icmp .ne 7, 3) := by decide +kernel
theorem dX9_isAppetite_136 : decode cX9_isAppetite 136 = .ok (.iconst 1, 1) := by decide +kernel
theorem dX9_isAppetite_137 : decode cX9_isAppetite 137 = .ok (.goto 4, 3) := by decide +kernel
theorem dX9_isAppetite_140 : decode cX9_isAppetite 140 = .ok (.iconst 0, 1) := by decide +kernel
theorem dX9_isAppetite_141 : decode cX9_isAppetite 141 = .ok (.ireturn, 1) := by decide +kernel
theorem dX9_nameOf_0 : decode cX9_nameOf 0 = .ok (.aload_n 0, 1) := by decide +kernel
theorem dX9_nameOf_1 : decode cX9_nameOf 1 = .ok (.getfield 77, 3) := by decide +kernel
theorem dX9_nameOf_4 : decode cX9_nameOf 4 = .ok (.iconst 2, 1) := by decide +kernel
theorem dX9_nameOf_5 : decode cX9_nameOf 5 = .ok (.if_icmp .eq 5, 3) := by decide +kernel
theorem dX9_nameOf_8 : decode cX9_nameOf 8 = .ok (.iconst (-1), 1) := by decide +kernel
theorem dX9_nameOf_9 : decode cX9_nameOf 9 = .ok (.ireturn, 1) := by decide +kernel
theorem dX9_nameOf_10 : decode cX9_nameOf 10 = .ok (.aload_n 0, 1) := by decide +kernel
theorem dX9_nameOf_11 : decode cX9_nameOf 11 = .ok (.getfield 91, 3) := by decide +kernel
theorem dX9_nameOf_14 : decode cX9_nameOf 14 = .ok (.bipush 100, 2) := by decide +kernel
theorem dX9_nameOf_16 : decode cX9_nameOf 16 = .ok (.bipush 97, 2) := by decide +kernel
theorem dX9_nameOf_18 : decode cX9_nameOf 18 = .ok (.bipush 121, 2) := by decide +kernel
theorem dX9_nameOf_20 : decode cX9_nameOf 20 = .ok (.invokestatic 95, 3) := by decide +kernel
theorem dX9_nameOf_23 : decode cX9_nameOf 23 = .ok (.lcmp, 1) := by decide +kernel
theorem dX9_nameOf_24 : decode cX9_nameOf 24 = .ok (.ifCond .ne 5, 3) := by decide +kernel
theorem dX9_nameOf_27 : decode cX9_nameOf 27 = .ok (.iconst 0, 1) := by decide +kernel
theorem dX9_nameOf_28 : decode cX9_nameOf 28 = .ok (.ireturn, 1) := by decide +kernel
theorem dX9_nameOf_29 : decode cX9_nameOf 29 = .ok (.aload_n 0, 1) := by decide +kernel
theorem dX9_nameOf_30 : decode cX9_nameOf 30 = .ok (.getfield 91, 3) := by decide +kernel
theorem dX9_nameOf_33 : decode cX9_nameOf 33 = .ok (.bipush 116, 2) := by decide +kernel
theorem dX9_nameOf_35 : decode cX9_nameOf 35 = .ok (.bipush 97, 2) := by decide +kernel
theorem dX9_nameOf_37 : decode cX9_nameOf 37 = .ok (.bipush 98, 2) := by decide +kernel
theorem dX9_nameOf_39 : decode cX9_nameOf 39 = .ok (.bipush 108, 2) := by decide +kernel
theorem dX9_nameOf_41 : decode cX9_nameOf 41 = .ok (.bipush 101, 2) := by decide +kernel
theorem dX9_nameOf_43 : decode cX9_nameOf 43 = .ok (.invokestatic 99, 3) := by decide +kernel
theorem dX9_nameOf_46 : decode cX9_nameOf 46 = .ok (.lcmp, 1) := by decide +kernel
theorem dX9_nameOf_47 : decode cX9_nameOf 47 = .ok (.ifCond .ne 5, 3) := by decide +kernel
theorem dX9_nameOf_50 : decode cX9_nameOf 50 = .ok (.iconst 1, 1) := by decide +kernel
theorem dX9_nameOf_51 : decode cX9_nameOf 51 = .ok (.ireturn, 1) := by decide +kernel
theorem dX9_nameOf_52 : decode cX9_nameOf 52 = .ok (.aload_n 0, 1) := by decide +kernel
theorem dX9_nameOf_53 : decode cX9_nameOf 53 = .ok (.getfield 91, 3) := by decide +kernel
theorem dX9_nameOf_56 : decode cX9_nameOf 56 = .ok (.bipush 100, 2) := by decide +kernel
theorem dX9_nameOf_58 : decode cX9_nameOf 58 = .ok (.bipush 97, 2) := by decide +kernel
theorem dX9_nameOf_60 : decode cX9_nameOf 60 = .ok (.bipush 119, 2) := by decide +kernel
theorem dX9_nameOf_62 : decode cX9_nameOf 62 = .ok (.bipush 110, 2) := by decide +kernel
theorem dX9_nameOf_64 : decode cX9_nameOf 64 = .ok (.invokestatic 183, 3) := by decide +kernel
theorem dX9_nameOf_67 : decode cX9_nameOf 67 = .ok (.lcmp, 1) := by decide +kernel
theorem dX9_nameOf_68 : decode cX9_nameOf 68 = .ok (.ifCond .ne 5, 3) := by decide +kernel
theorem dX9_nameOf_71 : decode cX9_nameOf 71 = .ok (.iconst 2, 1) := by decide +kernel
theorem dX9_nameOf_72 : decode cX9_nameOf 72 = .ok (.ireturn, 1) := by decide +kernel
theorem dX9_nameOf_73 : decode cX9_nameOf 73 = .ok (.aload_n 0, 1) := by decide +kernel
theorem dX9_nameOf_74 : decode cX9_nameOf 74 = .ok (.getfield 91, 3) := by decide +kernel
theorem dX9_nameOf_77 : decode cX9_nameOf 77 = .ok (.bipush 115, 2) := by decide +kernel
theorem dX9_nameOf_79 : decode cX9_nameOf 79 = .ok (.bipush 105, 2) := by decide +kernel
theorem dX9_nameOf_81 : decode cX9_nameOf 81 = .ok (.bipush 115, 2) := by decide +kernel
theorem dX9_nameOf_83 : decode cX9_nameOf 83 = .ok (.bipush 116, 2) := by decide +kernel
theorem dX9_nameOf_85 : decode cX9_nameOf 85 = .ok (.bipush 101, 2) := by decide +kernel
theorem dX9_nameOf_87 : decode cX9_nameOf 87 = .ok (.bipush 114, 2) := by decide +kernel
theorem dX9_nameOf_89 : decode cX9_nameOf 89 = .ok (.invokestatic 187, 3) := by decide +kernel
theorem dX9_nameOf_92 : decode cX9_nameOf 92 = .ok (.lcmp, 1) := by decide +kernel
theorem dX9_nameOf_93 : decode cX9_nameOf 93 = .ok (.ifCond .ne 5, 3) := by decide +kernel
theorem dX9_nameOf_96 : decode cX9_nameOf 96 = .ok (.iconst 3, 1) := by decide +kernel
theorem dX9_nameOf_97 : decode cX9_nameOf 97 = .ok (.ireturn, 1) := by decide +kernel
theorem dX9_nameOf_98 : decode cX9_nameOf 98 = .ok (.aload_n 0, 1) := by decide +kernel
theorem dX9_nameOf_99 : decode cX9_nameOf 99 = .ok (.invokevirtual 191, 3) := by decide +kernel
theorem dX9_nameOf_102 : decode cX9_nameOf 102 = .ok (.ifCond .eq 7, 3) := by decide +kernel
theorem dX9_nameOf_105 : decode cX9_nameOf 105 = .ok (.iconst 4, 1) := by decide +kernel
theorem dX9_nameOf_106 : decode cX9_nameOf 106 = .ok (.goto 27, 3) := by decide +kernel
theorem dX9_nameOf_109 : decode cX9_nameOf 109 = .ok (.aload_n 0, 1) := by decide +kernel
theorem dX9_nameOf_110 : decode cX9_nameOf 110 = .ok (.getfield 91, 3) := by decide +kernel
theorem dX9_nameOf_113 : decode cX9_nameOf 113 = .ok (.bipush 108, 2) := by decide +kernel
theorem dX9_nameOf_115 : decode cX9_nameOf 115 = .ok (.bipush 101, 2) := by decide +kernel
theorem dX9_nameOf_117 : decode cX9_nameOf 117 = .ok (.bipush 102, 2) := by decide +kernel
theorem dX9_nameOf_119 : decode cX9_nameOf 119 = .ok (.bipush 116, 2) := by decide +kernel
theorem dX9_nameOf_121 : decode cX9_nameOf 121 = .ok (.invokestatic 183, 3) := by decide +kernel
theorem dX9_nameOf_124 : decode cX9_nameOf 124 = .ok (.lcmp, 1) := by decide +kernel
theorem dX9_nameOf_125 : decode cX9_nameOf 125 = .ok (.ifCond .ne 7, 3) := by decide +kernel
theorem dX9_nameOf_128 : decode cX9_nameOf 128 = .ok (.iconst 5, 1) := by decide +kernel
theorem dX9_nameOf_129 : decode cX9_nameOf 129 = .ok (.goto 4, 3) := by decide +kernel
theorem dX9_nameOf_132 : decode cX9_nameOf 132 = .ok (.iconst (-1), 1) := by decide +kernel
theorem dX9_nameOf_133 : decode cX9_nameOf 133 = .ok (.ireturn, 1) := by decide +kernel
theorem dX9_isOf_0 : decode cX9_isOf 0 = .ok (.iload_n 1, 1) := by decide +kernel
theorem dX9_isOf_1 : decode cX9_isOf 1 = .ok (.iconst 3, 1) := by decide +kernel
theorem dX9_isOf_2 : decode cX9_isOf 2 = .ok (.if_icmp .lt 11, 3) := by decide +kernel
theorem dX9_isOf_5 : decode cX9_isOf 5 = .ok (.aload_n 0, 1) := by decide +kernel
theorem dX9_isOf_6 : decode cX9_isOf 6 = .ok (.getfield 194, 3) := by decide +kernel
theorem dX9_isOf_9 : decode cX9_isOf 9 = .ok (.iconst 1, 1) := by decide +kernel
theorem dX9_isOf_10 : decode cX9_isOf 10 = .ok (.if_icmp .ne 7, 3) := by decide +kernel
theorem dX9_isOf_13 : decode cX9_isOf 13 = .ok (.iconst 1, 1) := by decide +kernel
theorem dX9_isOf_14 : decode cX9_isOf 14 = .ok (.goto 4, 3) := by decide +kernel
theorem dX9_isOf_17 : decode cX9_isOf 17 = .ok (.iconst 0, 1) := by decide +kernel
theorem dX9_isOf_18 : decode cX9_isOf 18 = .ok (.ireturn, 1) := by decide +kernel
theorem dX9_sortOf_0 : decode cX9_sortOf 0 = .ok (.aload_n 0, 1) := by decide +kernel
theorem dX9_sortOf_1 : decode cX9_sortOf 1 = .ok (.bipush 115, 2) := by decide +kernel
theorem dX9_sortOf_3 : decode cX9_sortOf 3 = .ok (.bipush 108, 2) := by decide +kernel
theorem dX9_sortOf_5 : decode cX9_sortOf 5 = .ok (.bipush 105, 2) := by decide +kernel
theorem dX9_sortOf_7 : decode cX9_sortOf 7 = .ok (.bipush 99, 2) := by decide +kernel
theorem dX9_sortOf_9 : decode cX9_sortOf 9 = .ok (.bipush 101, 2) := by decide +kernel
theorem dX9_sortOf_11 : decode cX9_sortOf 11 = .ok (.bipush 115, 2) := by decide +kernel
theorem dX9_sortOf_13 : decode cX9_sortOf 13 = .ok (.invokestatic 187, 3) := by decide +kernel
theorem dX9_sortOf_16 : decode cX9_sortOf 16 = .ok (.invokevirtual 157, 3) := by decide +kernel
theorem dX9_sortOf_19 : decode cX9_sortOf 19 = .ok (.ifCond .eq 5, 3) := by decide +kernel
theorem dX9_sortOf_22 : decode cX9_sortOf 22 = .ok (.iconst 0, 1) := by decide +kernel
theorem dX9_sortOf_23 : decode cX9_sortOf 23 = .ok (.ireturn, 1) := by decide +kernel
theorem dX9_sortOf_24 : decode cX9_sortOf 24 = .ok (.aload_n 0, 1) := by decide +kernel
theorem dX9_sortOf_25 : decode cX9_sortOf 25 = .ok (.bipush 101, 2) := by decide +kernel
theorem dX9_sortOf_27 : decode cX9_sortOf 27 = .ok (.bipush 97, 2) := by decide +kernel
theorem dX9_sortOf_29 : decode cX9_sortOf 29 = .ok (.bipush 116, 2) := by decide +kernel
theorem dX9_sortOf_31 : decode cX9_sortOf 31 = .ok (.bipush 115, 2) := by decide +kernel
theorem dX9_sortOf_33 : decode cX9_sortOf 33 = .ok (.invokestatic 183, 3) := by decide +kernel
theorem dX9_sortOf_36 : decode cX9_sortOf 36 = .ok (.invokevirtual 157, 3) := by decide +kernel
theorem dX9_sortOf_39 : decode cX9_sortOf 39 = .ok (.ifCond .eq 5, 3) := by decide +kernel
theorem dX9_sortOf_42 : decode cX9_sortOf 42 = .ok (.iconst 1, 1) := by decide +kernel
theorem dX9_sortOf_43 : decode cX9_sortOf 43 = .ok (.ireturn, 1) := by decide +kernel
theorem dX9_sortOf_44 : decode cX9_sortOf 44 = .ok (.aload_n 0, 1) := by decide +kernel
theorem dX9_sortOf_45 : decode cX9_sortOf 45 = .ok (.bipush 115, 2) := by decide +kernel
theorem dX9_sortOf_47 : decode cX9_sortOf 47 = .ok (.bipush 101, 2) := by decide +kernel
theorem dX9_sortOf_49 : decode cX9_sortOf 49 = .ok (.bipush 97, 2) := by decide +kernel
theorem dX9_sortOf_51 : decode cX9_sortOf 51 = .ok (.bipush 116, 2) := by decide +kernel
theorem dX9_sortOf_53 : decode cX9_sortOf 53 = .ok (.invokestatic 183, 3) := by decide +kernel
theorem dX9_sortOf_56 : decode cX9_sortOf 56 = .ok (.invokevirtual 157, 3) := by decide +kernel
theorem dX9_sortOf_59 : decode cX9_sortOf 59 = .ok (.ifCond .eq 5, 3) := by decide +kernel
theorem dX9_sortOf_62 : decode cX9_sortOf 62 = .ok (.iconst 2, 1) := by decide +kernel
theorem dX9_sortOf_63 : decode cX9_sortOf 63 = .ok (.ireturn, 1) := by decide +kernel
theorem dX9_sortOf_64 : decode cX9_sortOf 64 = .ok (.aload_n 0, 1) := by decide +kernel
theorem dX9_sortOf_65 : decode cX9_sortOf 65 = .ok (.bipush 104, 2) := by decide +kernel
theorem dX9_sortOf_67 : decode cX9_sortOf 67 = .ok (.bipush 105, 2) := by decide +kernel
theorem dX9_sortOf_69 : decode cX9_sortOf 69 = .ok (.bipush 100, 2) := by decide +kernel
theorem dX9_sortOf_71 : decode cX9_sortOf 71 = .ok (.bipush 101, 2) := by decide +kernel
theorem dX9_sortOf_73 : decode cX9_sortOf 73 = .ok (.invokestatic 183, 3) := by decide +kernel
theorem dX9_sortOf_76 : decode cX9_sortOf 76 = .ok (.invokevirtual 157, 3) := by decide +kernel
theorem dX9_sortOf_79 : decode cX9_sortOf 79 = .ok (.ifCond .eq 5, 3) := by decide +kernel
theorem dX9_sortOf_82 : decode cX9_sortOf 82 = .ok (.iconst 3, 1) := by decide +kernel
theorem dX9_sortOf_83 : decode cX9_sortOf 83 = .ok (.ireturn, 1) := by decide +kernel
theorem dX9_sortOf_84 : decode cX9_sortOf 84 = .ok (.aload_n 0, 1) := by decide +kernel
theorem dX9_sortOf_85 : decode cX9_sortOf 85 = .ok (.bipush 103, 2) := by decide +kernel
theorem dX9_sortOf_87 : decode cX9_sortOf 87 = .ok (.bipush 105, 2) := by decide +kernel
theorem dX9_sortOf_89 : decode cX9_sortOf 89 = .ok (.bipush 118, 2) := by decide +kernel
theorem dX9_sortOf_91 : decode cX9_sortOf 91 = .ok (.bipush 101, 2) := by decide +kernel
theorem dX9_sortOf_93 : decode cX9_sortOf 93 = .ok (.invokestatic 183, 3) := by decide +kernel
theorem dX9_sortOf_96 : decode cX9_sortOf 96 = .ok (.invokevirtual 157, 3) := by decide +kernel
theorem dX9_sortOf_99 : decode cX9_sortOf 99 = .ok (.ifCond .eq 7, 3) := by decide +kernel
theorem dX9_sortOf_102 : decode cX9_sortOf 102 = .ok (.iconst 4, 1) := by decide +kernel
theorem dX9_sortOf_103 : decode cX9_sortOf 103 = .ok (.goto 26, 3) := by decide +kernel
theorem dX9_sortOf_106 : decode cX9_sortOf 106 = .ok (.aload_n 0, 1) := by decide +kernel
theorem dX9_sortOf_107 : decode cX9_sortOf 107 = .ok (.bipush 112, 2) := by decide +kernel
theorem dX9_sortOf_109 : decode cX9_sortOf 109 = .ok (.bipush 97, 2) := by decide +kernel
theorem dX9_sortOf_111 : decode cX9_sortOf 111 = .ok (.bipush 115, 2) := by decide +kernel
theorem dX9_sortOf_113 : decode cX9_sortOf 113 = .ok (.bipush 115, 2) := by decide +kernel
theorem dX9_sortOf_115 : decode cX9_sortOf 115 = .ok (.invokestatic 183, 3) := by decide +kernel
theorem dX9_sortOf_118 : decode cX9_sortOf 118 = .ok (.invokevirtual 157, 3) := by decide +kernel
theorem dX9_sortOf_121 : decode cX9_sortOf 121 = .ok (.ifCond .eq 7, 3) := by decide +kernel
theorem dX9_sortOf_124 : decode cX9_sortOf 124 = .ok (.iconst 5, 1) := by decide +kernel
theorem dX9_sortOf_125 : decode cX9_sortOf 125 = .ok (.goto 4, 3) := by decide +kernel
theorem dX9_sortOf_128 : decode cX9_sortOf 128 = .ok (.iconst (-1), 1) := by decide +kernel
theorem dX9_sortOf_129 : decode cX9_sortOf 129 = .ok (.ireturn, 1) := by decide +kernel
theorem dX9_figure_0 : decode cX9_figure 0 = .ok (.aload_n 0, 1) := by decide +kernel
theorem dX9_figure_1 : decode cX9_figure 1 = .ok (.getfield 77, 3) := by decide +kernel
theorem dX9_figure_4 : decode cX9_figure 4 = .ok (.iconst 1, 1) := by decide +kernel
theorem dX9_figure_5 : decode cX9_figure 5 = .ok (.if_icmp .eq 5, 3) := by decide +kernel
theorem dX9_figure_8 : decode cX9_figure 8 = .ok (.iconst 1, 1) := by decide +kernel
theorem dX9_figure_9 : decode cX9_figure 9 = .ok (.ireturn, 1) := by decide +kernel
theorem dX9_figure_10 : decode cX9_figure 10 = .ok (.aload_n 0, 1) := by decide +kernel
theorem dX9_figure_11 : decode cX9_figure 11 = .ok (.getfield 84, 3) := by decide +kernel
theorem dX9_figure_14 : decode cX9_figure 14 = .ok (.iload_n 2, 1) := by decide +kernel
theorem dX9_figure_15 : decode cX9_figure 15 = .ok (.iload_n 3, 1) := by decide +kernel
theorem dX9_figure_16 : decode cX9_figure 16 = .ok (.invokestatic 56, 3) := by decide +kernel
theorem dX9_figure_19 : decode cX9_figure 19 = .ok (.ifCond .ne 5, 3) := by decide +kernel
theorem dX9_figure_22 : decode cX9_figure 22 = .ok (.iconst 2, 1) := by decide +kernel
theorem dX9_figure_23 : decode cX9_figure 23 = .ok (.ireturn, 1) := by decide +kernel
theorem dX9_figure_24 : decode cX9_figure 24 = .ok (.aload_n 0, 1) := by decide +kernel
theorem dX9_figure_25 : decode cX9_figure 25 = .ok (.getfield 16, 3) := by decide +kernel
theorem dX9_figure_28 : decode cX9_figure 28 = .ok (.iload_n 1, 1) := by decide +kernel
theorem dX9_figure_29 : decode cX9_figure 29 = .ok (.aload_n 0, 1) := by decide +kernel
theorem dX9_figure_30 : decode cX9_figure 30 = .ok (.getfield 84, 3) := by decide +kernel
theorem dX9_figure_33 : decode cX9_figure 33 = .ok (.iastore, 1) := by decide +kernel
theorem dX9_figure_34 : decode cX9_figure 34 = .ok (.aload_n 0, 1) := by decide +kernel
theorem dX9_figure_35 : decode cX9_figure 35 = .ok (.invokevirtual 140, 3) := by decide +kernel
theorem dX9_figure_38 : decode cX9_figure 38 = .ok (.iconst 0, 1) := by decide +kernel
theorem dX9_figure_39 : decode cX9_figure 39 = .ok (.ireturn, 1) := by decide +kernel
theorem dX9_line_0 : decode cX9_line 0 = .ok (.iload_n 1, 1) := by decide +kernel
theorem dX9_line_1 : decode cX9_line 1 = .ok (.iconst 5, 1) := by decide +kernel
theorem dX9_line_2 : decode cX9_line 2 = .ok (.if_icmp .ne 14, 3) := by decide +kernel
theorem dX9_line_5 : decode cX9_line 5 = .ok (.aload_n 0, 1) := by decide +kernel
theorem dX9_line_6 : decode cX9_line 6 = .ok (.iload_n 2, 1) := by decide +kernel
theorem dX9_line_7 : decode cX9_line 7 = .ok (.iconst 1, 1) := by decide +kernel
theorem dX9_line_8 : decode cX9_line 8 = .ok (.iadd, 1) := by decide +kernel
theorem dX9_line_9 : decode cX9_line 9 = .ok (.iconst 1, 1) := by decide +kernel
theorem dX9_line_10 : decode cX9_line 10 = .ok (.bipush 99, 2) := by decide +kernel
theorem dX9_line_12 : decode cX9_line 12 = .ok (.invokevirtual 197, 3) := by decide +kernel
theorem dX9_line_15 : decode cX9_line 15 = .ok (.ireturn, 1) := by decide +kernel
theorem dX9_line_16 : decode cX9_line 16 = .ok (.iload_n 1, 1) := by decide +kernel
theorem dX9_line_17 : decode cX9_line 17 = .ok (.iconst 2, 1) := by decide +kernel
theorem dX9_line_18 : decode cX9_line 18 = .ok (.if_icmp .ne 15, 3) := by decide +kernel
theorem dX9_line_21 : decode cX9_line 21 = .ok (.aload_n 0, 1) := by decide +kernel
theorem dX9_line_22 : decode cX9_line 22 = .ok (.iload_n 2, 1) := by decide +kernel
theorem dX9_line_23 : decode cX9_line 23 = .ok (.iconst 1, 1) := by decide +kernel
theorem dX9_line_24 : decode cX9_line 24 = .ok (.iadd, 1) := by decide +kernel
theorem dX9_line_25 : decode cX9_line 25 = .ok (.iconst 0, 1) := by decide +kernel
theorem dX9_line_26 : decode cX9_line 26 = .ok (.iconst 5, 1) := by decide +kernel
theorem dX9_line_27 : decode cX9_line 27 = .ok (.invokevirtual 197, 3) := by decide +kernel
theorem dX9_line_30 : decode cX9_line 30 = .ok (.goto 13, 3) := by decide +kernel
theorem dX9_line_33 : decode cX9_line 33 = .ok (.aload_n 0, 1) := by decide +kernel
theorem dX9_line_34 : decode cX9_line 34 = .ok (.iload_n 2, 1) := by decide +kernel
theorem dX9_line_35 : decode cX9_line 35 = .ok (.iconst 1, 1) := by decide +kernel
theorem dX9_line_36 : decode cX9_line 36 = .ok (.iadd, 1) := by decide +kernel
theorem dX9_line_37 : decode cX9_line 37 = .ok (.iconst 1, 1) := by decide +kernel
theorem dX9_line_38 : decode cX9_line 38 = .ok (.bipush 9, 2) := by decide +kernel
theorem dX9_line_40 : decode cX9_line 40 = .ok (.invokevirtual 197, 3) := by decide +kernel
theorem dX9_line_43 : decode cX9_line 43 = .ok (.istore_n 3, 1) := by decide +kernel
theorem dX9_line_44 : decode cX9_line 44 = .ok (.iload_n 3, 1) := by decide +kernel
theorem dX9_line_45 : decode cX9_line 45 = .ok (.ifCond .eq 5, 3) := by decide +kernel
theorem dX9_line_48 : decode cX9_line 48 = .ok (.iload_n 3, 1) := by decide +kernel
theorem dX9_line_49 : decode cX9_line 49 = .ok (.ireturn, 1) := by decide +kernel
theorem dX9_line_50 : decode cX9_line 50 = .ok (.aload_n 0, 1) := by decide +kernel
theorem dX9_line_51 : decode cX9_line 51 = .ok (.getfield 77, 3) := by decide +kernel
theorem dX9_line_54 : decode cX9_line 54 = .ok (.iconst 2, 1) := by decide +kernel
theorem dX9_line_55 : decode cX9_line 55 = .ok (.if_icmp .ne 14, 3) := by decide +kernel
theorem dX9_line_58 : decode cX9_line 58 = .ok (.aload_n 0, 1) := by decide +kernel
theorem dX9_line_59 : decode cX9_line 59 = .ok (.getfield 91, 3) := by decide +kernel
theorem dX9_line_62 : decode cX9_line 62 = .ok (.ldc2_w 201, 3) := by decide +kernel
theorem dX9_line_65 : decode cX9_line 65 = .ok (.lcmp, 1) := by decide +kernel
theorem dX9_line_66 : decode cX9_line 66 = .ok (.ifCond .eq 5, 3) := by decide +kernel
theorem dX9_line_69 : decode cX9_line 69 = .ok (.iconst 1, 1) := by decide +kernel
theorem dX9_line_70 : decode cX9_line 70 = .ok (.ireturn, 1) := by decide +kernel
theorem dX9_line_71 : decode cX9_line 71 = .ok (.aload_n 0, 1) := by decide +kernel
theorem dX9_line_72 : decode cX9_line 72 = .ok (.invokevirtual 140, 3) := by decide +kernel
theorem dX9_line_75 : decode cX9_line 75 = .ok (.aload_n 0, 1) := by decide +kernel
theorem dX9_line_76 : decode cX9_line 76 = .ok (.iload_n 2, 1) := by decide +kernel
theorem dX9_line_77 : decode cX9_line 77 = .ok (.iconst 2, 1) := by decide +kernel
theorem dX9_line_78 : decode cX9_line 78 = .ok (.iadd, 1) := by decide +kernel
theorem dX9_line_79 : decode cX9_line 79 = .ok (.iconst 0, 1) := by decide +kernel
theorem dX9_line_80 : decode cX9_line 80 = .ok (.iload_n 1, 1) := by decide +kernel
theorem dX9_line_81 : decode cX9_line 81 = .ok (.iconst 2, 1) := by decide +kernel
theorem dX9_line_82 : decode cX9_line 82 = .ok (.if_icmp .ne 7, 3) := by decide +kernel
theorem dX9_line_85 : decode cX9_line 85 = .ok (.iconst 2, 1) := by decide +kernel
theorem dX9_line_86 : decode cX9_line 86 = .ok (.goto 4, 3) := by decide +kernel
theorem dX9_line_89 : decode cX9_line 89 = .ok (.iconst 1, 1) := by decide +kernel
theorem dX9_line_90 : decode cX9_line 90 = .ok (.invokevirtual 197, 3) := by decide +kernel
theorem dX9_line_93 : decode cX9_line 93 = .ok (.ireturn, 1) := by decide +kernel
theorem dX9_clause_0 : decode cX9_clause 0 = .ok (.aload_n 0, 1) := by decide +kernel
theorem dX9_clause_1 : decode cX9_clause 1 = .ok (.invokevirtual 203, 3) := by decide +kernel
theorem dX9_clause_4 : decode cX9_clause 4 = .ok (.istore_n 1, 1) := by decide +kernel
theorem dX9_clause_5 : decode cX9_clause 5 = .ok (.iload_n 1, 1) := by decide +kernel
theorem dX9_clause_6 : decode cX9_clause 6 = .ok (.ifCond .ge 5, 3) := by decide +kernel
theorem dX9_clause_9 : decode cX9_clause 9 = .ok (.iconst 1, 1) := by decide +kernel
theorem dX9_clause_10 : decode cX9_clause 10 = .ok (.ireturn, 1) := by decide +kernel
theorem dX9_clause_11 : decode cX9_clause 11 = .ok (.iload_n 1, 1) := by decide +kernel
theorem dX9_clause_12 : decode cX9_clause 12 = .ok (.iconst 2, 1) := by decide +kernel
theorem dX9_clause_13 : decode cX9_clause 13 = .ok (.if_icmp .ge 17, 3) := by decide +kernel
theorem dX9_clause_16 : decode cX9_clause 16 = .ok (.aload_n 0, 1) := by decide +kernel
theorem dX9_clause_17 : decode cX9_clause 17 = .ok (.getfield 206, 3) := by decide +kernel
theorem dX9_clause_20 : decode cX9_clause 20 = .ok (.iload_n 1, 1) := by decide +kernel
theorem dX9_clause_21 : decode cX9_clause 21 = .ok (.ishr, 1) := by decide +kernel
theorem dX9_clause_22 : decode cX9_clause 22 = .ok (.iconst 1, 1) := by decide +kernel
theorem dX9_clause_23 : decode cX9_clause 23 = .ok (.iand, 1) := by decide +kernel
theorem dX9_clause_24 : decode cX9_clause 24 = .ok (.iconst 1, 1) := by decide +kernel
theorem dX9_clause_25 : decode cX9_clause 25 = .ok (.if_icmp .ne 5, 3) := by decide +kernel
theorem dX9_clause_28 : decode cX9_clause 28 = .ok (.iconst 4, 1) := by decide +kernel
theorem dX9_clause_29 : decode cX9_clause 29 = .ok (.ireturn, 1) := by decide +kernel
theorem dX9_clause_30 : decode cX9_clause 30 = .ok (.aload_n 0, 1) := by decide +kernel
theorem dX9_clause_31 : decode cX9_clause 31 = .ok (.getfield 16, 3) := by decide +kernel
theorem dX9_clause_34 : decode cX9_clause 34 = .ok (.aload_n 0, 1) := by decide +kernel
theorem dX9_clause_35 : decode cX9_clause 35 = .ok (.getfield 103, 3) := by decide +kernel
theorem dX9_clause_38 : decode cX9_clause 38 = .ok (.iaload, 1) := by decide +kernel
theorem dX9_clause_39 : decode cX9_clause 39 = .ok (.istore_n 2, 1) := by decide +kernel
theorem dX9_clause_40 : decode cX9_clause 40 = .ok (.iload_n 2, 1) := by decide +kernel
theorem dX9_clause_41 : decode cX9_clause 41 = .ok (.bipush 24, 2) := by decide +kernel
theorem dX9_clause_43 : decode cX9_clause 43 = .ok (.if_icmp .ne 6, 3) := by decide +kernel
theorem dX9_clause_46 : decode cX9_clause 46 = .ok (.bipush 6, 2) := by decide +kernel
theorem dX9_clause_48 : decode cX9_clause 48 = .ok (.ireturn, 1) := by decide +kernel
theorem dX9_clause_49 : decode cX9_clause 49 = .ok (.iload_n 1, 1) := by decide +kernel
theorem dX9_clause_50 : decode cX9_clause 50 = .ok (.iconst 2, 1) := by decide +kernel
theorem dX9_clause_51 : decode cX9_clause 51 = .ok (.if_icmp .ge 15, 3) := by decide +kernel
theorem dX9_clause_54 : decode cX9_clause 54 = .ok (.aload_n 0, 1) := by decide +kernel
theorem dX9_clause_55 : decode cX9_clause 55 = .ok (.dup, 1) := by decide +kernel
theorem dX9_clause_56 : decode cX9_clause 56 = .ok (.getfield 206, 3) := by decide +kernel
theorem dX9_clause_59 : decode cX9_clause 59 = .ok (.iconst 1, 1) := by decide +kernel
theorem dX9_clause_60 : decode cX9_clause 60 = .ok (.iload_n 1, 1) := by decide +kernel
theorem dX9_clause_61 : decode cX9_clause 61 = .ok (.ishl, 1) := by decide +kernel
theorem dX9_clause_62 : decode cX9_clause 62 = .ok (.ior, 1) := by decide +kernel
theorem dX9_clause_63 : decode cX9_clause 63 = .ok (.putfield 206, 3) := by decide +kernel
theorem dX9_clause_66 : decode cX9_clause 66 = .ok (.aload_n 0, 1) := by decide +kernel
theorem dX9_clause_67 : decode cX9_clause 67 = .ok (.iload_n 1, 1) := by decide +kernel
theorem dX9_clause_68 : decode cX9_clause 68 = .ok (.putfield 194, 3) := by decide +kernel
theorem dX9_clause_71 : decode cX9_clause 71 = .ok (.aload_n 0, 1) := by decide +kernel
theorem dX9_clause_72 : decode cX9_clause 72 = .ok (.invokevirtual 140, 3) := by decide +kernel
theorem dX9_clause_75 : decode cX9_clause 75 = .ok (.aload_n 0, 1) := by decide +kernel
theorem dX9_clause_76 : decode cX9_clause 76 = .ok (.getfield 103, 3) := by decide +kernel
theorem dX9_clause_79 : decode cX9_clause 79 = .ok (.iconst 1, 1) := by decide +kernel
theorem dX9_clause_80 : decode cX9_clause 80 = .ok (.iadd, 1) := by decide +kernel
theorem dX9_clause_81 : decode cX9_clause 81 = .ok (.iconst 3, 1) := by decide +kernel
theorem dX9_clause_82 : decode cX9_clause 82 = .ok (.iload_n 2, 1) := by decide +kernel
theorem dX9_clause_83 : decode cX9_clause 83 = .ok (.imul, 1) := by decide +kernel
theorem dX9_clause_84 : decode cX9_clause 84 = .ok (.iadd, 1) := by decide +kernel
theorem dX9_clause_85 : decode cX9_clause 85 = .ok (.istore_n 3, 1) := by decide +kernel
theorem dX9_clause_86 : decode cX9_clause 86 = .ok (.aload_n 0, 1) := by decide +kernel
theorem dX9_clause_87 : decode cX9_clause 87 = .ok (.getfield 16, 3) := by decide +kernel
theorem dX9_clause_90 : decode cX9_clause 90 = .ok (.iload_n 3, 1) := by decide +kernel
theorem dX9_clause_91 : decode cX9_clause 91 = .ok (.iload_n 1, 1) := by decide +kernel
theorem dX9_clause_92 : decode cX9_clause 92 = .ok (.iastore, 1) := by decide +kernel
theorem dX9_clause_93 : decode cX9_clause 93 = .ok (.aload_n 0, 1) := by decide +kernel
theorem dX9_clause_94 : decode cX9_clause 94 = .ok (.getfield 106, 3) := by decide +kernel
theorem dX9_clause_97 : decode cX9_clause 97 = .ok (.istore 4, 2) := by decide +kernel
theorem dX9_clause_99 : decode cX9_clause 99 = .ok (.iload_n 1, 1) := by decide +kernel
theorem dX9_clause_100 : decode cX9_clause 100 = .ok (.iconst 2, 1) := by decide +kernel
theorem dX9_clause_101 : decode cX9_clause 101 = .ok (.if_icmp .ge 11, 3) := by decide +kernel
theorem dX9_clause_104 : decode cX9_clause 104 = .ok (.aload_n 0, 1) := by decide +kernel
theorem dX9_clause_105 : decode cX9_clause 105 = .ok (.iconst 0, 1) := by decide +kernel
theorem dX9_clause_106 : decode cX9_clause 106 = .ok (.invokevirtual 209, 3) := by decide +kernel
theorem dX9_clause_109 : decode cX9_clause 109 = .ok (.goto 9, 3) := by decide +kernel
theorem dX9_clause_112 : decode cX9_clause 112 = .ok (.aload_n 0, 1) := by decide +kernel
theorem dX9_clause_113 : decode cX9_clause 113 = .ok (.iload_n 1, 1) := by decide +kernel
theorem dX9_clause_114 : decode cX9_clause 114 = .ok (.iload_n 3, 1) := by decide +kernel
theorem dX9_clause_115 : decode cX9_clause 115 = .ok (.invokevirtual 212, 3) := by decide +kernel
theorem dX9_clause_118 : decode cX9_clause 118 = .ok (.istore 5, 2) := by decide +kernel
theorem dX9_clause_120 : decode cX9_clause 120 = .ok (.iload 5, 2) := by decide +kernel
theorem dX9_clause_122 : decode cX9_clause 122 = .ok (.ifCond .eq 6, 3) := by decide +kernel
theorem dX9_clause_125 : decode cX9_clause 125 = .ok (.iload 5, 2) := by decide +kernel
theorem dX9_clause_127 : decode cX9_clause 127 = .ok (.ireturn, 1) := by decide +kernel
theorem dX9_clause_128 : decode cX9_clause 128 = .ok (.iload_n 1, 1) := by decide +kernel
theorem dX9_clause_129 : decode cX9_clause 129 = .ok (.iconst 2, 1) := by decide +kernel
theorem dX9_clause_130 : decode cX9_clause 130 = .ok (.if_icmp .ge 25, 3) := by decide +kernel
theorem dX9_clause_133 : decode cX9_clause 133 = .ok (.aload_n 0, 1) := by decide +kernel
theorem dX9_clause_134 : decode cX9_clause 134 = .ok (.getfield 16, 3) := by decide +kernel
theorem dX9_clause_137 : decode cX9_clause 137 = .ok (.iload_n 3, 1) := by decide +kernel
theorem dX9_clause_138 : decode cX9_clause 138 = .ok (.iconst 1, 1) := by decide +kernel
theorem dX9_clause_139 : decode cX9_clause 139 = .ok (.iadd, 1) := by decide +kernel
theorem dX9_clause_140 : decode cX9_clause 140 = .ok (.iload 4, 2) := by decide +kernel
theorem dX9_clause_142 : decode cX9_clause 142 = .ok (.iastore, 1) := by decide +kernel
theorem dX9_clause_143 : decode cX9_clause 143 = .ok (.aload_n 0, 1) := by decide +kernel
theorem dX9_clause_144 : decode cX9_clause 144 = .ok (.getfield 16, 3) := by decide +kernel
theorem dX9_clause_147 : decode cX9_clause 147 = .ok (.iload_n 3, 1) := by decide +kernel
theorem dX9_clause_148 : decode cX9_clause 148 = .ok (.iconst 2, 1) := by decide +kernel
theorem dX9_clause_149 : decode cX9_clause 149 = .ok (.iadd, 1) := by decide +kernel
theorem dX9_clause_150 : decode cX9_clause 150 = .ok (.aload_n 0, 1) := by decide +kernel
theorem dX9_clause_151 : decode cX9_clause 151 = .ok (.getfield 106, 3) := by decide +kernel
theorem dX9_clause_154 : decode cX9_clause 154 = .ok (.iastore, 1) := by decide +kernel
theorem dX9_clause_155 : decode cX9_clause 155 = .ok (.aload_n 0, 1) := by decide +kernel
theorem dX9_clause_156 : decode cX9_clause 156 = .ok (.getfield 16, 3) := by decide +kernel
theorem dX9_clause_159 : decode cX9_clause 159 = .ok (.aload_n 0, 1) := by decide +kernel
theorem dX9_clause_160 : decode cX9_clause 160 = .ok (.getfield 103, 3) := by decide +kernel
theorem dX9_clause_163 : decode cX9_clause 163 = .ok (.dup2, 1) := by decide +kernel
theorem dX9_clause_164 : decode cX9_clause 164 = .ok (.iaload, 1) := by decide +kernel
theorem dX9_clause_165 : decode cX9_clause 165 = .ok (.iconst 1, 1) := by decide +kernel
theorem dX9_clause_166 : decode cX9_clause 166 = .ok (.iadd, 1) := by decide +kernel
theorem dX9_clause_167 : decode cX9_clause 167 = .ok (.iastore, 1) := by decide +kernel
theorem dX9_clause_168 : decode cX9_clause 168 = .ok (.aload_n 0, 1) := by decide +kernel
theorem dX9_clause_169 : decode cX9_clause 169 = .ok (.getfield 77, 3) := by decide +kernel
theorem dX9_clause_172 : decode cX9_clause 172 = .ok (.bipush 59, 2) := by decide +kernel
theorem dX9_clause_174 : decode cX9_clause 174 = .ok (.if_icmp .eq 5, 3) := by decide +kernel
theorem dX9_clause_177 : decode cX9_clause 177 = .ok (.iconst 1, 1) := by decide +kernel
theorem dX9_clause_178 : decode cX9_clause 178 = .ok (.ireturn, 1) := by decide +kernel
theorem dX9_clause_179 : decode cX9_clause 179 = .ok (.aload_n 0, 1) := by decide +kernel
theorem dX9_clause_180 : decode cX9_clause 180 = .ok (.invokevirtual 140, 3) := by decide +kernel
theorem dX9_clause_183 : decode cX9_clause 183 = .ok (.iconst 0, 1) := by decide +kernel
theorem dX9_clause_184 : decode cX9_clause 184 = .ok (.ireturn, 1) := by decide +kernel
theorem dX9_readText_0 : decode cX9_readText 0 = .ok (.aload_n 0, 1) := by decide +kernel
theorem dX9_readText_1 : decode cX9_readText 1 = .ok (.sipush 680, 3) := by decide +kernel
theorem dX9_readText_4 : decode cX9_readText 4 = .ok (.aload_n 0, 1) := by decide +kernel
theorem dX9_readText_5 : decode cX9_readText 5 = .ok (.getfield 7, 3) := by decide +kernel
theorem dX9_readText_8 : decode cX9_readText 8 = .ok (.iconst 4, 1) := by decide +kernel
theorem dX9_readText_9 : decode cX9_readText 9 = .ok (.iaload, 1) := by decide +kernel
theorem dX9_readText_10 : decode cX9_readText 10 = .ok (.imul, 1) := by decide +kernel
theorem dX9_readText_11 : decode cX9_readText 11 = .ok (.putfield 103, 3) := by decide +kernel
theorem dX9_readText_14 : decode cX9_readText 14 = .ok (.aload_n 0, 1) := by decide +kernel
theorem dX9_readText_15 : decode cX9_readText 15 = .ok (.getfield 16, 3) := by decide +kernel
theorem dX9_readText_18 : decode cX9_readText 18 = .ok (.aload_n 0, 1) := by decide +kernel
theorem dX9_readText_19 : decode cX9_readText 19 = .ok (.getfield 103, 3) := by decide +kernel
theorem dX9_readText_22 : decode cX9_readText 22 = .ok (.iconst 0, 1) := by decide +kernel
theorem dX9_readText_23 : decode cX9_readText 23 = .ok (.iastore, 1) := by decide +kernel
theorem dX9_readText_24 : decode cX9_readText 24 = .ok (.aload_n 0, 1) := by decide +kernel
theorem dX9_readText_25 : decode cX9_readText 25 = .ok (.iconst 0, 1) := by decide +kernel
theorem dX9_readText_26 : decode cX9_readText 26 = .ok (.putfield 106, 3) := by decide +kernel
theorem dX9_readText_29 : decode cX9_readText 29 = .ok (.aload_n 0, 1) := by decide +kernel
theorem dX9_readText_30 : decode cX9_readText 30 = .ok (.iconst 0, 1) := by decide +kernel
theorem dX9_readText_31 : decode cX9_readText 31 = .ok (.putfield 119, 3) := by decide +kernel
theorem dX9_readText_34 : decode cX9_readText 34 = .ok (.aload_n 0, 1) := by decide +kernel
theorem dX9_readText_35 : decode cX9_readText 35 = .ok (.iconst 0, 1) := by decide +kernel
theorem dX9_readText_36 : decode cX9_readText 36 = .ok (.putfield 206, 3) := by decide +kernel
theorem dX9_readText_39 : decode cX9_readText 39 = .ok (.aload_n 0, 1) := by decide +kernel
theorem dX9_readText_40 : decode cX9_readText 40 = .ok (.iconst 0, 1) := by decide +kernel
theorem dX9_readText_41 : decode cX9_readText 41 = .ok (.putfield 67, 3) := by decide +kernel
theorem dX9_readText_44 : decode cX9_readText 44 = .ok (.aload_n 0, 1) := by decide +kernel
theorem dX9_readText_45 : decode cX9_readText 45 = .ok (.invokevirtual 140, 3) := by decide +kernel
theorem dX9_readText_48 : decode cX9_readText 48 = .ok (.aload_n 0, 1) := by decide +kernel
theorem dX9_readText_49 : decode cX9_readText 49 = .ok (.getfield 77, 3) := by decide +kernel
theorem dX9_readText_52 : decode cX9_readText 52 = .ok (.ifCond .eq 17, 3) := by decide +kernel
theorem dX9_readText_55 : decode cX9_readText 55 = .ok (.aload_n 0, 1) := by decide +kernel
theorem dX9_readText_56 : decode cX9_readText 56 = .ok (.invokevirtual 216, 3) := by decide +kernel
theorem dX9_readText_59 : decode cX9_readText 59 = .ok (.istore_n 1, 1) := by decide +kernel
theorem dX9_readText_60 : decode cX9_readText 60 = .ok (.iload_n 1, 1) := by decide +kernel
theorem dX9_readText_61 : decode cX9_readText 61 = .ok (.ifCond .eq 5, 3) := by decide +kernel
theorem dX9_readText_64 : decode cX9_readText 64 = .ok (.iload_n 1, 1) := by decide +kernel
theorem dX9_readText_65 : decode cX9_readText 65 = .ok (.ireturn, 1) := by decide +kernel
theorem dX9_readText_66 : decode cX9_readText 66 = .ok (.goto (-18), 3) := by decide +kernel
theorem dX9_readText_69 : decode cX9_readText 69 = .ok (.iconst 0, 1) := by decide +kernel
theorem dX9_readText_70 : decode cX9_readText 70 = .ok (.ireturn, 1) := by decide +kernel
theorem dX9_text_0 : decode cX9_text 0 = .ok (.aload_n 0, 1) := by decide +kernel
theorem dX9_text_1 : decode cX9_text 1 = .ok (.getfield 7, 3) := by decide +kernel
theorem dX9_text_4 : decode cX9_text 4 = .ok (.iconst 4, 1) := by decide +kernel
theorem dX9_text_5 : decode cX9_text 5 = .ok (.iaload, 1) := by decide +kernel
theorem dX9_text_6 : decode cX9_text 6 = .ok (.iconst 4, 1) := by decide +kernel
theorem dX9_text_7 : decode cX9_text 7 = .ok (.if_icmp .ne 5, 3) := by decide +kernel
theorem dX9_text_10 : decode cX9_text 10 = .ok (.iconst (-1), 1) := by decide +kernel
theorem dX9_text_11 : decode cX9_text 11 = .ok (.ireturn, 1) := by decide +kernel
theorem dX9_text_12 : decode cX9_text 12 = .ok (.aload_n 0, 1) := by decide +kernel
theorem dX9_text_13 : decode cX9_text 13 = .ok (.aload_n 0, 1) := by decide +kernel
theorem dX9_text_14 : decode cX9_text 14 = .ok (.invokevirtual 219, 3) := by decide +kernel
theorem dX9_text_17 : decode cX9_text 17 = .ok (.putfield 22, 3) := by decide +kernel
theorem dX9_text_20 : decode cX9_text 20 = .ok (.aload_n 0, 1) := by decide +kernel
theorem dX9_text_21 : decode cX9_text 21 = .ok (.aload_n 0, 1) := by decide +kernel
theorem dX9_text_22 : decode cX9_text 22 = .ok (.getfield 22, 3) := by decide +kernel
theorem dX9_text_25 : decode cX9_text 25 = .ok (.ifCond .ne 7, 3) := by decide +kernel
theorem dX9_text_28 : decode cX9_text 28 = .ok (.iconst (-1), 1) := by decide +kernel
theorem dX9_text_29 : decode cX9_text 29 = .ok (.goto 7, 3) := by decide +kernel
theorem dX9_text_32 : decode cX9_text 32 = .ok (.aload_n 0, 1) := by decide +kernel
theorem dX9_text_33 : decode cX9_text 33 = .ok (.getfield 74, 3) := by decide +kernel
theorem dX9_text_36 : decode cX9_text 36 = .ok (.putfield 26, 3) := by decide +kernel
theorem dX9_text_39 : decode cX9_text 39 = .ok (.aload_n 0, 1) := by decide +kernel
theorem dX9_text_40 : decode cX9_text 40 = .ok (.iconst 0, 1) := by decide +kernel
theorem dX9_text_41 : decode cX9_text 41 = .ok (.putfield 60, 3) := by decide +kernel
theorem dX9_text_44 : decode cX9_text 44 = .ok (.aload_n 0, 1) := by decide +kernel
theorem dX9_text_45 : decode cX9_text 45 = .ok (.getfield 22, 3) := by decide +kernel
theorem dX9_text_48 : decode cX9_text 48 = .ok (.ifCond .eq 5, 3) := by decide +kernel
theorem dX9_text_51 : decode cX9_text 51 = .ok (.iconst (-1), 1) := by decide +kernel
theorem dX9_text_52 : decode cX9_text 52 = .ok (.ireturn, 1) := by decide +kernel
theorem dX9_text_53 : decode cX9_text 53 = .ok (.aload_n 0, 1) := by decide +kernel
theorem dX9_text_54 : decode cX9_text 54 = .ok (.getfield 7, 3) := by decide +kernel
theorem dX9_text_57 : decode cX9_text 57 = .ok (.iconst 4, 1) := by decide +kernel
theorem dX9_text_58 : decode cX9_text 58 = .ok (.dup2, 1) := by decide +kernel
theorem dX9_text_59 : decode cX9_text 59 = .ok (.iaload, 1) := by decide +kernel
theorem dX9_text_60 : decode cX9_text 60 = .ok (.iconst 1, 1) := by decide +kernel
theorem dX9_text_61 : decode cX9_text 61 = .ok (.iadd, 1) := by decide +kernel
theorem dX9_text_62 : decode cX9_text 62 = .ok (.iastore, 1) := by decide +kernel
theorem dX9_text_63 : decode cX9_text 63 = .ok (.aload_n 0, 1) := by decide +kernel
theorem dX9_text_64 : decode cX9_text 64 = .ok (.getfield 7, 3) := by decide +kernel
theorem dX9_text_67 : decode cX9_text 67 = .ok (.iconst 4, 1) := by decide +kernel
theorem dX9_text_68 : decode cX9_text 68 = .ok (.iaload, 1) := by decide +kernel
theorem dX9_text_69 : decode cX9_text 69 = .ok (.iconst 1, 1) := by decide +kernel
theorem dX9_text_70 : decode cX9_text 70 = .ok (.isub, 1) := by decide +kernel
theorem dX9_text_71 : decode cX9_text 71 = .ok (.ireturn, 1) := by decide +kernel
theorem dX9_fault_0 : decode cX9_fault 0 = .ok (.iload_n 1, 1) := by decide +kernel
theorem dX9_fault_1 : decode cX9_fault 1 = .ok (.ifCond .ne 10, 3) := by decide +kernel
theorem dX9_fault_4 : decode cX9_fault 4 = .ok (.aload_n 0, 1) := by decide +kernel
theorem dX9_fault_5 : decode cX9_fault 5 = .ok (.getfield 22, 3) := by decide +kernel
theorem dX9_fault_8 : decode cX9_fault 8 = .ok (.goto 16, 3) := by decide +kernel
theorem dX9_fault_11 : decode cX9_fault 11 = .ok (.iload_n 1, 1) := by decide +kernel
theorem dX9_fault_12 : decode cX9_fault 12 = .ok (.iconst 1, 1) := by decide +kernel
theorem dX9_fault_13 : decode cX9_fault 13 = .ok (.if_icmp .ne 10, 3) := by decide +kernel
theorem dX9_fault_16 : decode cX9_fault 16 = .ok (.aload_n 0, 1) := by decide +kernel
theorem dX9_fault_17 : decode cX9_fault 17 = .ok (.getfield 26, 3) := by decide +kernel
theorem dX9_fault_20 : decode cX9_fault 20 = .ok (.goto 4, 3) := by decide +kernel
theorem dX9_fault_23 : decode cX9_fault 23 = .ok (.iconst (-1), 1) := by decide +kernel
theorem dX9_fault_24 : decode cX9_fault 24 = .ok (.ireturn, 1) := by decide +kernel
theorem dX9_by_0 : decode cX9_by 0 = .ok (.iload_n 1, 1) := by decide +kernel
theorem dX9_by_1 : decode cX9_by 1 = .ok (.iconst (-1), 1) := by decide +kernel
theorem dX9_by_2 : decode cX9_by 2 = .ok (.aload_n 0, 1) := by decide +kernel
theorem dX9_by_3 : decode cX9_by 3 = .ok (.getfield 7, 3) := by decide +kernel
theorem dX9_by_6 : decode cX9_by 6 = .ok (.iconst 4, 1) := by decide +kernel
theorem dX9_by_7 : decode cX9_by 7 = .ok (.iaload, 1) := by decide +kernel
theorem dX9_by_8 : decode cX9_by 8 = .ok (.iconst 1, 1) := by decide +kernel
theorem dX9_by_9 : decode cX9_by 9 = .ok (.isub, 1) := by decide +kernel
theorem dX9_by_10 : decode cX9_by 10 = .ok (.invokestatic 56, 3) := by decide +kernel
theorem dX9_by_13 : decode cX9_by 13 = .ok (.ifCond .ne 5, 3) := by decide +kernel
theorem dX9_by_16 : decode cX9_by 16 = .ok (.iconst 0, 1) := by decide +kernel
theorem dX9_by_17 : decode cX9_by 17 = .ok (.ireturn, 1) := by decide +kernel
theorem dX9_by_18 : decode cX9_by 18 = .ok (.aload_n 0, 1) := by decide +kernel
theorem dX9_by_19 : decode cX9_by 19 = .ok (.getfield 7, 3) := by decide +kernel
theorem dX9_by_22 : decode cX9_by 22 = .ok (.iconst 5, 1) := by decide +kernel
theorem dX9_by_23 : decode cX9_by 23 = .ok (.iload_n 1, 1) := by decide +kernel
theorem dX9_by_24 : decode cX9_by 24 = .ok (.iastore, 1) := by decide +kernel
theorem dX9_by_25 : decode cX9_by 25 = .ok (.iconst 1, 1) := by decide +kernel
theorem dX9_by_26 : decode cX9_by 26 = .ok (.ireturn, 1) := by decide +kernel
theorem dX9_clip_0 : decode cX9_clip 0 = .ok (.lload_n 0, 1) := by decide +kernel
theorem dX9_clip_1 : decode cX9_clip 1 = .ok (.ldc2_w 222, 3) := by decide +kernel
theorem dX9_clip_4 : decode cX9_clip 4 = .ok (.lcmp, 1) := by decide +kernel
theorem dX9_clip_5 : decode cX9_clip 5 = .ok (.ifCond .le 9, 3) := by decide +kernel
theorem dX9_clip_8 : decode cX9_clip 8 = .ok (.ldc2_w 222, 3) := by decide +kernel
theorem dX9_clip_11 : decode cX9_clip 11 = .ok (.goto 18, 3) := by decide +kernel
theorem dX9_clip_14 : decode cX9_clip 14 = .ok (.lload_n 0, 1) := by decide +kernel
theorem dX9_clip_15 : decode cX9_clip 15 = .ok (.ldc2_w 224, 3) := by decide +kernel
theorem dX9_clip_18 : decode cX9_clip 18 = .ok (.lcmp, 1) := by decide +kernel
theorem dX9_clip_19 : decode cX9_clip 19 = .ok (.ifCond .ge 9, 3) := by decide +kernel
theorem dX9_clip_22 : decode cX9_clip 22 = .ok (.ldc2_w 224, 3) := by decide +kernel
theorem dX9_clip_25 : decode cX9_clip 25 = .ok (.goto 4, 3) := by decide +kernel
theorem dX9_clip_28 : decode cX9_clip 28 = .ok (.lload_n 0, 1) := by decide +kernel
theorem dX9_clip_29 : decode cX9_clip 29 = .ok (.lreturn, 1) := by decide +kernel
theorem dX9_two_0 : decode cX9_two 0 = .ok (.iload_n 0, 1) := by decide +kernel
theorem dX9_two_1 : decode cX9_two 1 = .ok (.tableswitch 48 3 5 #[27, 34, 41], 27) := by decide +kernel
theorem dX9_two_28 : decode cX9_two 28 = .ok (.lload_n 1, 1) := by decide +kernel
theorem dX9_two_29 : decode cX9_two 29 = .ok (.lload_n 3, 1) := by decide +kernel
theorem dX9_two_30 : decode cX9_two 30 = .ok (.ladd, 1) := by decide +kernel
theorem dX9_two_31 : decode cX9_two 31 = .ok (.invokestatic 226, 3) := by decide +kernel
theorem dX9_two_34 : decode cX9_two 34 = .ok (.lreturn, 1) := by decide +kernel
theorem dX9_two_35 : decode cX9_two 35 = .ok (.lload_n 1, 1) := by decide +kernel
theorem dX9_two_36 : decode cX9_two 36 = .ok (.lload_n 3, 1) := by decide +kernel
theorem dX9_two_37 : decode cX9_two 37 = .ok (.lsub, 1) := by decide +kernel
theorem dX9_two_38 : decode cX9_two 38 = .ok (.invokestatic 226, 3) := by decide +kernel
theorem dX9_two_41 : decode cX9_two 41 = .ok (.lreturn, 1) := by decide +kernel
theorem dX9_two_42 : decode cX9_two 42 = .ok (.lload_n 1, 1) := by decide +kernel
theorem dX9_two_43 : decode cX9_two 43 = .ok (.lload_n 3, 1) := by decide +kernel
theorem dX9_two_44 : decode cX9_two 44 = .ok (.lmul, 1) := by decide +kernel
theorem dX9_two_45 : decode cX9_two 45 = .ok (.invokestatic 226, 3) := by decide +kernel
theorem dX9_two_48 : decode cX9_two 48 = .ok (.lreturn, 1) := by decide +kernel
theorem dX9_two_49 : decode cX9_two 49 = .ok (.lload_n 3, 1) := by decide +kernel
theorem dX9_two_50 : decode cX9_two 50 = .ok (.lconst 0, 1) := by decide +kernel
theorem dX9_two_51 : decode cX9_two 51 = .ok (.lcmp, 1) := by decide +kernel
theorem dX9_two_52 : decode cX9_two 52 = .ok (.ifCond .ne 7, 3) := by decide +kernel
theorem dX9_two_55 : decode cX9_two 55 = .ok (.lconst 0, 1) := by decide +kernel
theorem dX9_two_56 : decode cX9_two 56 = .ok (.goto 9, 3) := by decide +kernel
theorem dX9_two_59 : decode cX9_two 59 = .ok (.lload_n 1, 1) := by decide +kernel
theorem dX9_two_60 : decode cX9_two 60 = .ok (.lload_n 3, 1) := by decide +kernel
theorem dX9_two_61 : decode cX9_two 61 = .ok (.ldiv, 1) := by decide +kernel
theorem dX9_two_62 : decode cX9_two 62 = .ok (.invokestatic 226, 3) := by decide +kernel
theorem dX9_two_65 : decode cX9_two 65 = .ok (.lreturn, 1) := by decide +kernel
theorem dX9_isAsked_0 : decode cX9_isAsked 0 = .ok (.iload_n 0, 1) := by decide +kernel
theorem dX9_isAsked_1 : decode cX9_isAsked 1 = .ok (.bipush 10, 2) := by decide +kernel
theorem dX9_isAsked_3 : decode cX9_isAsked 3 = .ok (.if_icmp .ne 17, 3) := by decide +kernel
theorem dX9_isAsked_6 : decode cX9_isAsked 6 = .ok (.lload_n 1, 1) := by decide +kernel
theorem dX9_isAsked_7 : decode cX9_isAsked 7 = .ok (.lload_n 3, 1) := by decide +kernel
theorem dX9_isAsked_8 : decode cX9_isAsked 8 = .ok (.lcmp, 1) := by decide +kernel
theorem dX9_isAsked_9 : decode cX9_isAsked 9 = .ok (.ifCond .ge 7, 3) := by decide +kernel
theorem dX9_isAsked_12 : decode cX9_isAsked 12 = .ok (.iconst 1, 1) := by decide +kernel
theorem dX9_isAsked_13 : decode cX9_isAsked 13 = .ok (.goto 98, 3) := by decide +kernel
theorem dX9_isAsked_16 : decode cX9_isAsked 16 = .ok (.iconst 0, 1) := by decide +kernel
theorem dX9_isAsked_17 : decode cX9_isAsked 17 = .ok (.goto 94, 3) := by decide +kernel
theorem dX9_isAsked_20 : decode cX9_isAsked 20 = .ok (.iload_n 0, 1) := by decide +kernel
theorem dX9_isAsked_21 : decode cX9_isAsked 21 = .ok (.bipush 11, 2) := by decide +kernel
theorem dX9_isAsked_23 : decode cX9_isAsked 23 = .ok (.if_icmp .ne 17, 3) := by decide +kernel
theorem dX9_isAsked_26 : decode cX9_isAsked 26 = .ok (.lload_n 1, 1) := by decide +kernel
theorem dX9_isAsked_27 : decode cX9_isAsked 27 = .ok (.lload_n 3, 1) := by decide +kernel
theorem dX9_isAsked_28 : decode cX9_isAsked 28 = .ok (.lcmp, 1) := by decide +kernel
theorem dX9_isAsked_29 : decode cX9_isAsked 29 = .ok (.ifCond .gt 7, 3) := by decide +kernel
theorem dX9_isAsked_32 : decode cX9_isAsked 32 = .ok (.iconst 1, 1) := by decide +kernel
theorem dX9_isAsked_33 : decode cX9_isAsked 33 = .ok (.goto 78, 3) := by decide +kernel
theorem dX9_isAsked_36 : decode cX9_isAsked 36 = .ok (.iconst 0, 1) := by decide +kernel
theorem dX9_isAsked_37 : decode cX9_isAsked 37 = .ok (.goto 74, 3) := by decide +kernel
theorem dX9_isAsked_40 : decode cX9_isAsked 40 = .ok (.iload_n 0, 1) := by decide +kernel
theorem dX9_isAsked_41 : decode cX9_isAsked 41 = .ok (.bipush 12, 2) := by decide +kernel
theorem dX9_isAsked_43 : decode cX9_isAsked 43 = .ok (.if_icmp .ne 17, 3) := by decide +kernel
theorem dX9_isAsked_46 : decode cX9_isAsked 46 = .ok (.lload_n 1, 1) := by decide +kernel
theorem dX9_isAsked_47 : decode cX9_isAsked 47 = .ok (.lload_n 3, 1) := by decide +kernel
theorem dX9_isAsked_48 : decode cX9_isAsked 48 = .ok (.lcmp, 1) := by decide +kernel
theorem dX9_isAsked_49 : decode cX9_isAsked 49 = .ok (.ifCond .le 7, 3) := by decide +kernel
theorem dX9_isAsked_52 : decode cX9_isAsked 52 = .ok (.iconst 1, 1) := by decide +kernel
theorem dX9_isAsked_53 : decode cX9_isAsked 53 = .ok (.goto 58, 3) := by decide +kernel
theorem dX9_isAsked_56 : decode cX9_isAsked 56 = .ok (.iconst 0, 1) := by decide +kernel
theorem dX9_isAsked_57 : decode cX9_isAsked 57 = .ok (.goto 54, 3) := by decide +kernel
theorem dX9_isAsked_60 : decode cX9_isAsked 60 = .ok (.iload_n 0, 1) := by decide +kernel
theorem dX9_isAsked_61 : decode cX9_isAsked 61 = .ok (.bipush 13, 2) := by decide +kernel
theorem dX9_isAsked_63 : decode cX9_isAsked 63 = .ok (.if_icmp .ne 17, 3) := by decide +kernel
theorem dX9_isAsked_66 : decode cX9_isAsked 66 = .ok (.lload_n 1, 1) := by decide +kernel
theorem dX9_isAsked_67 : decode cX9_isAsked 67 = .ok (.lload_n 3, 1) := by decide +kernel
theorem dX9_isAsked_68 : decode cX9_isAsked 68 = .ok (.lcmp, 1) := by decide +kernel
theorem dX9_isAsked_69 : decode cX9_isAsked 69 = .ok (.ifCond .lt 7, 3) := by decide +kernel
theorem dX9_isAsked_72 : decode cX9_isAsked 72 = .ok (.iconst 1, 1) := by decide +kernel
theorem dX9_isAsked_73 : decode cX9_isAsked 73 = .ok (.goto 38, 3) := by decide +kernel
theorem dX9_isAsked_76 : decode cX9_isAsked 76 = .ok (.iconst 0, 1) := by decide +kernel
theorem dX9_isAsked_77 : decode cX9_isAsked 77 = .ok (.goto 34, 3) := by decide +kernel
theorem dX9_isAsked_80 : decode cX9_isAsked 80 = .ok (.iload_n 0, 1) := by decide +kernel
theorem dX9_isAsked_81 : decode cX9_isAsked 81 = .ok (.bipush 14, 2) := by decide +kernel
theorem dX9_isAsked_83 : decode cX9_isAsked 83 = .ok (.if_icmp .ne 17, 3) := by decide +kernel
theorem dX9_isAsked_86 : decode cX9_isAsked 86 = .ok (.lload_n 1, 1) := by decide +kernel
theorem dX9_isAsked_87 : decode cX9_isAsked 87 = .ok (.lload_n 3, 1) := by decide +kernel
theorem dX9_isAsked_88 : decode cX9_isAsked 88 = .ok (.lcmp, 1) := by decide +kernel
theorem dX9_isAsked_89 : decode cX9_isAsked 89 = .ok (.ifCond .ne 7, 3) := by decide +kernel
theorem dX9_isAsked_92 : decode cX9_isAsked 92 = .ok (.iconst 1, 1) := by decide +kernel
theorem dX9_isAsked_93 : decode cX9_isAsked 93 = .ok (.goto 18, 3) := by decide +kernel
theorem dX9_isAsked_96 : decode cX9_isAsked 96 = .ok (.iconst 0, 1) := by decide +kernel
theorem dX9_isAsked_97 : decode cX9_isAsked 97 = .ok (.goto 14, 3) := by decide +kernel
theorem dX9_isAsked_100 : decode cX9_isAsked 100 = .ok (.lload_n 1, 1) := by decide +kernel
theorem dX9_isAsked_101 : decode cX9_isAsked 101 = .ok (.lload_n 3, 1) := by decide +kernel
theorem dX9_isAsked_102 : decode cX9_isAsked 102 = .ok (.lcmp, 1) := by decide +kernel
theorem dX9_isAsked_103 : decode cX9_isAsked 103 = .ok (.ifCond .eq 7, 3) := by decide +kernel
theorem dX9_isAsked_106 : decode cX9_isAsked 106 = .ok (.iconst 1, 1) := by decide +kernel
theorem dX9_isAsked_107 : decode cX9_isAsked 107 = .ok (.goto 4, 3) := by decide +kernel
theorem dX9_isAsked_110 : decode cX9_isAsked 110 = .ok (.iconst 0, 1) := by decide +kernel
theorem dX9_isAsked_111 : decode cX9_isAsked 111 = .ok (.ireturn, 1) := by decide +kernel
theorem dX9_work_0 : decode cX9_work 0 = .ok (.sipush 680, 3) := by decide +kernel
theorem dX9_work_3 : decode cX9_work 3 = .ok (.aload_n 0, 1) := by decide +kernel
theorem dX9_work_4 : decode cX9_work 4 = .ok (.getfield 7, 3) := by decide +kernel
theorem dX9_work_7 : decode cX9_work 7 = .ok (.iconst 5, 1) := by decide +kernel
theorem dX9_work_8 : decode cX9_work 8 = .ok (.iaload, 1) := by decide +kernel
theorem dX9_work_9 : decode cX9_work 9 = .ok (.imul, 1) := by decide +kernel
theorem dX9_work_10 : decode cX9_work 10 = .ok (.iconst 1, 1) := by decide +kernel
theorem dX9_work_11 : decode cX9_work 11 = .ok (.iadd, 1) := by decide +kernel
theorem dX9_work_12 : decode cX9_work 12 = .ok (.iconst 3, 1) := by decide +kernel
theorem dX9_work_13 : decode cX9_work 13 = .ok (.iload_n 1, 1) := by decide +kernel
theorem dX9_work_14 : decode cX9_work 14 = .ok (.imul, 1) := by decide +kernel
theorem dX9_work_15 : decode cX9_work 15 = .ok (.iadd, 1) := by decide +kernel
theorem dX9_work_16 : decode cX9_work 16 = .ok (.istore_n 2, 1) := by decide +kernel
theorem dX9_work_17 : decode cX9_work 17 = .ok (.sipush 680, 3) := by decide +kernel
theorem dX9_work_20 : decode cX9_work 20 = .ok (.aload_n 0, 1) := by decide +kernel
theorem dX9_work_21 : decode cX9_work 21 = .ok (.getfield 7, 3) := by decide +kernel
theorem dX9_work_24 : decode cX9_work 24 = .ok (.iconst 5, 1) := by decide +kernel
theorem dX9_work_25 : decode cX9_work 25 = .ok (.iaload, 1) := by decide +kernel
theorem dX9_work_26 : decode cX9_work 26 = .ok (.imul, 1) := by decide +kernel
theorem dX9_work_27 : decode cX9_work 27 = .ok (.bipush 75, 2) := by decide +kernel
theorem dX9_work_29 : decode cX9_work 29 = .ok (.iadd, 1) := by decide +kernel
theorem dX9_work_30 : decode cX9_work 30 = .ok (.istore_n 3, 1) := by decide +kernel
theorem dX9_work_31 : decode cX9_work 31 = .ok (.iconst 0, 1) := by decide +kernel
theorem dX9_work_32 : decode cX9_work 32 = .ok (.istore 4, 2) := by decide +kernel
theorem dX9_work_34 : decode cX9_work 34 = .ok (.iconst 0, 1) := by decide +kernel
theorem dX9_work_35 : decode cX9_work 35 = .ok (.istore 5, 2) := by decide +kernel
theorem dX9_work_37 : decode cX9_work 37 = .ok (.aload_n 0, 1) := by decide +kernel
theorem dX9_work_38 : decode cX9_work 38 = .ok (.getfield 16, 3) := by decide +kernel
theorem dX9_work_41 : decode cX9_work 41 = .ok (.iload_n 2, 1) := by decide +kernel
theorem dX9_work_42 : decode cX9_work 42 = .ok (.iconst 1, 1) := by decide +kernel
theorem dX9_work_43 : decode cX9_work 43 = .ok (.iadd, 1) := by decide +kernel
theorem dX9_work_44 : decode cX9_work 44 = .ok (.iaload, 1) := by decide +kernel
theorem dX9_work_45 : decode cX9_work 45 = .ok (.istore 6, 2) := by decide +kernel
theorem dX9_work_47 : decode cX9_work 47 = .ok (.iload 6, 2) := by decide +kernel
theorem dX9_work_49 : decode cX9_work 49 = .ok (.aload_n 0, 1) := by decide +kernel
theorem dX9_work_50 : decode cX9_work 50 = .ok (.getfield 16, 3) := by decide +kernel
theorem dX9_work_53 : decode cX9_work 53 = .ok (.iload_n 2, 1) := by decide +kernel
theorem dX9_work_54 : decode cX9_work 54 = .ok (.iconst 2, 1) := by decide +kernel
theorem dX9_work_55 : decode cX9_work 55 = .ok (.iadd, 1) := by decide +kernel
theorem dX9_work_56 : decode cX9_work 56 = .ok (.iaload, 1) := by decide +kernel
theorem dX9_work_57 : decode cX9_work 57 = .ok (.if_icmp .ge 356, 3) := by decide +kernel
theorem dX9_work_60 : decode cX9_work 60 = .ok (.aload_n 0, 1) := by decide +kernel
theorem dX9_work_61 : decode cX9_work 61 = .ok (.getfield 16, 3) := by decide +kernel
theorem dX9_work_64 : decode cX9_work 64 = .ok (.iload_n 3, 1) := by decide +kernel
theorem dX9_work_65 : decode cX9_work 65 = .ok (.iconst 2, 1) := by decide +kernel
theorem dX9_work_66 : decode cX9_work 66 = .ok (.iload 6, 2) := by decide +kernel
theorem dX9_work_68 : decode cX9_work 68 = .ok (.imul, 1) := by decide +kernel
theorem dX9_work_69 : decode cX9_work 69 = .ok (.iadd, 1) := by decide +kernel
theorem dX9_work_70 : decode cX9_work 70 = .ok (.iaload, 1) := by decide +kernel
theorem dX9_work_71 : decode cX9_work 71 = .ok (.istore 7, 2) := by decide +kernel
theorem dX9_work_73 : decode cX9_work 73 = .ok (.aload_n 0, 1) := by decide +kernel
theorem dX9_work_74 : decode cX9_work 74 = .ok (.getfield 16, 3) := by decide +kernel
theorem dX9_work_77 : decode cX9_work 77 = .ok (.iload_n 3, 1) := by decide +kernel
theorem dX9_work_78 : decode cX9_work 78 = .ok (.iconst 2, 1) := by decide +kernel
theorem dX9_work_79 : decode cX9_work 79 = .ok (.iload 6, 2) := by decide +kernel
theorem dX9_work_81 : decode cX9_work 81 = .ok (.imul, 1) := by decide +kernel
theorem dX9_work_82 : decode cX9_work 82 = .ok (.iadd, 1) := by decide +kernel
theorem dX9_work_83 : decode cX9_work 83 = .ok (.iconst 1, 1) := by decide +kernel
theorem dX9_work_84 : decode cX9_work 84 = .ok (.iadd, 1) := by decide +kernel
theorem dX9_work_85 : decode cX9_work 85 = .ok (.iaload, 1) := by decide +kernel
theorem dX9_work_86 : decode cX9_work 86 = .ok (.istore 8, 2) := by decide +kernel
theorem dX9_work_88 : decode cX9_work 88 = .ok (.iload 7, 2) := by decide +kernel
theorem dX9_work_90 : decode cX9_work 90 = .ok (.iconst 1, 1) := by decide +kernel
theorem dX9_work_91 : decode cX9_work 91 = .ok (.if_icmp .gt 35, 3) := by decide +kernel
theorem dX9_work_94 : decode cX9_work 94 = .ok (.aload_n 0, 1) := by decide +kernel
theorem dX9_work_95 : decode cX9_work 95 = .ok (.getfield 35, 3) := by decide +kernel
theorem dX9_work_98 : decode cX9_work 98 = .ok (.iload 4, 2) := by decide +kernel
theorem dX9_work_100 : decode cX9_work 100 = .ok (.iload 7, 2) := by decide +kernel
theorem dX9_work_102 : decode cX9_work 102 = .ok (.ifCond .ne 9, 3) := by decide +kernel
theorem dX9_work_105 : decode cX9_work 105 = .ok (.iload 8, 2) := by decide +kernel
theorem dX9_work_107 : decode cX9_work 107 = .ok (.i2l, 1) := by decide +kernel
theorem dX9_work_108 : decode cX9_work 108 = .ok (.goto 11, 3) := by decide +kernel
theorem dX9_work_111 : decode cX9_work 111 = .ok (.aload_n 0, 1) := by decide +kernel
theorem dX9_work_112 : decode cX9_work 112 = .ok (.getfield 32, 3) := by decide +kernel
theorem dX9_work_115 : decode cX9_work 115 = .ok (.iload 8, 2) := by decide +kernel
theorem dX9_work_117 : decode cX9_work 117 = .ok (.iaload, 1) := by decide +kernel
theorem dX9_work_118 : decode cX9_work 118 = .ok (.i2l, 1) := by decide +kernel
theorem dX9_work_119 : decode cX9_work 119 = .ok (.lastore, 1) := by decide +kernel
theorem dX9_work_120 : decode cX9_work 120 = .ok (.iinc 4 1, 3) := by decide +kernel
theorem dX9_work_123 : decode cX9_work 123 = .ok (.goto 284, 3) := by decide +kernel
theorem dX9_work_126 : decode cX9_work 126 = .ok (.iload 7, 2) := by decide +kernel
theorem dX9_work_128 : decode cX9_work 128 = .ok (.iconst 2, 1) := by decide +kernel
theorem dX9_work_129 : decode cX9_work 129 = .ok (.if_icmp .ne 25, 3) := by decide +kernel
theorem dX9_work_132 : decode cX9_work 132 = .ok (.aload_n 0, 1) := by decide +kernel
theorem dX9_work_133 : decode cX9_work 133 = .ok (.getfield 35, 3) := by decide +kernel
theorem dX9_work_136 : decode cX9_work 136 = .ok (.iload 4, 2) := by decide +kernel
theorem dX9_work_138 : decode cX9_work 138 = .ok (.iconst 1, 1) := by decide +kernel
theorem dX9_work_139 : decode cX9_work 139 = .ok (.isub, 1) := by decide +kernel
theorem dX9_work_140 : decode cX9_work 140 = .ok (.aload_n 0, 1) := by decide +kernel
theorem dX9_work_141 : decode cX9_work 141 = .ok (.getfield 35, 3) := by decide +kernel
theorem dX9_work_144 : decode cX9_work 144 = .ok (.iload 4, 2) := by decide +kernel
theorem dX9_work_146 : decode cX9_work 146 = .ok (.iconst 1, 1) := by decide +kernel
theorem dX9_work_147 : decode cX9_work 147 = .ok (.isub, 1) := by decide +kernel
theorem dX9_work_148 : decode cX9_work 148 = .ok (.laload, 1) := by decide +kernel
theorem dX9_work_149 : decode cX9_work 149 = .ok (.lneg, 1) := by decide +kernel
theorem dX9_work_150 : decode cX9_work 150 = .ok (.lastore, 1) := by decide +kernel
theorem dX9_work_151 : decode cX9_work 151 = .ok (.goto 256, 3) := by decide +kernel
theorem dX9_work_154 : decode cX9_work 154 = .ok (.iload 7, 2) := by decide +kernel
theorem dX9_work_156 : decode cX9_work 156 = .ok (.bipush 10, 2) := by decide +kernel
theorem dX9_work_158 : decode cX9_work 158 = .ok (.if_icmp .ge 39, 3) := by decide +kernel
theorem dX9_work_161 : decode cX9_work 161 = .ok (.iinc 4 (-1), 3) := by decide +kernel
theorem dX9_work_164 : decode cX9_work 164 = .ok (.aload_n 0, 1) := by decide +kernel
theorem dX9_work_165 : decode cX9_work 165 = .ok (.getfield 35, 3) := by decide +kernel
theorem dX9_work_168 : decode cX9_work 168 = .ok (.iload 4, 2) := by decide +kernel
theorem dX9_work_170 : decode cX9_work 170 = .ok (.iconst 1, 1) := by decide +kernel
theorem dX9_work_171 : decode cX9_work 171 = .ok (.isub, 1) := by decide +kernel
theorem dX9_work_172 : decode cX9_work 172 = .ok (.iload 7, 2) := by decide +kernel
theorem dX9_work_174 : decode cX9_work 174 = .ok (.aload_n 0, 1) := by decide +kernel
theorem dX9_work_175 : decode cX9_work 175 = .ok (.getfield 35, 3) := by decide +kernel
theorem dX9_work_178 : decode cX9_work 178 = .ok (.iload 4, 2) := by decide +kernel
theorem dX9_work_180 : decode cX9_work 180 = .ok (.iconst 1, 1) := by decide +kernel
theorem dX9_work_181 : decode cX9_work 181 = .ok (.isub, 1) := by decide +kernel
theorem dX9_work_182 : decode cX9_work 182 = .ok (.laload, 1) := by decide +kernel
theorem dX9_work_183 : decode cX9_work 183 = .ok (.aload_n 0, 1) := by decide +kernel
theorem dX9_work_184 : decode cX9_work 184 = .ok (.getfield 35, 3) := by decide +kernel
theorem dX9_work_187 : decode cX9_work 187 = .ok (.iload 4, 2) := by decide +kernel
theorem dX9_work_189 : decode cX9_work 189 = .ok (.laload, 1) := by decide +kernel
theorem dX9_work_190 : decode cX9_work 190 = .ok (.invokestatic 230, 3) := by decide +kernel
theorem dX9_work_193 : decode cX9_work 193 = .ok (.lastore, 1) := by decide +kernel
theorem dX9_work_194 : decode cX9_work 194 = .ok (.goto 213, 3) := by decide +kernel
theorem dX9_work_197 : decode cX9_work 197 = .ok (.iload 7, 2) := by decide +kernel
theorem dX9_work_199 : decode cX9_work 199 = .ok (.bipush 20, 2) := by decide +kernel
theorem dX9_work_201 : decode cX9_work 201 = .ok (.if_icmp .ge 40, 3) := by decide +kernel
theorem dX9_work_204 : decode cX9_work 204 = .ok (.iinc 4 (-2), 3) := by decide +kernel
theorem dX9_work_207 : decode cX9_work 207 = .ok (.aload_n 0, 1) := by decide +kernel
theorem dX9_work_208 : decode cX9_work 208 = .ok (.getfield 39, 3) := by decide +kernel
theorem dX9_work_211 : decode cX9_work 211 = .ok (.iload 5, 2) := by decide +kernel
theorem dX9_work_213 : decode cX9_work 213 = .ok (.iload 7, 2) := by decide +kernel
theorem dX9_work_215 : decode cX9_work 215 = .ok (.aload_n 0, 1) := by decide +kernel
theorem dX9_work_216 : decode cX9_work 216 = .ok (.getfield 35, 3) := by decide +kernel
theorem dX9_work_219 : decode cX9_work 219 = .ok (.iload 4, 2) := by decide +kernel
theorem dX9_work_221 : decode cX9_work 221 = .ok (.laload, 1) := by decide +kernel
theorem dX9_work_222 : decode cX9_work 222 = .ok (.aload_n 0, 1) := by decide +kernel
theorem dX9_work_223 : decode cX9_work 223 = .ok (.getfield 35, 3) := by decide +kernel
theorem dX9_work_226 : decode cX9_work 226 = .ok (.iload 4, 2) := by decide +kernel
theorem dX9_work_228 : decode cX9_work 228 = .ok (.iconst 1, 1) := by decide +kernel
theorem dX9_work_229 : decode cX9_work 229 = .ok (.iadd, 1) := by decide +kernel
theorem dX9_work_230 : decode cX9_work 230 = .ok (.laload, 1) := by decide +kernel
theorem dX9_work_231 : decode cX9_work 231 = .ok (.invokestatic 234, 3) := by decide +kernel
theorem dX9_work_234 : decode cX9_work 234 = .ok (.bastore, 1) := by decide +kernel
theorem dX9_work_235 : decode cX9_work 235 = .ok (.iinc 5 1, 3) := by decide +kernel
theorem dX9_work_238 : decode cX9_work 238 = .ok (.goto 169, 3) := by decide +kernel
theorem dX9_work_241 : decode cX9_work 241 = .ok (.iload 7, 2) := by decide +kernel
theorem dX9_work_243 : decode cX9_work 243 = .ok (.bipush 20, 2) := by decide +kernel
theorem dX9_work_245 : decode cX9_work 245 = .ok (.if_icmp .ne 32, 3) := by decide +kernel
theorem dX9_work_248 : decode cX9_work 248 = .ok (.aload_n 0, 1) := by decide +kernel
theorem dX9_work_249 : decode cX9_work 249 = .ok (.getfield 39, 3) := by decide +kernel
theorem dX9_work_252 : decode cX9_work 252 = .ok (.iload 5, 2) := by decide +kernel
theorem dX9_work_254 : decode cX9_work 254 = .ok (.iconst 1, 1) := by decide +kernel
theorem dX9_work_255 : decode cX9_work 255 = .ok (.isub, 1) := by decide +kernel
theorem dX9_work_256 : decode cX9_work 256 = .ok (.aload_n 0, 1) := by decide +kernel
theorem dX9_work_257 : decode cX9_work 257 = .ok (.getfield 39, 3) := by decide +kernel
theorem dX9_work_260 : decode cX9_work 260 = .ok (.iload 5, 2) := by decide +kernel
theorem dX9_work_262 : decode cX9_work 262 = .ok (.iconst 1, 1) := by decide +kernel
theorem dX9_work_263 : decode cX9_work 263 = .ok (.isub, 1) := by decide +kernel
theorem dX9_work_264 : decode cX9_work 264 = .ok (.baload, 1) := by decide +kernel
theorem dX9_work_265 : decode cX9_work 265 = .ok (.ifCond .ne 7, 3) := by decide +kernel
theorem dX9_work_268 : decode cX9_work 268 = .ok (.iconst 1, 1) := by decide +kernel
theorem dX9_work_269 : decode cX9_work 269 = .ok (.goto 4, 3) := by decide +kernel
theorem dX9_work_272 : decode cX9_work 272 = .ok (.iconst 0, 1) := by decide +kernel
theorem dX9_work_273 : decode cX9_work 273 = .ok (.bastore, 1) := by decide +kernel
theorem dX9_work_274 : decode cX9_work 274 = .ok (.goto 133, 3) := by decide +kernel
theorem dX9_work_277 : decode cX9_work 277 = .ok (.iload 7, 2) := by decide +kernel
theorem dX9_work_279 : decode cX9_work 279 = .ok (.bipush 23, 2) := by decide +kernel
theorem dX9_work_281 : decode cX9_work 281 = .ok (.if_icmp .ne 50, 3) := by decide +kernel
theorem dX9_work_284 : decode cX9_work 284 = .ok (.iinc 4 (-1), 3) := by decide +kernel
theorem dX9_work_287 : decode cX9_work 287 = .ok (.iinc 5 (-1), 3) := by decide +kernel
theorem dX9_work_290 : decode cX9_work 290 = .ok (.aload_n 0, 1) := by decide +kernel
theorem dX9_work_291 : decode cX9_work 291 = .ok (.getfield 35, 3) := by decide +kernel
theorem dX9_work_294 : decode cX9_work 294 = .ok (.iload 4, 2) := by decide +kernel
theorem dX9_work_296 : decode cX9_work 296 = .ok (.iconst 1, 1) := by decide +kernel
theorem dX9_work_297 : decode cX9_work 297 = .ok (.isub, 1) := by decide +kernel
theorem dX9_work_298 : decode cX9_work 298 = .ok (.aload_n 0, 1) := by decide +kernel
theorem dX9_work_299 : decode cX9_work 299 = .ok (.getfield 39, 3) := by decide +kernel
theorem dX9_work_302 : decode cX9_work 302 = .ok (.iload 5, 2) := by decide +kernel
theorem dX9_work_304 : decode cX9_work 304 = .ok (.baload, 1) := by decide +kernel
theorem dX9_work_305 : decode cX9_work 305 = .ok (.ifCond .eq 15, 3) := by decide +kernel
theorem dX9_work_308 : decode cX9_work 308 = .ok (.aload_n 0, 1) := by decide +kernel
theorem dX9_work_309 : decode cX9_work 309 = .ok (.getfield 35, 3) := by decide +kernel
theorem dX9_work_312 : decode cX9_work 312 = .ok (.iload 4, 2) := by decide +kernel
theorem dX9_work_314 : decode cX9_work 314 = .ok (.iconst 1, 1) := by decide +kernel
theorem dX9_work_315 : decode cX9_work 315 = .ok (.isub, 1) := by decide +kernel
theorem dX9_work_316 : decode cX9_work 316 = .ok (.laload, 1) := by decide +kernel
theorem dX9_work_317 : decode cX9_work 317 = .ok (.goto 10, 3) := by decide +kernel
theorem dX9_work_320 : decode cX9_work 320 = .ok (.aload_n 0, 1) := by decide +kernel
theorem dX9_work_321 : decode cX9_work 321 = .ok (.getfield 35, 3) := by decide +kernel
theorem dX9_work_324 : decode cX9_work 324 = .ok (.iload 4, 2) := by decide +kernel
theorem dX9_work_326 : decode cX9_work 326 = .ok (.laload, 1) := by decide +kernel
theorem dX9_work_327 : decode cX9_work 327 = .ok (.lastore, 1) := by decide +kernel
theorem dX9_work_328 : decode cX9_work 328 = .ok (.goto 79, 3) := by decide +kernel
theorem dX9_work_331 : decode cX9_work 331 = .ok (.iinc 5 (-1), 3) := by decide +kernel
theorem dX9_work_334 : decode cX9_work 334 = .ok (.aload_n 0, 1) := by decide +kernel
theorem dX9_work_335 : decode cX9_work 335 = .ok (.getfield 39, 3) := by decide +kernel
theorem dX9_work_338 : decode cX9_work 338 = .ok (.iload 5, 2) := by decide +kernel
theorem dX9_work_340 : decode cX9_work 340 = .ok (.iconst 1, 1) := by decide +kernel
theorem dX9_work_341 : decode cX9_work 341 = .ok (.isub, 1) := by decide +kernel
theorem dX9_work_342 : decode cX9_work 342 = .ok (.iload 7, 2) := by decide +kernel
theorem dX9_work_344 : decode cX9_work 344 = .ok (.bipush 21, 2) := by decide +kernel
theorem dX9_work_346 : decode cX9_work 346 = .ok (.if_icmp .ne 33, 3) := by decide +kernel
theorem dX9_work_349 : decode cX9_work 349 = .ok (.aload_n 0, 1) := by decide +kernel
theorem dX9_work_350 : decode cX9_work 350 = .ok (.getfield 39, 3) := by decide +kernel
theorem dX9_work_353 : decode cX9_work 353 = .ok (.iload 5, 2) := by decide +kernel
theorem dX9_work_355 : decode cX9_work 355 = .ok (.iconst 1, 1) := by decide +kernel
theorem dX9_work_356 : decode cX9_work 356 = .ok (.isub, 1) := by decide +kernel
theorem dX9_work_357 : decode cX9_work 357 = .ok (.baload, 1) := by decide +kernel
theorem dX9_work_358 : decode cX9_work 358 = .ok (.ifCond .eq 17, 3) := by decide +kernel
theorem dX9_work_361 : decode cX9_work 361 = .ok (.aload_n 0, 1) := by decide +kernel
theorem dX9_work_362 : decode cX9_work 362 = .ok (.getfield 39, 3) := by decide +kernel
theorem dX9_work_365 : decode cX9_work 365 = .ok (.iload 5, 2) := by decide +kernel
theorem dX9_work_367 : decode cX9_work 367 = .ok (.baload, 1) := by decide +kernel
theorem dX9_work_368 : decode cX9_work 368 = .ok (.ifCond .eq 7, 3) := by decide +kernel
theorem dX9_work_371 : decode cX9_work 371 = .ok (.iconst 1, 1) := by decide +kernel
theorem dX9_work_372 : decode cX9_work 372 = .ok (.goto 34, 3) := by decide +kernel
theorem dX9_work_375 : decode cX9_work 375 = .ok (.iconst 0, 1) := by decide +kernel
theorem dX9_work_376 : decode cX9_work 376 = .ok (.goto 30, 3) := by decide +kernel
theorem dX9_work_379 : decode cX9_work 379 = .ok (.aload_n 0, 1) := by decide +kernel
theorem dX9_work_380 : decode cX9_work 380 = .ok (.getfield 39, 3) := by decide +kernel
theorem dX9_work_383 : decode cX9_work 383 = .ok (.iload 5, 2) := by decide +kernel
theorem dX9_work_385 : decode cX9_work 385 = .ok (.iconst 1, 1) := by decide +kernel
theorem dX9_work_386 : decode cX9_work 386 = .ok (.isub, 1) := by decide +kernel
theorem dX9_work_387 : decode cX9_work 387 = .ok (.baload, 1) := by decide +kernel
theorem dX9_work_388 : decode cX9_work 388 = .ok (.ifCond .ne 13, 3) := by decide +kernel
theorem dX9_work_391 : decode cX9_work 391 = .ok (.aload_n 0, 1) := by decide +kernel
theorem dX9_work_392 : decode cX9_work 392 = .ok (.getfield 39, 3) := by decide +kernel
theorem dX9_work_395 : decode cX9_work 395 = .ok (.iload 5, 2) := by decide +kernel
theorem dX9_work_397 : decode cX9_work 397 = .ok (.baload, 1) := by decide +kernel
theorem dX9_work_398 : decode cX9_work 398 = .ok (.ifCond .eq 7, 3) := by decide +kernel
theorem dX9_work_401 : decode cX9_work 401 = .ok (.iconst 1, 1) := by decide +kernel
theorem dX9_work_402 : decode cX9_work 402 = .ok (.goto 4, 3) := by decide +kernel
theorem dX9_work_405 : decode cX9_work 405 = .ok (.iconst 0, 1) := by decide +kernel
theorem dX9_work_406 : decode cX9_work 406 = .ok (.bastore, 1) := by decide +kernel
theorem dX9_work_407 : decode cX9_work 407 = .ok (.iinc 6 1, 3) := by decide +kernel
theorem dX9_work_410 : decode cX9_work 410 = .ok (.goto (-363), 3) := by decide +kernel
theorem dX9_work_413 : decode cX9_work 413 = .ok (.return_, 1) := by decide +kernel
theorem dX9_sumOf_0 : decode cX9_sumOf 0 = .ok (.iconst 0, 1) := by decide +kernel
theorem dX9_sumOf_1 : decode cX9_sumOf 1 = .ok (.istore 5, 2) := by decide +kernel
theorem dX9_sumOf_3 : decode cX9_sumOf 3 = .ok (.aload_n 0, 1) := by decide +kernel
theorem dX9_sumOf_4 : decode cX9_sumOf 4 = .ok (.getfield 7, 3) := by decide +kernel
theorem dX9_sumOf_7 : decode cX9_sumOf 7 = .ok (.iconst 5, 1) := by decide +kernel
theorem dX9_sumOf_8 : decode cX9_sumOf 8 = .ok (.iaload, 1) := by decide +kernel
theorem dX9_sumOf_9 : decode cX9_sumOf 9 = .ok (.ifCond .lt 76, 3) := by decide +kernel
theorem dX9_sumOf_12 : decode cX9_sumOf 12 = .ok (.iload 5, 2) := by decide +kernel
theorem dX9_sumOf_14 : decode cX9_sumOf 14 = .ok (.aload_n 0, 1) := by decide +kernel
theorem dX9_sumOf_15 : decode cX9_sumOf 15 = .ok (.getfield 16, 3) := by decide +kernel
theorem dX9_sumOf_18 : decode cX9_sumOf 18 = .ok (.sipush 680, 3) := by decide +kernel
theorem dX9_sumOf_21 : decode cX9_sumOf 21 = .ok (.aload_n 0, 1) := by decide +kernel
theorem dX9_sumOf_22 : decode cX9_sumOf 22 = .ok (.getfield 7, 3) := by decide +kernel
theorem dX9_sumOf_25 : decode cX9_sumOf 25 = .ok (.iconst 5, 1) := by decide +kernel
theorem dX9_sumOf_26 : decode cX9_sumOf 26 = .ok (.iaload, 1) := by decide +kernel
theorem dX9_sumOf_27 : decode cX9_sumOf 27 = .ok (.imul, 1) := by decide +kernel
theorem dX9_sumOf_28 : decode cX9_sumOf 28 = .ok (.iaload, 1) := by decide +kernel
theorem dX9_sumOf_29 : decode cX9_sumOf 29 = .ok (.if_icmp .ge 56, 3) := by decide +kernel
theorem dX9_sumOf_32 : decode cX9_sumOf 32 = .ok (.aload_n 0, 1) := by decide +kernel
theorem dX9_sumOf_33 : decode cX9_sumOf 33 = .ok (.getfield 16, 3) := by decide +kernel
theorem dX9_sumOf_36 : decode cX9_sumOf 36 = .ok (.sipush 680, 3) := by decide +kernel
theorem dX9_sumOf_39 : decode cX9_sumOf 39 = .ok (.aload_n 0, 1) := by decide +kernel
theorem dX9_sumOf_40 : decode cX9_sumOf 40 = .ok (.getfield 7, 3) := by decide +kernel
theorem dX9_sumOf_43 : decode cX9_sumOf 43 = .ok (.iconst 5, 1) := by decide +kernel
theorem dX9_sumOf_44 : decode cX9_sumOf 44 = .ok (.iaload, 1) := by decide +kernel
theorem dX9_sumOf_45 : decode cX9_sumOf 45 = .ok (.imul, 1) := by decide +kernel
theorem dX9_sumOf_46 : decode cX9_sumOf 46 = .ok (.iconst 1, 1) := by decide +kernel
theorem dX9_sumOf_47 : decode cX9_sumOf 47 = .ok (.iadd, 1) := by decide +kernel
theorem dX9_sumOf_48 : decode cX9_sumOf 48 = .ok (.iconst 3, 1) := by decide +kernel
theorem dX9_sumOf_49 : decode cX9_sumOf 49 = .ok (.iload 5, 2) := by decide +kernel
theorem dX9_sumOf_51 : decode cX9_sumOf 51 = .ok (.imul, 1) := by decide +kernel
theorem dX9_sumOf_52 : decode cX9_sumOf 52 = .ok (.iadd, 1) := by decide +kernel
theorem dX9_sumOf_53 : decode cX9_sumOf 53 = .ok (.iaload, 1) := by decide +kernel
theorem dX9_sumOf_54 : decode cX9_sumOf 54 = .ok (.iload_n 1, 1) := by decide +kernel
theorem dX9_sumOf_55 : decode cX9_sumOf 55 = .ok (.if_icmp .eq 6, 3) := by decide +kernel
theorem dX9_sumOf_58 : decode cX9_sumOf 58 = .ok (.goto 21, 3) := by decide +kernel
theorem dX9_sumOf_61 : decode cX9_sumOf 61 = .ok (.aload_n 0, 1) := by decide +kernel
theorem dX9_sumOf_62 : decode cX9_sumOf 62 = .ok (.iload 5, 2) := by decide +kernel
theorem dX9_sumOf_64 : decode cX9_sumOf 64 = .ok (.invokevirtual 238, 3) := by decide +kernel
theorem dX9_sumOf_67 : decode cX9_sumOf 67 = .ok (.aload_n 0, 1) := by decide +kernel
theorem dX9_sumOf_68 : decode cX9_sumOf 68 = .ok (.getfield 35, 3) := by decide +kernel
theorem dX9_sumOf_71 : decode cX9_sumOf 71 = .ok (.iconst 0, 1) := by decide +kernel
theorem dX9_sumOf_72 : decode cX9_sumOf 72 = .ok (.laload, 1) := by decide +kernel
theorem dX9_sumOf_73 : decode cX9_sumOf 73 = .ok (.iload_n 2, 1) := by decide +kernel
theorem dX9_sumOf_74 : decode cX9_sumOf 74 = .ok (.iload_n 3, 1) := by decide +kernel
theorem dX9_sumOf_75 : decode cX9_sumOf 75 = .ok (.invokestatic 241, 3) := by decide +kernel
theorem dX9_sumOf_78 : decode cX9_sumOf 78 = .ok (.ireturn, 1) := by decide +kernel
theorem dX9_sumOf_79 : decode cX9_sumOf 79 = .ok (.iinc 5 1, 3) := by decide +kernel
theorem dX9_sumOf_82 : decode cX9_sumOf 82 = .ok (.goto (-79), 3) := by decide +kernel
theorem dX9_sumOf_85 : decode cX9_sumOf 85 = .ok (.iload 4, 2) := by decide +kernel
theorem dX9_sumOf_87 : decode cX9_sumOf 87 = .ok (.ireturn, 1) := by decide +kernel
theorem dX9_slicesOf_0 : decode cX9_slicesOf 0 = .ok (.aload_n 0, 1) := by decide +kernel
theorem dX9_slicesOf_1 : decode cX9_slicesOf 1 = .ok (.getfield 32, 3) := by decide +kernel
theorem dX9_slicesOf_4 : decode cX9_slicesOf 4 = .ok (.iconst 0, 1) := by decide +kernel
theorem dX9_slicesOf_5 : decode cX9_slicesOf 5 = .ok (.iload_n 2, 1) := by decide +kernel
theorem dX9_slicesOf_6 : decode cX9_slicesOf 6 = .ok (.iastore, 1) := by decide +kernel
theorem dX9_slicesOf_7 : decode cX9_slicesOf 7 = .ok (.aload_n 0, 1) := by decide +kernel
theorem dX9_slicesOf_8 : decode cX9_slicesOf 8 = .ok (.getfield 32, 3) := by decide +kernel
theorem dX9_slicesOf_11 : decode cX9_slicesOf 11 = .ok (.iconst 1, 1) := by decide +kernel
theorem dX9_slicesOf_12 : decode cX9_slicesOf 12 = .ok (.iload_n 1, 1) := by decide +kernel
theorem dX9_slicesOf_13 : decode cX9_slicesOf 13 = .ok (.iastore, 1) := by decide +kernel
theorem dX9_slicesOf_14 : decode cX9_slicesOf 14 = .ok (.aload_n 0, 1) := by decide +kernel
theorem dX9_slicesOf_15 : decode cX9_slicesOf 15 = .ok (.getfield 32, 3) := by decide +kernel
theorem dX9_slicesOf_18 : decode cX9_slicesOf 18 = .ok (.iconst 2, 1) := by decide +kernel
theorem dX9_slicesOf_19 : decode cX9_slicesOf 19 = .ok (.iload_n 3, 1) := by decide +kernel
theorem dX9_slicesOf_20 : decode cX9_slicesOf 20 = .ok (.iastore, 1) := by decide +kernel
theorem dX9_slicesOf_21 : decode cX9_slicesOf 21 = .ok (.aload_n 0, 1) := by decide +kernel
theorem dX9_slicesOf_22 : decode cX9_slicesOf 22 = .ok (.iconst 0, 1) := by decide +kernel
theorem dX9_slicesOf_23 : decode cX9_slicesOf 23 = .ok (.iconst 1, 1) := by decide +kernel
theorem dX9_slicesOf_24 : decode cX9_slicesOf 24 = .ok (.bipush 60, 2) := by decide +kernel
theorem dX9_slicesOf_26 : decode cX9_slicesOf 26 = .ok (.bipush 12, 2) := by decide +kernel
theorem dX9_slicesOf_28 : decode cX9_slicesOf 28 = .ok (.invokevirtual 245, 3) := by decide +kernel
theorem dX9_slicesOf_31 : decode cX9_slicesOf 31 = .ok (.ireturn, 1) := by decide +kernel
theorem dX9_eatsOf_0 : decode cX9_eatsOf 0 = .ok (.aload_n 0, 1) := by decide +kernel
theorem dX9_eatsOf_1 : decode cX9_eatsOf 1 = .ok (.getfield 32, 3) := by decide +kernel
theorem dX9_eatsOf_4 : decode cX9_eatsOf 4 = .ok (.iconst 0, 1) := by decide +kernel
theorem dX9_eatsOf_5 : decode cX9_eatsOf 5 = .ok (.iload_n 3, 1) := by decide +kernel
theorem dX9_eatsOf_6 : decode cX9_eatsOf 6 = .ok (.iastore, 1) := by decide +kernel
theorem dX9_eatsOf_7 : decode cX9_eatsOf 7 = .ok (.aload_n 0, 1) := by decide +kernel
theorem dX9_eatsOf_8 : decode cX9_eatsOf 8 = .ok (.getfield 32, 3) := by decide +kernel
theorem dX9_eatsOf_11 : decode cX9_eatsOf 11 = .ok (.iconst 1, 1) := by decide +kernel
theorem dX9_eatsOf_12 : decode cX9_eatsOf 12 = .ok (.iload_n 2, 1) := by decide +kernel
theorem dX9_eatsOf_13 : decode cX9_eatsOf 13 = .ok (.iastore, 1) := by decide +kernel
theorem dX9_eatsOf_14 : decode cX9_eatsOf 14 = .ok (.aload_n 0, 1) := by decide +kernel
theorem dX9_eatsOf_15 : decode cX9_eatsOf 15 = .ok (.getfield 32, 3) := by decide +kernel
theorem dX9_eatsOf_18 : decode cX9_eatsOf 18 = .ok (.iconst 2, 1) := by decide +kernel
theorem dX9_eatsOf_19 : decode cX9_eatsOf 19 = .ok (.iload 4, 2) := by decide +kernel
theorem dX9_eatsOf_21 : decode cX9_eatsOf 21 = .ok (.iastore, 1) := by decide +kernel
theorem dX9_eatsOf_22 : decode cX9_eatsOf 22 = .ok (.aload_n 0, 1) := by decide +kernel
theorem dX9_eatsOf_23 : decode cX9_eatsOf 23 = .ok (.getfield 32, 3) := by decide +kernel
theorem dX9_eatsOf_26 : decode cX9_eatsOf 26 = .ok (.iconst 3, 1) := by decide +kernel
theorem dX9_eatsOf_27 : decode cX9_eatsOf 27 = .ok (.iload_n 1, 1) := by decide +kernel
theorem dX9_eatsOf_28 : decode cX9_eatsOf 28 = .ok (.iastore, 1) := by decide +kernel
theorem dX9_eatsOf_29 : decode cX9_eatsOf 29 = .ok (.aload_n 0, 1) := by decide +kernel
theorem dX9_eatsOf_30 : decode cX9_eatsOf 30 = .ok (.getfield 32, 3) := by decide +kernel
theorem dX9_eatsOf_33 : decode cX9_eatsOf 33 = .ok (.iconst 4, 1) := by decide +kernel
theorem dX9_eatsOf_34 : decode cX9_eatsOf 34 = .ok (.aload_n 0, 1) := by decide +kernel
theorem dX9_eatsOf_35 : decode cX9_eatsOf 35 = .ok (.getfield 7, 3) := by decide +kernel
theorem dX9_eatsOf_38 : decode cX9_eatsOf 38 = .ok (.bipush 16, 2) := by decide +kernel
theorem dX9_eatsOf_40 : decode cX9_eatsOf 40 = .ok (.iconst 2, 1) := by decide +kernel
theorem dX9_eatsOf_41 : decode cX9_eatsOf 41 = .ok (.iload_n 1, 1) := by decide +kernel
theorem dX9_eatsOf_42 : decode cX9_eatsOf 42 = .ok (.imul, 1) := by decide +kernel
theorem dX9_eatsOf_43 : decode cX9_eatsOf 43 = .ok (.iadd, 1) := by decide +kernel
theorem dX9_eatsOf_44 : decode cX9_eatsOf 44 = .ok (.iaload, 1) := by decide +kernel
theorem dX9_eatsOf_45 : decode cX9_eatsOf 45 = .ok (.iastore, 1) := by decide +kernel
theorem dX9_eatsOf_46 : decode cX9_eatsOf 46 = .ok (.aload_n 0, 1) := by decide +kernel
theorem dX9_eatsOf_47 : decode cX9_eatsOf 47 = .ok (.getfield 32, 3) := by decide +kernel
theorem dX9_eatsOf_50 : decode cX9_eatsOf 50 = .ok (.iconst 5, 1) := by decide +kernel
theorem dX9_eatsOf_51 : decode cX9_eatsOf 51 = .ok (.iload 5, 2) := by decide +kernel
theorem dX9_eatsOf_53 : decode cX9_eatsOf 53 = .ok (.iastore, 1) := by decide +kernel
theorem dX9_eatsOf_54 : decode cX9_eatsOf 54 = .ok (.aload_n 0, 1) := by decide +kernel
theorem dX9_eatsOf_55 : decode cX9_eatsOf 55 = .ok (.iconst 1, 1) := by decide +kernel
theorem dX9_eatsOf_56 : decode cX9_eatsOf 56 = .ok (.iconst 0, 1) := by decide +kernel
theorem dX9_eatsOf_57 : decode cX9_eatsOf 57 = .ok (.bipush 9, 2) := by decide +kernel
theorem dX9_eatsOf_59 : decode cX9_eatsOf 59 = .ok (.aload_n 0, 1) := by decide +kernel
theorem dX9_eatsOf_60 : decode cX9_eatsOf 60 = .ok (.getfield 32, 3) := by decide +kernel
theorem dX9_eatsOf_63 : decode cX9_eatsOf 63 = .ok (.iconst 4, 1) := by decide +kernel
theorem dX9_eatsOf_64 : decode cX9_eatsOf 64 = .ok (.iaload, 1) := by decide +kernel
theorem dX9_eatsOf_65 : decode cX9_eatsOf 65 = .ok (.invokevirtual 245, 3) := by decide +kernel
theorem dX9_eatsOf_68 : decode cX9_eatsOf 68 = .ok (.istore 6, 2) := by decide +kernel
theorem dX9_eatsOf_70 : decode cX9_eatsOf 70 = .ok (.iload 6, 2) := by decide +kernel
theorem dX9_eatsOf_72 : decode cX9_eatsOf 72 = .ok (.iload 5, 2) := by decide +kernel
theorem dX9_eatsOf_74 : decode cX9_eatsOf 74 = .ok (.if_icmp .le 8, 3) := by decide +kernel
theorem dX9_eatsOf_77 : decode cX9_eatsOf 77 = .ok (.iload 5, 2) := by decide +kernel
theorem dX9_eatsOf_79 : decode cX9_eatsOf 79 = .ok (.goto 5, 3) := by decide +kernel
theorem dX9_eatsOf_82 : decode cX9_eatsOf 82 = .ok (.iload 6, 2) := by decide +kernel
theorem dX9_eatsOf_84 : decode cX9_eatsOf 84 = .ok (.ireturn, 1) := by decide +kernel
theorem dX9_slices_0 : decode cX9_slices 0 = .ok (.iload_n 1, 1) := by decide +kernel
theorem dX9_slices_1 : decode cX9_slices 1 = .ok (.invokestatic 249, 3) := by decide +kernel
theorem dX9_slices_4 : decode cX9_slices 4 = .ok (.ifCond .eq 25, 3) := by decide +kernel
theorem dX9_slices_7 : decode cX9_slices 7 = .ok (.iload_n 2, 1) := by decide +kernel
theorem dX9_slices_8 : decode cX9_slices 8 = .ok (.invokestatic 252, 3) := by decide +kernel
theorem dX9_slices_11 : decode cX9_slices 11 = .ok (.ifCond .eq 18, 3) := by decide +kernel
theorem dX9_slices_14 : decode cX9_slices 14 = .ok (.aload_n 0, 1) := by decide +kernel
theorem dX9_slices_15 : decode cX9_slices 15 = .ok (.iload_n 1, 1) := by decide +kernel
theorem dX9_slices_16 : decode cX9_slices 16 = .ok (.iload_n 2, 1) := by decide +kernel
theorem dX9_slices_17 : decode cX9_slices 17 = .ok (.aload_n 0, 1) := by decide +kernel
theorem dX9_slices_18 : decode cX9_slices 18 = .ok (.getfield 7, 3) := by decide +kernel
theorem dX9_slices_21 : decode cX9_slices 21 = .ok (.iconst 1, 1) := by decide +kernel
theorem dX9_slices_22 : decode cX9_slices 22 = .ok (.iaload, 1) := by decide +kernel
theorem dX9_slices_23 : decode cX9_slices 23 = .ok (.invokevirtual 255, 3) := by decide +kernel
theorem dX9_slices_26 : decode cX9_slices 26 = .ok (.goto 4, 3) := by decide +kernel
theorem dX9_slices_29 : decode cX9_slices 29 = .ok (.iconst (-1), 1) := by decide +kernel
theorem dX9_slices_30 : decode cX9_slices 30 = .ok (.ireturn, 1) := by decide +kernel
theorem dX9_sittingAt_0 : decode cX9_sittingAt 0 = .ok (.iconst 0, 1) := by decide +kernel
theorem dX9_sittingAt_1 : decode cX9_sittingAt 1 = .ok (.istore_n 2, 1) := by decide +kernel
theorem dX9_sittingAt_2 : decode cX9_sittingAt 2 = .ok (.iconst 0, 1) := by decide +kernel
theorem dX9_sittingAt_3 : decode cX9_sittingAt 3 = .ok (.istore_n 3, 1) := by decide +kernel
theorem dX9_sittingAt_4 : decode cX9_sittingAt 4 = .ok (.iload_n 3, 1) := by decide +kernel
theorem dX9_sittingAt_5 : decode cX9_sittingAt 5 = .ok (.aload_n 0, 1) := by decide +kernel
theorem dX9_sittingAt_6 : decode cX9_sittingAt 6 = .ok (.getfield 7, 3) := by decide +kernel
theorem dX9_sittingAt_9 : decode cX9_sittingAt 9 = .ok (.iconst 0, 1) := by decide +kernel
theorem dX9_sittingAt_10 : decode cX9_sittingAt 10 = .ok (.iaload, 1) := by decide +kernel
theorem dX9_sittingAt_11 : decode cX9_sittingAt 11 = .ok (.if_icmp .ge 28, 3) := by decide +kernel
theorem dX9_sittingAt_14 : decode cX9_sittingAt 14 = .ok (.iload_n 2, 1) := by decide +kernel
theorem dX9_sittingAt_15 : decode cX9_sittingAt 15 = .ok (.aload_n 0, 1) := by decide +kernel
theorem dX9_sittingAt_16 : decode cX9_sittingAt 16 = .ok (.iload_n 3, 1) := by decide +kernel
theorem dX9_sittingAt_17 : decode cX9_sittingAt 17 = .ok (.invokevirtual 258, 3) := by decide +kernel
theorem dX9_sittingAt_20 : decode cX9_sittingAt 20 = .ok (.iload_n 1, 1) := by decide +kernel
theorem dX9_sittingAt_21 : decode cX9_sittingAt 21 = .ok (.if_icmp .ne 9, 3) := by decide +kernel
theorem dX9_sittingAt_24 : decode cX9_sittingAt 24 = .ok (.iconst 1, 1) := by decide +kernel
theorem dX9_sittingAt_25 : decode cX9_sittingAt 25 = .ok (.iload_n 3, 1) := by decide +kernel
theorem dX9_sittingAt_26 : decode cX9_sittingAt 26 = .ok (.ishl, 1) := by decide +kernel
theorem dX9_sittingAt_27 : decode cX9_sittingAt 27 = .ok (.goto 4, 3) := by decide +kernel
theorem dX9_sittingAt_30 : decode cX9_sittingAt 30 = .ok (.iconst 0, 1) := by decide +kernel
theorem dX9_sittingAt_31 : decode cX9_sittingAt 31 = .ok (.ior, 1) := by decide +kernel
theorem dX9_sittingAt_32 : decode cX9_sittingAt 32 = .ok (.istore_n 2, 1) := by decide +kernel
theorem dX9_sittingAt_33 : decode cX9_sittingAt 33 = .ok (.iinc 3 1, 3) := by decide +kernel
theorem dX9_sittingAt_36 : decode cX9_sittingAt 36 = .ok (.goto (-32), 3) := by decide +kernel
theorem dX9_sittingAt_39 : decode cX9_sittingAt 39 = .ok (.iload_n 2, 1) := by decide +kernel
theorem dX9_sittingAt_40 : decode cX9_sittingAt 40 = .ok (.ireturn, 1) := by decide +kernel
theorem dX9_setTable_0 : decode cX9_setTable 0 = .ok (.aload_n 0, 1) := by decide +kernel
theorem dX9_setTable_1 : decode cX9_setTable 1 = .ok (.iload_n 1, 1) := by decide +kernel
theorem dX9_setTable_2 : decode cX9_setTable 2 = .ok (.putfield 261, 3) := by decide +kernel
theorem dX9_setTable_5 : decode cX9_setTable 5 = .ok (.aload_n 0, 1) := by decide +kernel
theorem dX9_setTable_6 : decode cX9_setTable 6 = .ok (.aload_n 0, 1) := by decide +kernel
theorem dX9_setTable_7 : decode cX9_setTable 7 = .ok (.getfield 7, 3) := by decide +kernel
theorem dX9_setTable_10 : decode cX9_setTable 10 = .ok (.bipush 10, 2) := by decide +kernel
theorem dX9_setTable_12 : decode cX9_setTable 12 = .ok (.iconst 3, 1) := by decide +kernel
theorem dX9_setTable_13 : decode cX9_setTable 13 = .ok (.iload_n 1, 1) := by decide +kernel
theorem dX9_setTable_14 : decode cX9_setTable 14 = .ok (.imul, 1) := by decide +kernel
theorem dX9_setTable_15 : decode cX9_setTable 15 = .ok (.iadd, 1) := by decide +kernel
theorem dX9_setTable_16 : decode cX9_setTable 16 = .ok (.iaload, 1) := by decide +kernel
theorem dX9_setTable_17 : decode cX9_setTable 17 = .ok (.putfield 264, 3) := by decide +kernel
theorem dX9_setTable_20 : decode cX9_setTable 20 = .ok (.aload_n 0, 1) := by decide +kernel
theorem dX9_setTable_21 : decode cX9_setTable 21 = .ok (.aload_n 0, 1) := by decide +kernel
theorem dX9_setTable_22 : decode cX9_setTable 22 = .ok (.getfield 7, 3) := by decide +kernel
theorem dX9_setTable_25 : decode cX9_setTable 25 = .ok (.bipush 10, 2) := by decide +kernel
theorem dX9_setTable_27 : decode cX9_setTable 27 = .ok (.iconst 3, 1) := by decide +kernel
theorem dX9_setTable_28 : decode cX9_setTable 28 = .ok (.iload_n 1, 1) := by decide +kernel
theorem dX9_setTable_29 : decode cX9_setTable 29 = .ok (.imul, 1) := by decide +kernel
theorem dX9_setTable_30 : decode cX9_setTable 30 = .ok (.iadd, 1) := by decide +kernel
theorem dX9_setTable_31 : decode cX9_setTable 31 = .ok (.iconst 1, 1) := by decide +kernel
theorem dX9_setTable_32 : decode cX9_setTable 32 = .ok (.iadd, 1) := by decide +kernel
theorem dX9_setTable_33 : decode cX9_setTable 33 = .ok (.iaload, 1) := by decide +kernel
theorem dX9_setTable_34 : decode cX9_setTable 34 = .ok (.putfield 267, 3) := by decide +kernel
theorem dX9_setTable_37 : decode cX9_setTable 37 = .ok (.aload_n 0, 1) := by decide +kernel
theorem dX9_setTable_38 : decode cX9_setTable 38 = .ok (.aload_n 0, 1) := by decide +kernel
theorem dX9_setTable_39 : decode cX9_setTable 39 = .ok (.getfield 7, 3) := by decide +kernel
theorem dX9_setTable_42 : decode cX9_setTable 42 = .ok (.bipush 10, 2) := by decide +kernel
theorem dX9_setTable_44 : decode cX9_setTable 44 = .ok (.iconst 3, 1) := by decide +kernel
theorem dX9_setTable_45 : decode cX9_setTable 45 = .ok (.iload_n 1, 1) := by decide +kernel
theorem dX9_setTable_46 : decode cX9_setTable 46 = .ok (.imul, 1) := by decide +kernel
theorem dX9_setTable_47 : decode cX9_setTable 47 = .ok (.iadd, 1) := by decide +kernel
theorem dX9_setTable_48 : decode cX9_setTable 48 = .ok (.iconst 2, 1) := by decide +kernel
theorem dX9_setTable_49 : decode cX9_setTable 49 = .ok (.iadd, 1) := by decide +kernel
theorem dX9_setTable_50 : decode cX9_setTable 50 = .ok (.iaload, 1) := by decide +kernel
theorem dX9_setTable_51 : decode cX9_setTable 51 = .ok (.putfield 270, 3) := by decide +kernel
theorem dX9_setTable_54 : decode cX9_setTable 54 = .ok (.aload_n 0, 1) := by decide +kernel
theorem dX9_setTable_55 : decode cX9_setTable 55 = .ok (.aload_n 0, 1) := by decide +kernel
theorem dX9_setTable_56 : decode cX9_setTable 56 = .ok (.iload_n 1, 1) := by decide +kernel
theorem dX9_setTable_57 : decode cX9_setTable 57 = .ok (.invokevirtual 273, 3) := by decide +kernel
theorem dX9_setTable_60 : decode cX9_setTable 60 = .ok (.putfield 276, 3) := by decide +kernel
theorem dX9_setTable_63 : decode cX9_setTable 63 = .ok (.return_, 1) := by decide +kernel
theorem dX9_bake_0 : decode cX9_bake 0 = .ok (.aload_n 0, 1) := by decide +kernel
theorem dX9_bake_1 : decode cX9_bake 1 = .ok (.getfield 267, 3) := by decide +kernel
theorem dX9_bake_4 : decode cX9_bake 4 = .ok (.ifCond .gt 20, 3) := by decide +kernel
theorem dX9_bake_7 : decode cX9_bake 7 = .ok (.aload_n 0, 1) := by decide +kernel
theorem dX9_bake_8 : decode cX9_bake 8 = .ok (.getfield 270, 3) := by decide +kernel
theorem dX9_bake_11 : decode cX9_bake 11 = .ok (.ifCond .gt 13, 3) := by decide +kernel
theorem dX9_bake_14 : decode cX9_bake 14 = .ok (.aload_n 0, 1) := by decide +kernel
theorem dX9_bake_15 : decode cX9_bake 15 = .ok (.getfield 264, 3) := by decide +kernel
theorem dX9_bake_18 : decode cX9_bake 18 = .ok (.sipush 999, 3) := by decide +kernel
theorem dX9_bake_21 : decode cX9_bake 21 = .ok (.if_icmp .ne 4, 3) := by decide +kernel
theorem dX9_bake_24 : decode cX9_bake 24 = .ok (.return_, 1) := by decide +kernel
theorem dX9_bake_25 : decode cX9_bake 25 = .ok (.aload_n 0, 1) := by decide +kernel
theorem dX9_bake_26 : decode cX9_bake 26 = .ok (.dup, 1) := by decide +kernel
theorem dX9_bake_27 : decode cX9_bake 27 = .ok (.getfield 264, 3) := by decide +kernel
theorem dX9_bake_30 : decode cX9_bake 30 = .ok (.iconst 1, 1) := by decide +kernel
theorem dX9_bake_31 : decode cX9_bake 31 = .ok (.iadd, 1) := by decide +kernel
theorem dX9_bake_32 : decode cX9_bake 32 = .ok (.putfield 264, 3) := by decide +kernel
theorem dX9_bake_35 : decode cX9_bake 35 = .ok (.aload_n 0, 1) := by decide +kernel
theorem dX9_bake_36 : decode cX9_bake 36 = .ok (.aload_n 0, 1) := by decide +kernel
theorem dX9_bake_37 : decode cX9_bake 37 = .ok (.aload_n 0, 1) := by decide +kernel
theorem dX9_bake_38 : decode cX9_bake 38 = .ok (.getfield 261, 3) := by decide +kernel
theorem dX9_bake_41 : decode cX9_bake 41 = .ok (.aload_n 0, 1) := by decide +kernel
theorem dX9_bake_42 : decode cX9_bake 42 = .ok (.getfield 264, 3) := by decide +kernel
theorem dX9_bake_45 : decode cX9_bake 45 = .ok (.iload_n 1, 1) := by decide +kernel
theorem dX9_bake_46 : decode cX9_bake 46 = .ok (.invokevirtual 255, 3) := by decide +kernel
theorem dX9_bake_49 : decode cX9_bake 49 = .ok (.putfield 267, 3) := by decide +kernel
theorem dX9_bake_52 : decode cX9_bake 52 = .ok (.return_, 1) := by decide +kernel
theorem dX9_eat_0 : decode cX9_eat 0 = .ok (.aload_n 0, 1) := by decide +kernel
theorem dX9_eat_1 : decode cX9_eat 1 = .ok (.getfield 267, 3) := by decide +kernel
theorem dX9_eat_4 : decode cX9_eat 4 = .ok (.istore_n 2, 1) := by decide +kernel
theorem dX9_eat_5 : decode cX9_eat 5 = .ok (.iconst 0, 1) := by decide +kernel
theorem dX9_eat_6 : decode cX9_eat 6 = .ok (.istore_n 3, 1) := by decide +kernel
theorem dX9_eat_7 : decode cX9_eat 7 = .ok (.iload_n 3, 1) := by decide +kernel
theorem dX9_eat_8 : decode cX9_eat 8 = .ok (.aload_n 0, 1) := by decide +kernel
theorem dX9_eat_9 : decode cX9_eat 9 = .ok (.getfield 7, 3) := by decide +kernel
theorem dX9_eat_12 : decode cX9_eat 12 = .ok (.iconst 0, 1) := by decide +kernel
theorem dX9_eat_13 : decode cX9_eat 13 = .ok (.iaload, 1) := by decide +kernel
theorem dX9_eat_14 : decode cX9_eat 14 = .ok (.if_icmp .ge 47, 3) := by decide +kernel
theorem dX9_eat_17 : decode cX9_eat 17 = .ok (.aload_n 0, 1) := by decide +kernel
theorem dX9_eat_18 : decode cX9_eat 18 = .ok (.getfield 276, 3) := by decide +kernel
theorem dX9_eat_21 : decode cX9_eat 21 = .ok (.iload_n 3, 1) := by decide +kernel
theorem dX9_eat_22 : decode cX9_eat 22 = .ok (.invokestatic 279, 3) := by decide +kernel
theorem dX9_eat_25 : decode cX9_eat 25 = .ok (.ifCond .eq 30, 3) := by decide +kernel
theorem dX9_eat_28 : decode cX9_eat 28 = .ok (.aload_n 0, 1) := by decide +kernel
theorem dX9_eat_29 : decode cX9_eat 29 = .ok (.dup, 1) := by decide +kernel
theorem dX9_eat_30 : decode cX9_eat 30 = .ok (.getfield 267, 3) := by decide +kernel
theorem dX9_eat_33 : decode cX9_eat 33 = .ok (.aload_n 0, 1) := by decide +kernel
theorem dX9_eat_34 : decode cX9_eat 34 = .ok (.iload_n 3, 1) := by decide +kernel
theorem dX9_eat_35 : decode cX9_eat 35 = .ok (.aload_n 0, 1) := by decide +kernel
theorem dX9_eat_36 : decode cX9_eat 36 = .ok (.getfield 261, 3) := by decide +kernel
theorem dX9_eat_39 : decode cX9_eat 39 = .ok (.aload_n 0, 1) := by decide +kernel
theorem dX9_eat_40 : decode cX9_eat 40 = .ok (.getfield 264, 3) := by decide +kernel
theorem dX9_eat_43 : decode cX9_eat 43 = .ok (.iload_n 1, 1) := by decide +kernel
theorem dX9_eat_44 : decode cX9_eat 44 = .ok (.aload_n 0, 1) := by decide +kernel
theorem dX9_eat_45 : decode cX9_eat 45 = .ok (.getfield 267, 3) := by decide +kernel
theorem dX9_eat_48 : decode cX9_eat 48 = .ok (.invokevirtual 283, 3) := by decide +kernel
theorem dX9_eat_51 : decode cX9_eat 51 = .ok (.isub, 1) := by decide +kernel
theorem dX9_eat_52 : decode cX9_eat 52 = .ok (.putfield 267, 3) := by decide +kernel
theorem dX9_eat_55 : decode cX9_eat 55 = .ok (.iinc 3 1, 3) := by decide +kernel
theorem dX9_eat_58 : decode cX9_eat 58 = .ok (.goto (-51), 3) := by decide +kernel
theorem dX9_eat_61 : decode cX9_eat 61 = .ok (.iload_n 2, 1) := by decide +kernel
theorem dX9_eat_62 : decode cX9_eat 62 = .ok (.aload_n 0, 1) := by decide +kernel
theorem dX9_eat_63 : decode cX9_eat 63 = .ok (.getfield 267, 3) := by decide +kernel
theorem dX9_eat_66 : decode cX9_eat 66 = .ok (.isub, 1) := by decide +kernel
theorem dX9_eat_67 : decode cX9_eat 67 = .ok (.ireturn, 1) := by decide +kernel
theorem dX9_goOn_0 : decode cX9_goOn 0 = .ok (.aload_n 0, 1) := by decide +kernel
theorem dX9_goOn_1 : decode cX9_goOn 1 = .ok (.iload_n 1, 1) := by decide +kernel
theorem dX9_goOn_2 : decode cX9_goOn 2 = .ok (.invokevirtual 287, 3) := by decide +kernel
theorem dX9_goOn_5 : decode cX9_goOn 5 = .ok (.aload_n 0, 1) := by decide +kernel
theorem dX9_goOn_6 : decode cX9_goOn 6 = .ok (.iload_n 1, 1) := by decide +kernel
theorem dX9_goOn_7 : decode cX9_goOn 7 = .ok (.invokevirtual 290, 3) := by decide +kernel
theorem dX9_goOn_10 : decode cX9_goOn 10 = .ok (.istore_n 3, 1) := by decide +kernel
theorem dX9_goOn_11 : decode cX9_goOn 11 = .ok (.iload_n 2, 1) := by decide +kernel
theorem dX9_goOn_12 : decode cX9_goOn 12 = .ok (.ifCond .eq 20, 3) := by decide +kernel
theorem dX9_goOn_15 : decode cX9_goOn 15 = .ok (.aload_n 0, 1) := by decide +kernel
theorem dX9_goOn_16 : decode cX9_goOn 16 = .ok (.getfield 267, 3) := by decide +kernel
theorem dX9_goOn_19 : decode cX9_goOn 19 = .ok (.ifCond .le 13, 3) := by decide +kernel
theorem dX9_goOn_22 : decode cX9_goOn 22 = .ok (.aload_n 0, 1) := by decide +kernel
theorem dX9_goOn_23 : decode cX9_goOn 23 = .ok (.dup, 1) := by decide +kernel
theorem dX9_goOn_24 : decode cX9_goOn 24 = .ok (.getfield 267, 3) := by decide +kernel
theorem dX9_goOn_27 : decode cX9_goOn 27 = .ok (.iconst 1, 1) := by decide +kernel
theorem dX9_goOn_28 : decode cX9_goOn 28 = .ok (.isub, 1) := by decide +kernel
theorem dX9_goOn_29 : decode cX9_goOn 29 = .ok (.putfield 267, 3) := by decide +kernel
theorem dX9_goOn_32 : decode cX9_goOn 32 = .ok (.return_, 1) := by decide +kernel
theorem dX9_keep_0 : decode cX9_keep 0 = .ok (.aload_n 0, 1) := by decide +kernel
theorem dX9_keep_1 : decode cX9_keep 1 = .ok (.getfield 7, 3) := by decide +kernel
theorem dX9_keep_4 : decode cX9_keep 4 = .ok (.bipush 6, 2) := by decide +kernel
theorem dX9_keep_6 : decode cX9_keep 6 = .ok (.iaload, 1) := by decide +kernel
theorem dX9_keep_7 : decode cX9_keep 7 = .ok (.bipush 30, 2) := by decide +kernel
theorem dX9_keep_9 : decode cX9_keep 9 = .ok (.if_icmp .ne 47, 3) := by decide +kernel
theorem dX9_keep_12 : decode cX9_keep 12 = .ok (.iconst 0, 1) := by decide +kernel
theorem dX9_keep_13 : decode cX9_keep 13 = .ok (.istore_n 1, 1) := by decide +kernel
theorem dX9_keep_14 : decode cX9_keep 14 = .ok (.iload_n 1, 1) := by decide +kernel
theorem dX9_keep_15 : decode cX9_keep 15 = .ok (.sipush 435, 3) := by decide +kernel
theorem dX9_keep_18 : decode cX9_keep 18 = .ok (.if_icmp .ge 27, 3) := by decide +kernel
theorem dX9_keep_21 : decode cX9_keep 21 = .ok (.aload_n 0, 1) := by decide +kernel
theorem dX9_keep_22 : decode cX9_keep 22 = .ok (.getfield 7, 3) := by decide +kernel
theorem dX9_keep_25 : decode cX9_keep 25 = .ok (.bipush 36, 2) := by decide +kernel
theorem dX9_keep_27 : decode cX9_keep 27 = .ok (.iload_n 1, 1) := by decide +kernel
theorem dX9_keep_28 : decode cX9_keep 28 = .ok (.iadd, 1) := by decide +kernel
theorem dX9_keep_29 : decode cX9_keep 29 = .ok (.aload_n 0, 1) := by decide +kernel
theorem dX9_keep_30 : decode cX9_keep 30 = .ok (.getfield 7, 3) := by decide +kernel
theorem dX9_keep_33 : decode cX9_keep 33 = .ok (.bipush 51, 2) := by decide +kernel
theorem dX9_keep_35 : decode cX9_keep 35 = .ok (.iload_n 1, 1) := by decide +kernel
theorem dX9_keep_36 : decode cX9_keep 36 = .ok (.iadd, 1) := by decide +kernel
theorem dX9_keep_37 : decode cX9_keep 37 = .ok (.iaload, 1) := by decide +kernel
theorem dX9_keep_38 : decode cX9_keep 38 = .ok (.iastore, 1) := by decide +kernel
theorem dX9_keep_39 : decode cX9_keep 39 = .ok (.iinc 1 1, 3) := by decide +kernel
theorem dX9_keep_42 : decode cX9_keep 42 = .ok (.goto (-28), 3) := by decide +kernel
theorem dX9_keep_45 : decode cX9_keep 45 = .ok (.aload_n 0, 1) := by decide +kernel
theorem dX9_keep_46 : decode cX9_keep 46 = .ok (.getfield 7, 3) := by decide +kernel
theorem dX9_keep_49 : decode cX9_keep 49 = .ok (.bipush 6, 2) := by decide +kernel
theorem dX9_keep_51 : decode cX9_keep 51 = .ok (.dup2, 1) := by decide +kernel
theorem dX9_keep_52 : decode cX9_keep 52 = .ok (.iaload, 1) := by decide +kernel
theorem dX9_keep_53 : decode cX9_keep 53 = .ok (.iconst 1, 1) := by decide +kernel
theorem dX9_keep_54 : decode cX9_keep 54 = .ok (.isub, 1) := by decide +kernel
theorem dX9_keep_55 : decode cX9_keep 55 = .ok (.iastore, 1) := by decide +kernel
theorem dX9_keep_56 : decode cX9_keep 56 = .ok (.bipush 36, 2) := by decide +kernel
theorem dX9_keep_58 : decode cX9_keep 58 = .ok (.bipush 15, 2) := by decide +kernel
theorem dX9_keep_60 : decode cX9_keep 60 = .ok (.aload_n 0, 1) := by decide +kernel
theorem dX9_keep_61 : decode cX9_keep 61 = .ok (.getfield 7, 3) := by decide +kernel
theorem dX9_keep_64 : decode cX9_keep 64 = .ok (.bipush 6, 2) := by decide +kernel
theorem dX9_keep_66 : decode cX9_keep 66 = .ok (.iaload, 1) := by decide +kernel
theorem dX9_keep_67 : decode cX9_keep 67 = .ok (.imul, 1) := by decide +kernel
theorem dX9_keep_68 : decode cX9_keep 68 = .ok (.iadd, 1) := by decide +kernel
theorem dX9_keep_69 : decode cX9_keep 69 = .ok (.istore_n 1, 1) := by decide +kernel
theorem dX9_keep_70 : decode cX9_keep 70 = .ok (.aload_n 0, 1) := by decide +kernel
theorem dX9_keep_71 : decode cX9_keep 71 = .ok (.getfield 7, 3) := by decide +kernel
theorem dX9_keep_74 : decode cX9_keep 74 = .ok (.iload_n 1, 1) := by decide +kernel
theorem dX9_keep_75 : decode cX9_keep 75 = .ok (.aload_n 0, 1) := by decide +kernel
theorem dX9_keep_76 : decode cX9_keep 76 = .ok (.getfield 7, 3) := by decide +kernel
theorem dX9_keep_79 : decode cX9_keep 79 = .ok (.iconst 0, 1) := by decide +kernel
theorem dX9_keep_80 : decode cX9_keep 80 = .ok (.iaload, 1) := by decide +kernel
theorem dX9_keep_81 : decode cX9_keep 81 = .ok (.iastore, 1) := by decide +kernel
theorem dX9_keep_82 : decode cX9_keep 82 = .ok (.aload_n 0, 1) := by decide +kernel
theorem dX9_keep_83 : decode cX9_keep 83 = .ok (.getfield 7, 3) := by decide +kernel
theorem dX9_keep_86 : decode cX9_keep 86 = .ok (.iload_n 1, 1) := by decide +kernel
theorem dX9_keep_87 : decode cX9_keep 87 = .ok (.iconst 1, 1) := by decide +kernel
theorem dX9_keep_88 : decode cX9_keep 88 = .ok (.iadd, 1) := by decide +kernel
theorem dX9_keep_89 : decode cX9_keep 89 = .ok (.aload_n 0, 1) := by decide +kernel
theorem dX9_keep_90 : decode cX9_keep 90 = .ok (.getfield 7, 3) := by decide +kernel
theorem dX9_keep_93 : decode cX9_keep 93 = .ok (.iconst 1, 1) := by decide +kernel
theorem dX9_keep_94 : decode cX9_keep 94 = .ok (.iaload, 1) := by decide +kernel
theorem dX9_keep_95 : decode cX9_keep 95 = .ok (.iastore, 1) := by decide +kernel
theorem dX9_keep_96 : decode cX9_keep 96 = .ok (.aload_n 0, 1) := by decide +kernel
theorem dX9_keep_97 : decode cX9_keep 97 = .ok (.getfield 7, 3) := by decide +kernel
theorem dX9_keep_100 : decode cX9_keep 100 = .ok (.iload_n 1, 1) := by decide +kernel
theorem dX9_keep_101 : decode cX9_keep 101 = .ok (.iconst 2, 1) := by decide +kernel
theorem dX9_keep_102 : decode cX9_keep 102 = .ok (.iadd, 1) := by decide +kernel
theorem dX9_keep_103 : decode cX9_keep 103 = .ok (.aload_n 0, 1) := by decide +kernel
theorem dX9_keep_104 : decode cX9_keep 104 = .ok (.getfield 7, 3) := by decide +kernel
theorem dX9_keep_107 : decode cX9_keep 107 = .ok (.iconst 3, 1) := by decide +kernel
theorem dX9_keep_108 : decode cX9_keep 108 = .ok (.iaload, 1) := by decide +kernel
theorem dX9_keep_109 : decode cX9_keep 109 = .ok (.iastore, 1) := by decide +kernel
theorem dX9_keep_110 : decode cX9_keep 110 = .ok (.iconst 0, 1) := by decide +kernel
theorem dX9_keep_111 : decode cX9_keep 111 = .ok (.istore_n 2, 1) := by decide +kernel
theorem dX9_keep_112 : decode cX9_keep 112 = .ok (.iload_n 2, 1) := by decide +kernel
theorem dX9_keep_113 : decode cX9_keep 113 = .ok (.bipush 6, 2) := by decide +kernel
theorem dX9_keep_115 : decode cX9_keep 115 = .ok (.if_icmp .ge 44, 3) := by decide +kernel
theorem dX9_keep_118 : decode cX9_keep 118 = .ok (.aload_n 0, 1) := by decide +kernel
theorem dX9_keep_119 : decode cX9_keep 119 = .ok (.getfield 7, 3) := by decide +kernel
theorem dX9_keep_122 : decode cX9_keep 122 = .ok (.iload_n 1, 1) := by decide +kernel
theorem dX9_keep_123 : decode cX9_keep 123 = .ok (.iconst 3, 1) := by decide +kernel
theorem dX9_keep_124 : decode cX9_keep 124 = .ok (.iadd, 1) := by decide +kernel
theorem dX9_keep_125 : decode cX9_keep 125 = .ok (.iload_n 2, 1) := by decide +kernel
theorem dX9_keep_126 : decode cX9_keep 126 = .ok (.iadd, 1) := by decide +kernel
theorem dX9_keep_127 : decode cX9_keep 127 = .ok (.aload_n 0, 1) := by decide +kernel
theorem dX9_keep_128 : decode cX9_keep 128 = .ok (.getfield 7, 3) := by decide +kernel
theorem dX9_keep_131 : decode cX9_keep 131 = .ok (.bipush 10, 2) := by decide +kernel
theorem dX9_keep_133 : decode cX9_keep 133 = .ok (.iload_n 2, 1) := by decide +kernel
theorem dX9_keep_134 : decode cX9_keep 134 = .ok (.iadd, 1) := by decide +kernel
theorem dX9_keep_135 : decode cX9_keep 135 = .ok (.iaload, 1) := by decide +kernel
theorem dX9_keep_136 : decode cX9_keep 136 = .ok (.iastore, 1) := by decide +kernel
theorem dX9_keep_137 : decode cX9_keep 137 = .ok (.aload_n 0, 1) := by decide +kernel
theorem dX9_keep_138 : decode cX9_keep 138 = .ok (.getfield 7, 3) := by decide +kernel
theorem dX9_keep_141 : decode cX9_keep 141 = .ok (.iload_n 1, 1) := by decide +kernel
theorem dX9_keep_142 : decode cX9_keep 142 = .ok (.bipush 9, 2) := by decide +kernel
theorem dX9_keep_144 : decode cX9_keep 144 = .ok (.iadd, 1) := by decide +kernel
theorem dX9_keep_145 : decode cX9_keep 145 = .ok (.iload_n 2, 1) := by decide +kernel
theorem dX9_keep_146 : decode cX9_keep 146 = .ok (.iadd, 1) := by decide +kernel
theorem dX9_keep_147 : decode cX9_keep 147 = .ok (.aload_n 0, 1) := by decide +kernel
theorem dX9_keep_148 : decode cX9_keep 148 = .ok (.iload_n 2, 1) := by decide +kernel
theorem dX9_keep_149 : decode cX9_keep 149 = .ok (.invokevirtual 258, 3) := by decide +kernel
theorem dX9_keep_152 : decode cX9_keep 152 = .ok (.iastore, 1) := by decide +kernel
theorem dX9_keep_153 : decode cX9_keep 153 = .ok (.iinc 2 1, 3) := by decide +kernel
theorem dX9_keep_156 : decode cX9_keep 156 = .ok (.goto (-44), 3) := by decide +kernel
theorem dX9_keep_159 : decode cX9_keep 159 = .ok (.aload_n 0, 1) := by decide +kernel
theorem dX9_keep_160 : decode cX9_keep 160 = .ok (.getfield 7, 3) := by decide +kernel
theorem dX9_keep_163 : decode cX9_keep 163 = .ok (.bipush 6, 2) := by decide +kernel
theorem dX9_keep_165 : decode cX9_keep 165 = .ok (.dup2, 1) := by decide +kernel
theorem dX9_keep_166 : decode cX9_keep 166 = .ok (.iaload, 1) := by decide +kernel
theorem dX9_keep_167 : decode cX9_keep 167 = .ok (.iconst 1, 1) := by decide +kernel
theorem dX9_keep_168 : decode cX9_keep 168 = .ok (.iadd, 1) := by decide +kernel
theorem dX9_keep_169 : decode cX9_keep 169 = .ok (.iastore, 1) := by decide +kernel
theorem dX9_keep_170 : decode cX9_keep 170 = .ok (.return_, 1) := by decide +kernel
theorem dX9_undo_0 : decode cX9_undo 0 = .ok (.aload_n 0, 1) := by decide +kernel
theorem dX9_undo_1 : decode cX9_undo 1 = .ok (.getfield 7, 3) := by decide +kernel
theorem dX9_undo_4 : decode cX9_undo 4 = .ok (.bipush 6, 2) := by decide +kernel
theorem dX9_undo_6 : decode cX9_undo 6 = .ok (.iaload, 1) := by decide +kernel
theorem dX9_undo_7 : decode cX9_undo 7 = .ok (.ifCond .ne 5, 3) := by decide +kernel
theorem dX9_undo_10 : decode cX9_undo 10 = .ok (.iconst (-1), 1) := by decide +kernel
theorem dX9_undo_11 : decode cX9_undo 11 = .ok (.ireturn, 1) := by decide +kernel
theorem dX9_undo_12 : decode cX9_undo 12 = .ok (.aload_n 0, 1) := by decide +kernel
theorem dX9_undo_13 : decode cX9_undo 13 = .ok (.getfield 7, 3) := by decide +kernel
theorem dX9_undo_16 : decode cX9_undo 16 = .ok (.bipush 6, 2) := by decide +kernel
theorem dX9_undo_18 : decode cX9_undo 18 = .ok (.dup2, 1) := by decide +kernel
theorem dX9_undo_19 : decode cX9_undo 19 = .ok (.iaload, 1) := by decide +kernel
theorem dX9_undo_20 : decode cX9_undo 20 = .ok (.iconst 1, 1) := by decide +kernel
theorem dX9_undo_21 : decode cX9_undo 21 = .ok (.isub, 1) := by decide +kernel
theorem dX9_undo_22 : decode cX9_undo 22 = .ok (.iastore, 1) := by decide +kernel
theorem dX9_undo_23 : decode cX9_undo 23 = .ok (.bipush 36, 2) := by decide +kernel
theorem dX9_undo_25 : decode cX9_undo 25 = .ok (.bipush 15, 2) := by decide +kernel
theorem dX9_undo_27 : decode cX9_undo 27 = .ok (.aload_n 0, 1) := by decide +kernel
theorem dX9_undo_28 : decode cX9_undo 28 = .ok (.getfield 7, 3) := by decide +kernel
theorem dX9_undo_31 : decode cX9_undo 31 = .ok (.bipush 6, 2) := by decide +kernel
theorem dX9_undo_33 : decode cX9_undo 33 = .ok (.iaload, 1) := by decide +kernel
theorem dX9_undo_34 : decode cX9_undo 34 = .ok (.imul, 1) := by decide +kernel
theorem dX9_undo_35 : decode cX9_undo 35 = .ok (.iadd, 1) := by decide +kernel
theorem dX9_undo_36 : decode cX9_undo 36 = .ok (.istore_n 1, 1) := by decide +kernel
theorem dX9_undo_37 : decode cX9_undo 37 = .ok (.aload_n 0, 1) := by decide +kernel
theorem dX9_undo_38 : decode cX9_undo 38 = .ok (.getfield 7, 3) := by decide +kernel
theorem dX9_undo_41 : decode cX9_undo 41 = .ok (.iconst 1, 1) := by decide +kernel
theorem dX9_undo_42 : decode cX9_undo 42 = .ok (.aload_n 0, 1) := by decide +kernel
theorem dX9_undo_43 : decode cX9_undo 43 = .ok (.getfield 7, 3) := by decide +kernel
theorem dX9_undo_46 : decode cX9_undo 46 = .ok (.iload_n 1, 1) := by decide +kernel
theorem dX9_undo_47 : decode cX9_undo 47 = .ok (.iconst 1, 1) := by decide +kernel
theorem dX9_undo_48 : decode cX9_undo 48 = .ok (.iadd, 1) := by decide +kernel
theorem dX9_undo_49 : decode cX9_undo 49 = .ok (.iaload, 1) := by decide +kernel
theorem dX9_undo_50 : decode cX9_undo 50 = .ok (.iastore, 1) := by decide +kernel
theorem dX9_undo_51 : decode cX9_undo 51 = .ok (.aload_n 0, 1) := by decide +kernel
theorem dX9_undo_52 : decode cX9_undo 52 = .ok (.getfield 7, 3) := by decide +kernel
theorem dX9_undo_55 : decode cX9_undo 55 = .ok (.iconst 3, 1) := by decide +kernel
theorem dX9_undo_56 : decode cX9_undo 56 = .ok (.aload_n 0, 1) := by decide +kernel
theorem dX9_undo_57 : decode cX9_undo 57 = .ok (.getfield 7, 3) := by decide +kernel
theorem dX9_undo_60 : decode cX9_undo 60 = .ok (.iload_n 1, 1) := by decide +kernel
theorem dX9_undo_61 : decode cX9_undo 61 = .ok (.iconst 2, 1) := by decide +kernel
theorem dX9_undo_62 : decode cX9_undo 62 = .ok (.iadd, 1) := by decide +kernel
theorem dX9_undo_63 : decode cX9_undo 63 = .ok (.iaload, 1) := by decide +kernel
theorem dX9_undo_64 : decode cX9_undo 64 = .ok (.iastore, 1) := by decide +kernel
theorem dX9_undo_65 : decode cX9_undo 65 = .ok (.iconst 0, 1) := by decide +kernel
theorem dX9_undo_66 : decode cX9_undo 66 = .ok (.istore_n 2, 1) := by decide +kernel
theorem dX9_undo_67 : decode cX9_undo 67 = .ok (.iload_n 2, 1) := by decide +kernel
theorem dX9_undo_68 : decode cX9_undo 68 = .ok (.bipush 6, 2) := by decide +kernel
theorem dX9_undo_70 : decode cX9_undo 70 = .ok (.if_icmp .ge 28, 3) := by decide +kernel
theorem dX9_undo_73 : decode cX9_undo 73 = .ok (.aload_n 0, 1) := by decide +kernel
theorem dX9_undo_74 : decode cX9_undo 74 = .ok (.getfield 7, 3) := by decide +kernel
theorem dX9_undo_77 : decode cX9_undo 77 = .ok (.bipush 10, 2) := by decide +kernel
theorem dX9_undo_79 : decode cX9_undo 79 = .ok (.iload_n 2, 1) := by decide +kernel
theorem dX9_undo_80 : decode cX9_undo 80 = .ok (.iadd, 1) := by decide +kernel
theorem dX9_undo_81 : decode cX9_undo 81 = .ok (.aload_n 0, 1) := by decide +kernel
theorem dX9_undo_82 : decode cX9_undo 82 = .ok (.getfield 7, 3) := by decide +kernel
theorem dX9_undo_85 : decode cX9_undo 85 = .ok (.iload_n 1, 1) := by decide +kernel
theorem dX9_undo_86 : decode cX9_undo 86 = .ok (.iconst 3, 1) := by decide +kernel
theorem dX9_undo_87 : decode cX9_undo 87 = .ok (.iadd, 1) := by decide +kernel
theorem dX9_undo_88 : decode cX9_undo 88 = .ok (.iload_n 2, 1) := by decide +kernel
theorem dX9_undo_89 : decode cX9_undo 89 = .ok (.iadd, 1) := by decide +kernel
theorem dX9_undo_90 : decode cX9_undo 90 = .ok (.iaload, 1) := by decide +kernel
theorem dX9_undo_91 : decode cX9_undo 91 = .ok (.iastore, 1) := by decide +kernel
theorem dX9_undo_92 : decode cX9_undo 92 = .ok (.iinc 2 1, 3) := by decide +kernel
theorem dX9_undo_95 : decode cX9_undo 95 = .ok (.goto (-28), 3) := by decide +kernel
theorem dX9_undo_98 : decode cX9_undo 98 = .ok (.iconst 0, 1) := by decide +kernel
theorem dX9_undo_99 : decode cX9_undo 99 = .ok (.istore_n 2, 1) := by decide +kernel
theorem dX9_undo_100 : decode cX9_undo 100 = .ok (.iload_n 2, 1) := by decide +kernel
theorem dX9_undo_101 : decode cX9_undo 101 = .ok (.aload_n 0, 1) := by decide +kernel
theorem dX9_undo_102 : decode cX9_undo 102 = .ok (.getfield 7, 3) := by decide +kernel
theorem dX9_undo_105 : decode cX9_undo 105 = .ok (.iload_n 1, 1) := by decide +kernel
theorem dX9_undo_106 : decode cX9_undo 106 = .ok (.iaload, 1) := by decide +kernel
theorem dX9_undo_107 : decode cX9_undo 107 = .ok (.if_icmp .ge 33, 3) := by decide +kernel
theorem dX9_undo_110 : decode cX9_undo 110 = .ok (.aload_n 0, 1) := by decide +kernel
theorem dX9_undo_111 : decode cX9_undo 111 = .ok (.getfield 7, 3) := by decide +kernel
theorem dX9_undo_114 : decode cX9_undo 114 = .ok (.bipush 16, 2) := by decide +kernel
theorem dX9_undo_116 : decode cX9_undo 116 = .ok (.iconst 2, 1) := by decide +kernel
theorem dX9_undo_117 : decode cX9_undo 117 = .ok (.iload_n 2, 1) := by decide +kernel
theorem dX9_undo_118 : decode cX9_undo 118 = .ok (.imul, 1) := by decide +kernel
theorem dX9_undo_119 : decode cX9_undo 119 = .ok (.iadd, 1) := by decide +kernel
theorem dX9_undo_120 : decode cX9_undo 120 = .ok (.iconst 1, 1) := by decide +kernel
theorem dX9_undo_121 : decode cX9_undo 121 = .ok (.iadd, 1) := by decide +kernel
theorem dX9_undo_122 : decode cX9_undo 122 = .ok (.aload_n 0, 1) := by decide +kernel
theorem dX9_undo_123 : decode cX9_undo 123 = .ok (.getfield 7, 3) := by decide +kernel
theorem dX9_undo_126 : decode cX9_undo 126 = .ok (.iload_n 1, 1) := by decide +kernel
theorem dX9_undo_127 : decode cX9_undo 127 = .ok (.bipush 9, 2) := by decide +kernel
theorem dX9_undo_129 : decode cX9_undo 129 = .ok (.iadd, 1) := by decide +kernel
theorem dX9_undo_130 : decode cX9_undo 130 = .ok (.iload_n 2, 1) := by decide +kernel
theorem dX9_undo_131 : decode cX9_undo 131 = .ok (.iadd, 1) := by decide +kernel
theorem dX9_undo_132 : decode cX9_undo 132 = .ok (.iaload, 1) := by decide +kernel
theorem dX9_undo_133 : decode cX9_undo 133 = .ok (.iastore, 1) := by decide +kernel
theorem dX9_undo_134 : decode cX9_undo 134 = .ok (.iinc 2 1, 3) := by decide +kernel
theorem dX9_undo_137 : decode cX9_undo 137 = .ok (.goto (-37), 3) := by decide +kernel
theorem dX9_undo_140 : decode cX9_undo 140 = .ok (.aload_n 0, 1) := by decide +kernel
theorem dX9_undo_141 : decode cX9_undo 141 = .ok (.getfield 7, 3) := by decide +kernel
theorem dX9_undo_144 : decode cX9_undo 144 = .ok (.iload_n 1, 1) := by decide +kernel
theorem dX9_undo_145 : decode cX9_undo 145 = .ok (.iaload, 1) := by decide +kernel
theorem dX9_undo_146 : decode cX9_undo 146 = .ok (.istore_n 2, 1) := by decide +kernel
theorem dX9_undo_147 : decode cX9_undo 147 = .ok (.iload_n 2, 1) := by decide +kernel
theorem dX9_undo_148 : decode cX9_undo 148 = .ok (.aload_n 0, 1) := by decide +kernel
theorem dX9_undo_149 : decode cX9_undo 149 = .ok (.getfield 7, 3) := by decide +kernel
theorem dX9_undo_152 : decode cX9_undo 152 = .ok (.iconst 0, 1) := by decide +kernel
theorem dX9_undo_153 : decode cX9_undo 153 = .ok (.iaload, 1) := by decide +kernel
theorem dX9_undo_154 : decode cX9_undo 154 = .ok (.if_icmp .ge 23, 3) := by decide +kernel
theorem dX9_undo_157 : decode cX9_undo 157 = .ok (.aload_n 0, 1) := by decide +kernel
theorem dX9_undo_158 : decode cX9_undo 158 = .ok (.getfield 7, 3) := by decide +kernel
theorem dX9_undo_161 : decode cX9_undo 161 = .ok (.bipush 16, 2) := by decide +kernel
theorem dX9_undo_163 : decode cX9_undo 163 = .ok (.iconst 2, 1) := by decide +kernel
theorem dX9_undo_164 : decode cX9_undo 164 = .ok (.iload_n 2, 1) := by decide +kernel
theorem dX9_undo_165 : decode cX9_undo 165 = .ok (.imul, 1) := by decide +kernel
theorem dX9_undo_166 : decode cX9_undo 166 = .ok (.iadd, 1) := by decide +kernel
theorem dX9_undo_167 : decode cX9_undo 167 = .ok (.iconst 1, 1) := by decide +kernel
theorem dX9_undo_168 : decode cX9_undo 168 = .ok (.iadd, 1) := by decide +kernel
theorem dX9_undo_169 : decode cX9_undo 169 = .ok (.iconst 2, 1) := by decide +kernel
theorem dX9_undo_170 : decode cX9_undo 170 = .ok (.iastore, 1) := by decide +kernel
theorem dX9_undo_171 : decode cX9_undo 171 = .ok (.iinc 2 1, 3) := by decide +kernel
theorem dX9_undo_174 : decode cX9_undo 174 = .ok (.goto (-27), 3) := by decide +kernel
theorem dX9_undo_177 : decode cX9_undo 177 = .ok (.aload_n 0, 1) := by decide +kernel
theorem dX9_undo_178 : decode cX9_undo 178 = .ok (.getfield 7, 3) := by decide +kernel
theorem dX9_undo_181 : decode cX9_undo 181 = .ok (.bipush 6, 2) := by decide +kernel
theorem dX9_undo_183 : decode cX9_undo 183 = .ok (.iaload, 1) := by decide +kernel
theorem dX9_undo_184 : decode cX9_undo 184 = .ok (.ireturn, 1) := by decide +kernel
theorem dX9_seat_0 : decode cX9_seat 0 = .ok (.aload_n 0, 1) := by decide +kernel
theorem dX9_seat_1 : decode cX9_seat 1 = .ok (.iload_n 1, 1) := by decide +kernel
theorem dX9_seat_2 : decode cX9_seat 2 = .ok (.invokevirtual 293, 3) := by decide +kernel
theorem dX9_seat_5 : decode cX9_seat 5 = .ok (.ifCond .eq 21, 3) := by decide +kernel
theorem dX9_seat_8 : decode cX9_seat 8 = .ok (.iload_n 2, 1) := by decide +kernel
theorem dX9_seat_9 : decode cX9_seat 9 = .ok (.iconst 0, 1) := by decide +kernel
theorem dX9_seat_10 : decode cX9_seat 10 = .ok (.iconst 2, 1) := by decide +kernel
theorem dX9_seat_11 : decode cX9_seat 11 = .ok (.invokestatic 56, 3) := by decide +kernel
theorem dX9_seat_14 : decode cX9_seat 14 = .ok (.ifCond .eq 12, 3) := by decide +kernel
theorem dX9_seat_17 : decode cX9_seat 17 = .ok (.aload_n 0, 1) := by decide +kernel
theorem dX9_seat_18 : decode cX9_seat 18 = .ok (.iload_n 1, 1) := by decide +kernel
theorem dX9_seat_19 : decode cX9_seat 19 = .ok (.invokevirtual 258, 3) := by decide +kernel
theorem dX9_seat_22 : decode cX9_seat 22 = .ok (.iload_n 2, 1) := by decide +kernel
theorem dX9_seat_23 : decode cX9_seat 23 = .ok (.if_icmp .ne 5, 3) := by decide +kernel
theorem dX9_seat_26 : decode cX9_seat 26 = .ok (.iconst 0, 1) := by decide +kernel
theorem dX9_seat_27 : decode cX9_seat 27 = .ok (.ireturn, 1) := by decide +kernel
theorem dX9_seat_28 : decode cX9_seat 28 = .ok (.aload_n 0, 1) := by decide +kernel
theorem dX9_seat_29 : decode cX9_seat 29 = .ok (.invokevirtual 296, 3) := by decide +kernel
theorem dX9_seat_32 : decode cX9_seat 32 = .ok (.aload_n 0, 1) := by decide +kernel
