theorem dX5_worked_204 : decode cX5_worked 204 = .ok (.iconst 1, 1) := by decide +kernel
theorem dX5_worked_205 : decode cX5_worked 205 = .ok (.aload_n 0, 1) := by decide +kernel
theorem dX5_worked_206 : decode cX5_worked 206 = .ok (.getfield 15, 3) := by decide +kernel
theorem dX5_worked_209 : decode cX5_worked 209 = .ok (.iload 4, 2) := by decide +kernel
theorem dX5_worked_211 : decode cX5_worked 211 = .ok (.iconst 1, 1) := by decide +kernel
theorem dX5_worked_212 : decode cX5_worked 212 = .ok (.isub, 1) := by decide +kernel
theorem dX5_worked_213 : decode cX5_worked 213 = .ok (.iaload, 1) := by decide +kernel
theorem dX5_worked_214 : decode cX5_worked 214 = .ok (.isub, 1) := by decide +kernel
theorem dX5_worked_215 : decode cX5_worked 215 = .ok (.iastore, 1) := by decide +kernel
theorem dX5_worked_216 : decode cX5_worked 216 = .ok (.goto 49, 3) := by decide +kernel
theorem dX5_worked_219 : decode cX5_worked 219 = .ok (.iload 4, 2) := by decide +kernel
theorem dX5_worked_221 : decode cX5_worked 221 = .ok (.iconst 2, 1) := by decide +kernel
theorem dX5_worked_222 : decode cX5_worked 222 = .ok (.if_icmp .ge 5, 3) := by decide +kernel
theorem dX5_worked_225 : decode cX5_worked 225 = .ok (.iconst 0, 1) := by decide +kernel
theorem dX5_worked_226 : decode cX5_worked 226 = .ok (.ireturn, 1) := by decide +kernel
theorem dX5_worked_227 : decode cX5_worked 227 = .ok (.iinc 4 (-1), 3) := by decide +kernel
theorem dX5_worked_230 : decode cX5_worked 230 = .ok (.aload_n 0, 1) := by decide +kernel
theorem dX5_worked_231 : decode cX5_worked 231 = .ok (.getfield 15, 3) := by decide +kernel
theorem dX5_worked_234 : decode cX5_worked 234 = .ok (.iload 4, 2) := by decide +kernel
theorem dX5_worked_236 : decode cX5_worked 236 = .ok (.iconst 1, 1) := by decide +kernel
theorem dX5_worked_237 : decode cX5_worked 237 = .ok (.isub, 1) := by decide +kernel
theorem dX5_worked_238 : decode cX5_worked 238 = .ok (.iload 6, 2) := by decide +kernel
theorem dX5_worked_240 : decode cX5_worked 240 = .ok (.aload_n 0, 1) := by decide +kernel
theorem dX5_worked_241 : decode cX5_worked 241 = .ok (.getfield 15, 3) := by decide +kernel
theorem dX5_worked_244 : decode cX5_worked 244 = .ok (.iload 4, 2) := by decide +kernel
theorem dX5_worked_246 : decode cX5_worked 246 = .ok (.iconst 1, 1) := by decide +kernel
theorem dX5_worked_247 : decode cX5_worked 247 = .ok (.isub, 1) := by decide +kernel
theorem dX5_worked_248 : decode cX5_worked 248 = .ok (.iaload, 1) := by decide +kernel
theorem dX5_worked_249 : decode cX5_worked 249 = .ok (.i2l, 1) := by decide +kernel
theorem dX5_worked_250 : decode cX5_worked 250 = .ok (.aload_n 0, 1) := by decide +kernel
theorem dX5_worked_251 : decode cX5_worked 251 = .ok (.getfield 15, 3) := by decide +kernel
theorem dX5_worked_254 : decode cX5_worked 254 = .ok (.iload 4, 2) := by decide +kernel
theorem dX5_worked_256 : decode cX5_worked 256 = .ok (.iaload, 1) := by decide +kernel
theorem dX5_worked_257 : decode cX5_worked 257 = .ok (.i2l, 1) := by decide +kernel
theorem dX5_worked_258 : decode cX5_worked 258 = .ok (.invokestatic 36, 3) := by decide +kernel
theorem dX5_worked_261 : decode cX5_worked 261 = .ok (.invokestatic 40, 3) := by decide +kernel
theorem dX5_worked_264 : decode cX5_worked 264 = .ok (.iastore, 1) := by decide +kernel
theorem dX5_worked_265 : decode cX5_worked 265 = .ok (.iinc 5 1, 3) := by decide +kernel
theorem dX5_worked_268 : decode cX5_worked 268 = .ok (.goto (-245), 3) := by decide +kernel
theorem dX5_worked_271 : decode cX5_worked 271 = .ok (.aload_n 0, 1) := by decide +kernel
theorem dX5_worked_272 : decode cX5_worked 272 = .ok (.getfield 15, 3) := by decide +kernel
theorem dX5_worked_275 : decode cX5_worked 275 = .ok (.iconst 0, 1) := by decide +kernel
theorem dX5_worked_276 : decode cX5_worked 276 = .ok (.iaload, 1) := by decide +kernel
theorem dX5_worked_277 : decode cX5_worked 277 = .ok (.ireturn, 1) := by decide +kernel
theorem dX5_nameAt_0 : decode cX5_nameAt 0 = .ok (.iload_n 1, 1) := by decide +kernel
theorem dX5_nameAt_1 : decode cX5_nameAt 1 = .ok (.ifCond .lt 18, 3) := by decide +kernel
theorem dX5_nameAt_4 : decode cX5_nameAt 4 = .ok (.iload_n 1, 1) := by decide +kernel
theorem dX5_nameAt_5 : decode cX5_nameAt 5 = .ok (.bipush 6, 2) := by decide +kernel
theorem dX5_nameAt_7 : decode cX5_nameAt 7 = .ok (.if_icmp .ge 12, 3) := by decide +kernel
theorem dX5_nameAt_10 : decode cX5_nameAt 10 = .ok (.aload_n 0, 1) := by decide +kernel
theorem dX5_nameAt_11 : decode cX5_nameAt 11 = .ok (.getfield 11, 3) := by decide +kernel
theorem dX5_nameAt_14 : decode cX5_nameAt 14 = .ok (.iload_n 1, 1) := by decide +kernel
theorem dX5_nameAt_15 : decode cX5_nameAt 15 = .ok (.iaload, 1) := by decide +kernel
theorem dX5_nameAt_16 : decode cX5_nameAt 16 = .ok (.goto 4, 3) := by decide +kernel
theorem dX5_nameAt_19 : decode cX5_nameAt 19 = .ok (.iconst 0, 1) := by decide +kernel
theorem dX5_nameAt_20 : decode cX5_nameAt 20 = .ok (.ireturn, 1) := by decide +kernel
theorem dX5_ofTwo_0 : decode cX5_ofTwo 0 = .ok (.iload_n 0, 1) := by decide +kernel
theorem dX5_ofTwo_1 : decode cX5_ofTwo 1 = .ok (.tableswitch 169 6 17 #[63, 67, 71, 75, 89, 101, 113, 125, 137, 149, 161, 165], 63) := by decide +kernel
theorem dX5_ofTwo_64 : decode cX5_ofTwo 64 = .ok (.lload_n 1, 1) := by decide +kernel
theorem dX5_ofTwo_65 : decode cX5_ofTwo 65 = .ok (.lload_n 3, 1) := by decide +kernel
theorem dX5_ofTwo_66 : decode cX5_ofTwo 66 = .ok (.ladd, 1) := by decide +kernel
theorem dX5_ofTwo_67 : decode cX5_ofTwo 67 = .ok (.lreturn, 1) := by decide +kernel
theorem dX5_ofTwo_68 : decode cX5_ofTwo 68 = .ok (.lload_n 1, 1) := by decide +kernel
theorem dX5_ofTwo_69 : decode cX5_ofTwo 69 = .ok (.lload_n 3, 1) := by decide +kernel
theorem dX5_ofTwo_70 : decode cX5_ofTwo 70 = .ok (.lsub, 1) := by decide +kernel
theorem dX5_ofTwo_71 : decode cX5_ofTwo 71 = .ok (.lreturn, 1) := by decide +kernel
theorem dX5_ofTwo_72 : decode cX5_ofTwo 72 = .ok (.lload_n 1, 1) := by decide +kernel
theorem dX5_ofTwo_73 : decode cX5_ofTwo 73 = .ok (.lload_n 3, 1) := by decide +kernel
theorem dX5_ofTwo_74 : decode cX5_ofTwo 74 = .ok (.lmul, 1) := by decide +kernel
theorem dX5_ofTwo_75 : decode cX5_ofTwo 75 = .ok (.lreturn, 1) := by decide +kernel
theorem dX5_ofTwo_76 : decode cX5_ofTwo 76 = .ok (.lload_n 3, 1) := by decide +kernel
theorem dX5_ofTwo_77 : decode cX5_ofTwo 77 = .ok (.lconst 0, 1) := by decide +kernel
theorem dX5_ofTwo_78 : decode cX5_ofTwo 78 = .ok (.lcmp, 1) := by decide +kernel
theorem dX5_ofTwo_79 : decode cX5_ofTwo 79 = .ok (.ifCond .ne 7, 3) := by decide +kernel
theorem dX5_ofTwo_82 : decode cX5_ofTwo 82 = .ok (.lconst 0, 1) := by decide +kernel
theorem dX5_ofTwo_83 : decode cX5_ofTwo 83 = .ok (.goto 6, 3) := by decide +kernel
theorem dX5_ofTwo_86 : decode cX5_ofTwo 86 = .ok (.lload_n 1, 1) := by decide +kernel
theorem dX5_ofTwo_87 : decode cX5_ofTwo 87 = .ok (.lload_n 3, 1) := by decide +kernel
theorem dX5_ofTwo_88 : decode cX5_ofTwo 88 = .ok (.ldiv, 1) := by decide +kernel
theorem dX5_ofTwo_89 : decode cX5_ofTwo 89 = .ok (.lreturn, 1) := by decide +kernel
theorem dX5_ofTwo_90 : decode cX5_ofTwo 90 = .ok (.lload_n 1, 1) := by decide +kernel
theorem dX5_ofTwo_91 : decode cX5_ofTwo 91 = .ok (.lload_n 3, 1) := by decide +kernel
theorem dX5_ofTwo_92 : decode cX5_ofTwo 92 = .ok (.lcmp, 1) := by decide +kernel
theorem dX5_ofTwo_93 : decode cX5_ofTwo 93 = .ok (.ifCond .ge 7, 3) := by decide +kernel
theorem dX5_ofTwo_96 : decode cX5_ofTwo 96 = .ok (.lconst 1, 1) := by decide +kernel
theorem dX5_ofTwo_97 : decode cX5_ofTwo 97 = .ok (.goto 4, 3) := by decide +kernel
theorem dX5_ofTwo_100 : decode cX5_ofTwo 100 = .ok (.lconst 0, 1) := by decide +kernel
theorem dX5_ofTwo_101 : decode cX5_ofTwo 101 = .ok (.lreturn, 1) := by decide +kernel
theorem dX5_ofTwo_102 : decode cX5_ofTwo 102 = .ok (.lload_n 1, 1) := by decide +kernel
theorem dX5_ofTwo_103 : decode cX5_ofTwo 103 = .ok (.lload_n 3, 1) := by decide +kernel
theorem dX5_ofTwo_104 : decode cX5_ofTwo 104 = .ok (.lcmp, 1) := by decide +kernel
theorem dX5_ofTwo_105 : decode cX5_ofTwo 105 = .ok (.ifCond .gt 7, 3) := by decide +kernel
theorem dX5_ofTwo_108 : decode cX5_ofTwo 108 = .ok (.lconst 1, 1) := by decide +kernel
theorem dX5_ofTwo_109 : decode cX5_ofTwo 109 = .ok (.goto 4, 3) := by decide +kernel
theorem dX5_ofTwo_112 : decode cX5_ofTwo 112 = .ok (.lconst 0, 1) := by decide +kernel
theorem dX5_ofTwo_113 : decode cX5_ofTwo 113 = .ok (.lreturn, 1) := by decide +kernel
theorem dX5_ofTwo_114 : decode cX5_ofTwo 114 = .ok (.lload_n 1, 1) := by decide +kernel
theorem dX5_ofTwo_115 : decode cX5_ofTwo 115 = .ok (.lload_n 3, 1) := by decide +kernel
theorem dX5_ofTwo_116 : decode cX5_ofTwo 116 = .ok (.lcmp, 1) := by decide +kernel
theorem dX5_ofTwo_117 : decode cX5_ofTwo 117 = .ok (.ifCond .le 7, 3) := by decide +kernel
theorem dX5_ofTwo_120 : decode cX5_ofTwo 120 = .ok (.lconst 1, 1) := by decide +kernel
theorem dX5_ofTwo_121 : decode cX5_ofTwo 121 = .ok (.goto 4, 3) := by decide +kernel
theorem dX5_ofTwo_124 : decode cX5_ofTwo 124 = .ok (.lconst 0, 1) := by decide +kernel
theorem dX5_ofTwo_125 : decode cX5_ofTwo 125 = .ok (.lreturn, 1) := by decide +kernel
theorem dX5_ofTwo_126 : decode cX5_ofTwo 126 = .ok (.lload_n 1, 1) := by decide +kernel
theorem dX5_ofTwo_127 : decode cX5_ofTwo 127 = .ok (.lload_n 3, 1) := by decide +kernel
theorem dX5_ofTwo_128 : decode cX5_ofTwo 128 = .ok (.lcmp, 1) := by decide +kernel
theorem dX5_ofTwo_129 : decode cX5_ofTwo 129 = .ok (.ifCond .lt 7, 3) := by decide +kernel
theorem dX5_ofTwo_132 : decode cX5_ofTwo 132 = .ok (.lconst 1, 1) := by decide +kernel
theorem dX5_ofTwo_133 : decode cX5_ofTwo 133 = .ok (.goto 4, 3) := by decide +kernel
theorem dX5_ofTwo_136 : decode cX5_ofTwo 136 = .ok (.lconst 0, 1) := by decide +kernel
theorem dX5_ofTwo_137 : decode cX5_ofTwo 137 = .ok (.lreturn, 1) := by decide +kernel
theorem dX5_ofTwo_138 : decode cX5_ofTwo 138 = .ok (.lload_n 1, 1) := by decide +kernel
theorem dX5_ofTwo_139 : decode cX5_ofTwo 139 = .ok (.lload_n 3, 1) := by decide +kernel
theorem dX5_ofTwo_140 : decode cX5_ofTwo 140 = .ok (.lcmp, 1) := by decide +kernel
theorem dX5_ofTwo_141 : decode cX5_ofTwo 141 = .ok (.ifCond .ne 7, 3) := by decide +kernel
theorem dX5_ofTwo_144 : decode cX5_ofTwo 144 = .ok (.lconst 1, 1) := by decide +kernel
theorem dX5_ofTwo_145 : decode cX5_ofTwo 145 = .ok (.goto 4, 3) := by decide +kernel
theorem dX5_ofTwo_148 : decode cX5_ofTwo 148 = .ok (.lconst 0, 1) := by decide +kernel
theorem dX5_ofTwo_149 : decode cX5_ofTwo 149 = .ok (.lreturn, 1) := by decide +kernel
theorem dX5_ofTwo_150 : decode cX5_ofTwo 150 = .ok (.lload_n 1, 1) := by decide +kernel
theorem dX5_ofTwo_151 : decode cX5_ofTwo 151 = .ok (.lload_n 3, 1) := by decide +kernel
theorem dX5_ofTwo_152 : decode cX5_ofTwo 152 = .ok (.lcmp, 1) := by decide +kernel
theorem dX5_ofTwo_153 : decode cX5_ofTwo 153 = .ok (.ifCond .eq 7, 3) := by decide +kernel
theorem dX5_ofTwo_156 : decode cX5_ofTwo 156 = .ok (.lconst 1, 1) := by decide +kernel
theorem dX5_ofTwo_157 : decode cX5_ofTwo 157 = .ok (.goto 4, 3) := by decide +kernel
theorem dX5_ofTwo_160 : decode cX5_ofTwo 160 = .ok (.lconst 0, 1) := by decide +kernel
theorem dX5_ofTwo_161 : decode cX5_ofTwo 161 = .ok (.lreturn, 1) := by decide +kernel
theorem dX5_ofTwo_162 : decode cX5_ofTwo 162 = .ok (.lload_n 1, 1) := by decide +kernel
theorem dX5_ofTwo_163 : decode cX5_ofTwo 163 = .ok (.lload_n 3, 1) := by decide +kernel
theorem dX5_ofTwo_164 : decode cX5_ofTwo 164 = .ok (.land, 1) := by decide +kernel
theorem dX5_ofTwo_165 : decode cX5_ofTwo 165 = .ok (.lreturn, 1) := by decide +kernel
theorem dX5_ofTwo_166 : decode cX5_ofTwo 166 = .ok (.lload_n 1, 1) := by decide +kernel
theorem dX5_ofTwo_167 : decode cX5_ofTwo 167 = .ok (.lload_n 3, 1) := by decide +kernel
theorem dX5_ofTwo_168 : decode cX5_ofTwo 168 = .ok (.lor, 1) := by decide +kernel
theorem dX5_ofTwo_169 : decode cX5_ofTwo 169 = .ok (.lreturn, 1) := by decide +kernel
theorem dX5_ofTwo_170 : decode cX5_ofTwo 170 = .ok (.lconst 0, 1) := by decide +kernel
theorem dX5_ofTwo_171 : decode cX5_ofTwo 171 = .ok (.lreturn, 1) := by decide +kernel
theorem dX5_held_0 : decode cX5_held 0 = .ok (.lload_n 0, 1) := by decide +kernel
theorem dX5_held_1 : decode cX5_held 1 = .ok (.ldc2_w 44, 3) := by decide +kernel
theorem dX5_held_4 : decode cX5_held 4 = .ok (.lcmp, 1) := by decide +kernel
theorem dX5_held_5 : decode cX5_held 5 = .ok (.ifCond .le 6, 3) := by decide +kernel
theorem dX5_held_8 : decode cX5_held 8 = .ok (.ldc 46, 2) := by decide +kernel
theorem dX5_held_10 : decode cX5_held 10 = .ok (.ireturn, 1) := by decide +kernel
theorem dX5_held_11 : decode cX5_held 11 = .ok (.lload_n 0, 1) := by decide +kernel
theorem dX5_held_12 : decode cX5_held 12 = .ok (.ldc2_w 47, 3) := by decide +kernel
theorem dX5_held_15 : decode cX5_held 15 = .ok (.lcmp, 1) := by decide +kernel
theorem dX5_held_16 : decode cX5_held 16 = .ok (.ifCond .ge 8, 3) := by decide +kernel
theorem dX5_held_19 : decode cX5_held 19 = .ok (.ldc 49, 2) := by decide +kernel
theorem dX5_held_21 : decode cX5_held 21 = .ok (.goto 5, 3) := by decide +kernel
theorem dX5_held_24 : decode cX5_held 24 = .ok (.lload_n 0, 1) := by decide +kernel
theorem dX5_held_25 : decode cX5_held 25 = .ok (.l2i, 1) := by decide +kernel
theorem dX5_held_26 : decode cX5_held 26 = .ok (.ireturn, 1) := by decide +kernel
theorem dX6_init_0 : decode cX6_init 0 = .ok (.aload_n 0, 1) := by decide +kernel
theorem dX6_init_1 : decode cX6_init 1 = .ok (.invokespecial 3, 3) := by decide +kernel
theorem dX6_init_4 : decode cX6_init 4 = .ok (.aload_n 0, 1) := by decide +kernel
theorem dX6_init_5 : decode cX6_init 5 = .ok (.sipush 300, 3) := by decide +kernel
theorem dX6_init_8 : decode cX6_init 8 = .ok (.newarray .int, 2) := by decide +kernel
theorem dX6_init_10 : decode cX6_init 10 = .ok (.putfield 9, 3) := by decide +kernel
theorem dX6_init_13 : decode cX6_init 13 = .ok (.aload_n 0, 1) := by decide +kernel
theorem dX6_init_14 : decode cX6_init 14 = .ok (.sipush 300, 3) := by decide +kernel
theorem dX6_init_17 : decode cX6_init 17 = .ok (.newarray .int, 2) := by decide +kernel
theorem dX6_init_19 : decode cX6_init 19 = .ok (.putfield 15, 3) := by decide +kernel
theorem dX6_init_22 : decode cX6_init 22 = .ok (.aload_n 0, 1) := by decide +kernel
theorem dX6_init_23 : decode cX6_init 23 = .ok (.iconst 0, 1) := by decide +kernel
theorem dX6_init_24 : decode cX6_init 24 = .ok (.putfield 18, 3) := by decide +kernel
theorem dX6_init_27 : decode cX6_init 27 = .ok (.aload_n 0, 1) := by decide +kernel
theorem dX6_init_28 : decode cX6_init 28 = .ok (.iconst 0, 1) := by decide +kernel
theorem dX6_init_29 : decode cX6_init 29 = .ok (.putfield 22, 3) := by decide +kernel
theorem dX6_init_32 : decode cX6_init 32 = .ok (.aload_n 0, 1) := by decide +kernel
theorem dX6_init_33 : decode cX6_init 33 = .ok (.iconst 0, 1) := by decide +kernel
theorem dX6_init_34 : decode cX6_init 34 = .ok (.putfield 25, 3) := by decide +kernel
theorem dX6_init_37 : decode cX6_init 37 = .ok (.aload_n 0, 1) := by decide +kernel
theorem dX6_init_38 : decode cX6_init 38 = .ok (.iconst 0, 1) := by decide +kernel
theorem dX6_init_39 : decode cX6_init 39 = .ok (.putfield 28, 3) := by decide +kernel
theorem dX6_init_42 : decode cX6_init 42 = .ok (.aload_n 0, 1) := by decide +kernel
theorem dX6_init_43 : decode cX6_init 43 = .ok (.iconst 0, 1) := by decide +kernel
theorem dX6_init_44 : decode cX6_init 44 = .ok (.putfield 31, 3) := by decide +kernel
theorem dX6_init_47 : decode cX6_init 47 = .ok (.aload_n 0, 1) := by decide +kernel
theorem dX6_init_48 : decode cX6_init 48 = .ok (.bipush 24, 2) := by decide +kernel
theorem dX6_init_50 : decode cX6_init 50 = .ok (.newarray .int, 2) := by decide +kernel
theorem dX6_init_52 : decode cX6_init 52 = .ok (.putfield 34, 3) := by decide +kernel
theorem dX6_init_55 : decode cX6_init 55 = .ok (.aload_n 0, 1) := by decide +kernel
theorem dX6_init_56 : decode cX6_init 56 = .ok (.bipush 24, 2) := by decide +kernel
theorem dX6_init_58 : decode cX6_init 58 = .ok (.newarray .int, 2) := by decide +kernel
theorem dX6_init_60 : decode cX6_init 60 = .ok (.putfield 37, 3) := by decide +kernel
theorem dX6_init_63 : decode cX6_init 63 = .ok (.aload_n 0, 1) := by decide +kernel
theorem dX6_init_64 : decode cX6_init 64 = .ok (.bipush 24, 2) := by decide +kernel
theorem dX6_init_66 : decode cX6_init 66 = .ok (.newarray .int, 2) := by decide +kernel
theorem dX6_init_68 : decode cX6_init 68 = .ok (.putfield 40, 3) := by decide +kernel
theorem dX6_init_71 : decode cX6_init 71 = .ok (.aload_n 0, 1) := by decide +kernel
theorem dX6_init_72 : decode cX6_init 72 = .ok (.iconst 0, 1) := by decide +kernel
theorem dX6_init_73 : decode cX6_init 73 = .ok (.putfield 43, 3) := by decide +kernel
theorem dX6_init_76 : decode cX6_init 76 = .ok (.return_, 1) := by decide +kernel
theorem dX6_clear_0 : decode cX6_clear 0 = .ok (.aload_n 0, 1) := by decide +kernel
theorem dX6_clear_1 : decode cX6_clear 1 = .ok (.iconst 0, 1) := by decide +kernel
theorem dX6_clear_2 : decode cX6_clear 2 = .ok (.putfield 18, 3) := by decide +kernel
theorem dX6_clear_5 : decode cX6_clear 5 = .ok (.aload_n 0, 1) := by decide +kernel
theorem dX6_clear_6 : decode cX6_clear 6 = .ok (.iconst 0, 1) := by decide +kernel
theorem dX6_clear_7 : decode cX6_clear 7 = .ok (.putfield 22, 3) := by decide +kernel
theorem dX6_clear_10 : decode cX6_clear 10 = .ok (.aload_n 0, 1) := by decide +kernel
theorem dX6_clear_11 : decode cX6_clear 11 = .ok (.iconst 0, 1) := by decide +kernel
theorem dX6_clear_12 : decode cX6_clear 12 = .ok (.putfield 25, 3) := by decide +kernel
theorem dX6_clear_15 : decode cX6_clear 15 = .ok (.aload_n 0, 1) := by decide +kernel
theorem dX6_clear_16 : decode cX6_clear 16 = .ok (.iconst 0, 1) := by decide +kernel
theorem dX6_clear_17 : decode cX6_clear 17 = .ok (.putfield 28, 3) := by decide +kernel
theorem dX6_clear_20 : decode cX6_clear 20 = .ok (.aload_n 0, 1) := by decide +kernel
theorem dX6_clear_21 : decode cX6_clear 21 = .ok (.iconst 0, 1) := by decide +kernel
theorem dX6_clear_22 : decode cX6_clear 22 = .ok (.putfield 31, 3) := by decide +kernel
theorem dX6_clear_25 : decode cX6_clear 25 = .ok (.aload_n 0, 1) := by decide +kernel
theorem dX6_clear_26 : decode cX6_clear 26 = .ok (.iconst 0, 1) := by decide +kernel
theorem dX6_clear_27 : decode cX6_clear 27 = .ok (.putfield 43, 3) := by decide +kernel
theorem dX6_clear_30 : decode cX6_clear 30 = .ok (.return_, 1) := by decide +kernel
theorem dX6_hasSlices_0 : decode cX6_hasSlices 0 = .ok (.aload_n 0, 1) := by decide +kernel
theorem dX6_hasSlices_1 : decode cX6_hasSlices 1 = .ok (.getfield 22, 3) := by decide +kernel
theorem dX6_hasSlices_4 : decode cX6_hasSlices 4 = .ok (.aload_n 0, 1) := by decide +kernel
theorem dX6_hasSlices_5 : decode cX6_hasSlices 5 = .ok (.getfield 25, 3) := by decide +kernel
theorem dX6_hasSlices_8 : decode cX6_hasSlices 8 = .ok (.if_icmp .ge 7, 3) := by decide +kernel
theorem dX6_hasSlices_11 : decode cX6_hasSlices 11 = .ok (.iconst 1, 1) := by decide +kernel
theorem dX6_hasSlices_12 : decode cX6_hasSlices 12 = .ok (.goto 4, 3) := by decide +kernel
theorem dX6_hasSlices_15 : decode cX6_hasSlices 15 = .ok (.iconst 0, 1) := by decide +kernel
theorem dX6_hasSlices_16 : decode cX6_hasSlices 16 = .ok (.ireturn, 1) := by decide +kernel
theorem dX6_hasEats_0 : decode cX6_hasEats 0 = .ok (.aload_n 0, 1) := by decide +kernel
theorem dX6_hasEats_1 : decode cX6_hasEats 1 = .ok (.getfield 28, 3) := by decide +kernel
theorem dX6_hasEats_4 : decode cX6_hasEats 4 = .ok (.aload_n 0, 1) := by decide +kernel
theorem dX6_hasEats_5 : decode cX6_hasEats 5 = .ok (.getfield 31, 3) := by decide +kernel
theorem dX6_hasEats_8 : decode cX6_hasEats 8 = .ok (.if_icmp .ge 7, 3) := by decide +kernel
theorem dX6_hasEats_11 : decode cX6_hasEats 11 = .ok (.iconst 1, 1) := by decide +kernel
theorem dX6_hasEats_12 : decode cX6_hasEats 12 = .ok (.goto 4, 3) := by decide +kernel
theorem dX6_hasEats_15 : decode cX6_hasEats 15 = .ok (.iconst 0, 1) := by decide +kernel
theorem dX6_hasEats_16 : decode cX6_hasEats 16 = .ok (.ireturn, 1) := by decide +kernel
theorem dX6_put_0 : decode cX6_put 0 = .ok (.aload_n 0, 1) := by decide +kernel
theorem dX6_put_1 : decode cX6_put 1 = .ok (.getfield 18, 3) := by decide +kernel
theorem dX6_put_4 : decode cX6_put 4 = .ok (.ifCond .lt 43, 3) := by decide +kernel
theorem dX6_put_7 : decode cX6_put 7 = .ok (.aload_n 0, 1) := by decide +kernel
theorem dX6_put_8 : decode cX6_put 8 = .ok (.getfield 18, 3) := by decide +kernel
theorem dX6_put_11 : decode cX6_put 11 = .ok (.sipush 300, 3) := by decide +kernel
theorem dX6_put_14 : decode cX6_put 14 = .ok (.if_icmp .ge 33, 3) := by decide +kernel
theorem dX6_put_17 : decode cX6_put 17 = .ok (.aload_n 0, 1) := by decide +kernel
theorem dX6_put_18 : decode cX6_put 18 = .ok (.getfield 9, 3) := by decide +kernel
theorem dX6_put_21 : decode cX6_put 21 = .ok (.aload_n 0, 1) := by decide +kernel
theorem dX6_put_22 : decode cX6_put 22 = .ok (.getfield 18, 3) := by decide +kernel
theorem dX6_put_25 : decode cX6_put 25 = .ok (.iload_n 1, 1) := by decide +kernel
theorem dX6_put_26 : decode cX6_put 26 = .ok (.iastore, 1) := by decide +kernel
theorem dX6_put_27 : decode cX6_put 27 = .ok (.aload_n 0, 1) := by decide +kernel
theorem dX6_put_28 : decode cX6_put 28 = .ok (.getfield 15, 3) := by decide +kernel
theorem dX6_put_31 : decode cX6_put 31 = .ok (.aload_n 0, 1) := by decide +kernel
theorem dX6_put_32 : decode cX6_put 32 = .ok (.getfield 18, 3) := by decide +kernel
theorem dX6_put_35 : decode cX6_put 35 = .ok (.iload_n 2, 1) := by decide +kernel
theorem dX6_put_36 : decode cX6_put 36 = .ok (.iastore, 1) := by decide +kernel
theorem dX6_put_37 : decode cX6_put 37 = .ok (.aload_n 0, 1) := by decide +kernel
theorem dX6_put_38 : decode cX6_put 38 = .ok (.dup, 1) := by decide +kernel
theorem dX6_put_39 : decode cX6_put 39 = .ok (.getfield 18, 3) := by decide +kernel
theorem dX6_put_42 : decode cX6_put 42 = .ok (.iconst 1, 1) := by decide +kernel
theorem dX6_put_43 : decode cX6_put 43 = .ok (.iadd, 1) := by decide +kernel
theorem dX6_put_44 : decode cX6_put 44 = .ok (.putfield 18, 3) := by decide +kernel
theorem dX6_put_47 : decode cX6_put 47 = .ok (.return_, 1) := by decide +kernel
theorem dX6_aim_0 : decode cX6_aim 0 = .ok (.iload_n 1, 1) := by decide +kernel
theorem dX6_aim_1 : decode cX6_aim 1 = .ok (.ifCond .lt 20, 3) := by decide +kernel
theorem dX6_aim_4 : decode cX6_aim 4 = .ok (.iload_n 1, 1) := by decide +kernel
theorem dX6_aim_5 : decode cX6_aim 5 = .ok (.sipush 300, 3) := by decide +kernel
theorem dX6_aim_8 : decode cX6_aim 8 = .ok (.if_icmp .ge 13, 3) := by decide +kernel
theorem dX6_aim_11 : decode cX6_aim 11 = .ok (.aload_n 0, 1) := by decide +kernel
theorem dX6_aim_12 : decode cX6_aim 12 = .ok (.getfield 15, 3) := by decide +kernel
theorem dX6_aim_15 : decode cX6_aim 15 = .ok (.iload_n 1, 1) := by decide +kernel
theorem dX6_aim_16 : decode cX6_aim 16 = .ok (.aload_n 0, 1) := by decide +kernel
theorem dX6_aim_17 : decode cX6_aim 17 = .ok (.getfield 18, 3) := by decide +kernel
theorem dX6_aim_20 : decode cX6_aim 20 = .ok (.iastore, 1) := by decide +kernel
theorem dX6_aim_21 : decode cX6_aim 21 = .ok (.return_, 1) := by decide +kernel
theorem dX6_addLaw_0 : decode cX6_addLaw 0 = .ok (.iload_n 1, 1) := by decide +kernel
theorem dX6_addLaw_1 : decode cX6_addLaw 1 = .ok (.sipush 201, 3) := by decide +kernel
theorem dX6_addLaw_4 : decode cX6_addLaw 4 = .ok (.if_icmp .ne 19, 3) := by decide +kernel
theorem dX6_addLaw_7 : decode cX6_addLaw 7 = .ok (.aload_n 0, 1) := by decide +kernel
theorem dX6_addLaw_8 : decode cX6_addLaw 8 = .ok (.iload_n 2, 1) := by decide +kernel
theorem dX6_addLaw_9 : decode cX6_addLaw 9 = .ok (.putfield 28, 3) := by decide +kernel
theorem dX6_addLaw_12 : decode cX6_addLaw 12 = .ok (.aload_n 0, 1) := by decide +kernel
theorem dX6_addLaw_13 : decode cX6_addLaw 13 = .ok (.aload_n 0, 1) := by decide +kernel
theorem dX6_addLaw_14 : decode cX6_addLaw 14 = .ok (.getfield 18, 3) := by decide +kernel
theorem dX6_addLaw_17 : decode cX6_addLaw 17 = .ok (.putfield 31, 3) := by decide +kernel
theorem dX6_addLaw_20 : decode cX6_addLaw 20 = .ok (.goto 16, 3) := by decide +kernel
theorem dX6_addLaw_23 : decode cX6_addLaw 23 = .ok (.aload_n 0, 1) := by decide +kernel
theorem dX6_addLaw_24 : decode cX6_addLaw 24 = .ok (.iload_n 2, 1) := by decide +kernel
theorem dX6_addLaw_25 : decode cX6_addLaw 25 = .ok (.putfield 22, 3) := by decide +kernel
theorem dX6_addLaw_28 : decode cX6_addLaw 28 = .ok (.aload_n 0, 1) := by decide +kernel
theorem dX6_addLaw_29 : decode cX6_addLaw 29 = .ok (.aload_n 0, 1) := by decide +kernel
theorem dX6_addLaw_30 : decode cX6_addLaw 30 = .ok (.getfield 18, 3) := by decide +kernel
theorem dX6_addLaw_33 : decode cX6_addLaw 33 = .ok (.putfield 25, 3) := by decide +kernel
theorem dX6_addLaw_36 : decode cX6_addLaw 36 = .ok (.aload_n 0, 1) := by decide +kernel
theorem dX6_addLaw_37 : decode cX6_addLaw 37 = .ok (.iload_n 1, 1) := by decide +kernel
theorem dX6_addLaw_38 : decode cX6_addLaw 38 = .ok (.iconst 0, 1) := by decide +kernel
theorem dX6_addLaw_39 : decode cX6_addLaw 39 = .ok (.iconst 0, 1) := by decide +kernel
theorem dX6_addLaw_40 : decode cX6_addLaw 40 = .ok (.invokevirtual 48, 3) := by decide +kernel
theorem dX6_addLaw_43 : decode cX6_addLaw 43 = .ok (.return_, 1) := by decide +kernel
theorem dX6_addClause_0 : decode cX6_addClause 0 = .ok (.aload_n 0, 1) := by decide +kernel
theorem dX6_addClause_1 : decode cX6_addClause 1 = .ok (.getfield 43, 3) := by decide +kernel
theorem dX6_addClause_4 : decode cX6_addClause 4 = .ok (.ifCond .lt 52, 3) := by decide +kernel
theorem dX6_addClause_7 : decode cX6_addClause 7 = .ok (.aload_n 0, 1) := by decide +kernel
theorem dX6_addClause_8 : decode cX6_addClause 8 = .ok (.getfield 43, 3) := by decide +kernel
theorem dX6_addClause_11 : decode cX6_addClause 11 = .ok (.bipush 24, 2) := by decide +kernel
theorem dX6_addClause_13 : decode cX6_addClause 13 = .ok (.if_icmp .ge 43, 3) := by decide +kernel
theorem dX6_addClause_16 : decode cX6_addClause 16 = .ok (.aload_n 0, 1) := by decide +kernel
theorem dX6_addClause_17 : decode cX6_addClause 17 = .ok (.getfield 34, 3) := by decide +kernel
theorem dX6_addClause_20 : decode cX6_addClause 20 = .ok (.aload_n 0, 1) := by decide +kernel
theorem dX6_addClause_21 : decode cX6_addClause 21 = .ok (.getfield 43, 3) := by decide +kernel
theorem dX6_addClause_24 : decode cX6_addClause 24 = .ok (.iload_n 1, 1) := by decide +kernel
theorem dX6_addClause_25 : decode cX6_addClause 25 = .ok (.iastore, 1) := by decide +kernel
theorem dX6_addClause_26 : decode cX6_addClause 26 = .ok (.aload_n 0, 1) := by decide +kernel
theorem dX6_addClause_27 : decode cX6_addClause 27 = .ok (.getfield 37, 3) := by decide +kernel
theorem dX6_addClause_30 : decode cX6_addClause 30 = .ok (.aload_n 0, 1) := by decide +kernel
theorem dX6_addClause_31 : decode cX6_addClause 31 = .ok (.getfield 43, 3) := by decide +kernel
theorem dX6_addClause_34 : decode cX6_addClause 34 = .ok (.iload_n 2, 1) := by decide +kernel
theorem dX6_addClause_35 : decode cX6_addClause 35 = .ok (.iastore, 1) := by decide +kernel
theorem dX6_addClause_36 : decode cX6_addClause 36 = .ok (.aload_n 0, 1) := by decide +kernel
theorem dX6_addClause_37 : decode cX6_addClause 37 = .ok (.getfield 40, 3) := by decide +kernel
theorem dX6_addClause_40 : decode cX6_addClause 40 = .ok (.aload_n 0, 1) := by decide +kernel
theorem dX6_addClause_41 : decode cX6_addClause 41 = .ok (.getfield 43, 3) := by decide +kernel
theorem dX6_addClause_44 : decode cX6_addClause 44 = .ok (.iload_n 3, 1) := by decide +kernel
theorem dX6_addClause_45 : decode cX6_addClause 45 = .ok (.iastore, 1) := by decide +kernel
theorem dX6_addClause_46 : decode cX6_addClause 46 = .ok (.aload_n 0, 1) := by decide +kernel
theorem dX6_addClause_47 : decode cX6_addClause 47 = .ok (.dup, 1) := by decide +kernel
theorem dX6_addClause_48 : decode cX6_addClause 48 = .ok (.getfield 43, 3) := by decide +kernel
theorem dX6_addClause_51 : decode cX6_addClause 51 = .ok (.iconst 1, 1) := by decide +kernel
theorem dX6_addClause_52 : decode cX6_addClause 52 = .ok (.iadd, 1) := by decide +kernel
theorem dX6_addClause_53 : decode cX6_addClause 53 = .ok (.putfield 43, 3) := by decide +kernel
theorem dX6_addClause_56 : decode cX6_addClause 56 = .ok (.return_, 1) := by decide +kernel
theorem dX7_init_0 : decode cX7_init 0 = .ok (.aload_n 0, 1) := by decide +kernel
theorem dX7_init_1 : decode cX7_init 1 = .ok (.invokespecial 3, 3) := by decide +kernel
theorem dX7_init_4 : decode cX7_init 4 = .ok (.aload_n 0, 1) := by decide +kernel
theorem dX7_init_5 : decode cX7_init 5 = .ok (.sipush 300, 3) := by decide +kernel
theorem dX7_init_8 : decode cX7_init 8 = .ok (.newarray .int, 2) := by decide +kernel
theorem dX7_init_10 : decode cX7_init 10 = .ok (.putfield 9, 3) := by decide +kernel
theorem dX7_init_13 : decode cX7_init 13 = .ok (.aload_n 0, 1) := by decide +kernel
theorem dX7_init_14 : decode cX7_init 14 = .ok (.iconst 0, 1) := by decide +kernel
theorem dX7_init_15 : decode cX7_init 15 = .ok (.putfield 15, 3) := by decide +kernel
theorem dX7_init_18 : decode cX7_init 18 = .ok (.aload_n 0, 1) := by decide +kernel
theorem dX7_init_19 : decode cX7_init 19 = .ok (.iconst 0, 1) := by decide +kernel
theorem dX7_init_20 : decode cX7_init 20 = .ok (.putfield 19, 3) := by decide +kernel
theorem dX7_init_23 : decode cX7_init 23 = .ok (.aload_n 0, 1) := by decide +kernel
theorem dX7_init_24 : decode cX7_init 24 = .ok (.iconst 0, 1) := by decide +kernel
theorem dX7_init_25 : decode cX7_init 25 = .ok (.putfield 22, 3) := by decide +kernel
theorem dX7_init_28 : decode cX7_init 28 = .ok (.aload_n 0, 1) := by decide +kernel
theorem dX7_init_29 : decode cX7_init 29 = .ok (.iconst 0, 1) := by decide +kernel
theorem dX7_init_30 : decode cX7_init 30 = .ok (.putfield 25, 3) := by decide +kernel
theorem dX7_init_33 : decode cX7_init 33 = .ok (.aload_n 0, 1) := by decide +kernel
theorem dX7_init_34 : decode cX7_init 34 = .ok (.iconst 0, 1) := by decide +kernel
theorem dX7_init_35 : decode cX7_init 35 = .ok (.putfield 28, 3) := by decide +kernel
theorem dX7_init_38 : decode cX7_init 38 = .ok (.return_, 1) := by decide +kernel
theorem dX7_addWord_0 : decode cX7_addWord 0 = .ok (.bipush 24, 2) := by decide +kernel
theorem dX7_addWord_2 : decode cX7_addWord 2 = .ok (.istore_n 2, 1) := by decide +kernel
theorem dX7_addWord_3 : decode cX7_addWord 3 = .ok (.iload_n 2, 1) := by decide +kernel
theorem dX7_addWord_4 : decode cX7_addWord 4 = .ok (.ifCond .lt 52, 3) := by decide +kernel
theorem dX7_addWord_7 : decode cX7_addWord 7 = .ok (.aload_n 0, 1) := by decide +kernel
theorem dX7_addWord_8 : decode cX7_addWord 8 = .ok (.getfield 15, 3) := by decide +kernel
theorem dX7_addWord_11 : decode cX7_addWord 11 = .ok (.ifCond .lt 39, 3) := by decide +kernel
theorem dX7_addWord_14 : decode cX7_addWord 14 = .ok (.aload_n 0, 1) := by decide +kernel
theorem dX7_addWord_15 : decode cX7_addWord 15 = .ok (.getfield 15, 3) := by decide +kernel
theorem dX7_addWord_18 : decode cX7_addWord 18 = .ok (.sipush 300, 3) := by decide +kernel
theorem dX7_addWord_21 : decode cX7_addWord 21 = .ok (.if_icmp .ge 29, 3) := by decide +kernel
theorem dX7_addWord_24 : decode cX7_addWord 24 = .ok (.aload_n 0, 1) := by decide +kernel
theorem dX7_addWord_25 : decode cX7_addWord 25 = .ok (.getfield 9, 3) := by decide +kernel
theorem dX7_addWord_28 : decode cX7_addWord 28 = .ok (.aload_n 0, 1) := by decide +kernel
theorem dX7_addWord_29 : decode cX7_addWord 29 = .ok (.getfield 15, 3) := by decide +kernel
theorem dX7_addWord_32 : decode cX7_addWord 32 = .ok (.iload_n 1, 1) := by decide +kernel
theorem dX7_addWord_33 : decode cX7_addWord 33 = .ok (.iload_n 2, 1) := by decide +kernel
theorem dX7_addWord_34 : decode cX7_addWord 34 = .ok (.ishr, 1) := by decide +kernel
theorem dX7_addWord_35 : decode cX7_addWord 35 = .ok (.sipush 255, 3) := by decide +kernel
theorem dX7_addWord_38 : decode cX7_addWord 38 = .ok (.iand, 1) := by decide +kernel
theorem dX7_addWord_39 : decode cX7_addWord 39 = .ok (.iastore, 1) := by decide +kernel
theorem dX7_addWord_40 : decode cX7_addWord 40 = .ok (.aload_n 0, 1) := by decide +kernel
theorem dX7_addWord_41 : decode cX7_addWord 41 = .ok (.dup, 1) := by decide +kernel
theorem dX7_addWord_42 : decode cX7_addWord 42 = .ok (.getfield 15, 3) := by decide +kernel
theorem dX7_addWord_45 : decode cX7_addWord 45 = .ok (.iconst 1, 1) := by decide +kernel
theorem dX7_addWord_46 : decode cX7_addWord 46 = .ok (.iadd, 1) := by decide +kernel
theorem dX7_addWord_47 : decode cX7_addWord 47 = .ok (.putfield 15, 3) := by decide +kernel
theorem dX7_addWord_50 : decode cX7_addWord 50 = .ok (.iinc 2 (-8), 3) := by decide +kernel
theorem dX7_addWord_53 : decode cX7_addWord 53 = .ok (.goto (-50), 3) := by decide +kernel
theorem dX7_addWord_56 : decode cX7_addWord 56 = .ok (.return_, 1) := by decide +kernel
theorem dX7_rewind_0 : decode cX7_rewind 0 = .ok (.aload_n 0, 1) := by decide +kernel
theorem dX7_rewind_1 : decode cX7_rewind 1 = .ok (.iconst 0, 1) := by decide +kernel
theorem dX7_rewind_2 : decode cX7_rewind 2 = .ok (.putfield 28, 3) := by decide +kernel
theorem dX7_rewind_5 : decode cX7_rewind 5 = .ok (.aload_n 0, 1) := by decide +kernel
theorem dX7_rewind_6 : decode cX7_rewind 6 = .ok (.invokevirtual 31, 3) := by decide +kernel
theorem dX7_rewind_9 : decode cX7_rewind 9 = .ok (.return_, 1) := by decide +kernel
theorem dX7_byteAt_0 : decode cX7_byteAt 0 = .ok (.iload_n 1, 1) := by decide +kernel
theorem dX7_byteAt_1 : decode cX7_byteAt 1 = .ok (.ifCond .lt 27, 3) := by decide +kernel
theorem dX7_byteAt_4 : decode cX7_byteAt 4 = .ok (.iload_n 1, 1) := by decide +kernel
theorem dX7_byteAt_5 : decode cX7_byteAt 5 = .ok (.aload_n 0, 1) := by decide +kernel
theorem dX7_byteAt_6 : decode cX7_byteAt 6 = .ok (.getfield 15, 3) := by decide +kernel
theorem dX7_byteAt_9 : decode cX7_byteAt 9 = .ok (.if_icmp .ge 19, 3) := by decide +kernel
theorem dX7_byteAt_12 : decode cX7_byteAt 12 = .ok (.iload_n 1, 1) := by decide +kernel
theorem dX7_byteAt_13 : decode cX7_byteAt 13 = .ok (.sipush 300, 3) := by decide +kernel
theorem dX7_byteAt_16 : decode cX7_byteAt 16 = .ok (.if_icmp .ge 12, 3) := by decide +kernel
theorem dX7_byteAt_19 : decode cX7_byteAt 19 = .ok (.aload_n 0, 1) := by decide +kernel
theorem dX7_byteAt_20 : decode cX7_byteAt 20 = .ok (.getfield 9, 3) := by decide +kernel
theorem dX7_byteAt_23 : decode cX7_byteAt 23 = .ok (.iload_n 1, 1) := by decide +kernel
theorem dX7_byteAt_24 : decode cX7_byteAt 24 = .ok (.iaload, 1) := by decide +kernel
theorem dX7_byteAt_25 : decode cX7_byteAt 25 = .ok (.goto 4, 3) := by decide +kernel
theorem dX7_byteAt_28 : decode cX7_byteAt 28 = .ok (.iconst 0, 1) := by decide +kernel
theorem dX7_byteAt_29 : decode cX7_byteAt 29 = .ok (.ireturn, 1) := by decide +kernel
theorem dX7_advance_0 : decode cX7_advance 0 = .ok (.aload_n 0, 1) := by decide +kernel
theorem dX7_advance_1 : decode cX7_advance 1 = .ok (.getfield 28, 3) := by decide +kernel
theorem dX7_advance_4 : decode cX7_advance 4 = .ok (.aload_n 0, 1) := by decide +kernel
theorem dX7_advance_5 : decode cX7_advance 5 = .ok (.getfield 15, 3) := by decide +kernel
theorem dX7_advance_8 : decode cX7_advance 8 = .ok (.if_icmp .ge 30, 3) := by decide +kernel
theorem dX7_advance_11 : decode cX7_advance 11 = .ok (.aload_n 0, 1) := by decide +kernel
theorem dX7_advance_12 : decode cX7_advance 12 = .ok (.aload_n 0, 1) := by decide +kernel
theorem dX7_advance_13 : decode cX7_advance 13 = .ok (.getfield 28, 3) := by decide +kernel
theorem dX7_advance_16 : decode cX7_advance 16 = .ok (.invokevirtual 34, 3) := by decide +kernel
theorem dX7_advance_19 : decode cX7_advance 19 = .ok (.invokestatic 38, 3) := by decide +kernel
theorem dX7_advance_22 : decode cX7_advance 22 = .ok (.ifCond .eq 16, 3) := by decide +kernel
theorem dX7_advance_25 : decode cX7_advance 25 = .ok (.aload_n 0, 1) := by decide +kernel
theorem dX7_advance_26 : decode cX7_advance 26 = .ok (.dup, 1) := by decide +kernel
theorem dX7_advance_27 : decode cX7_advance 27 = .ok (.getfield 28, 3) := by decide +kernel
theorem dX7_advance_30 : decode cX7_advance 30 = .ok (.iconst 1, 1) := by decide +kernel
theorem dX7_advance_31 : decode cX7_advance 31 = .ok (.iadd, 1) := by decide +kernel
theorem dX7_advance_32 : decode cX7_advance 32 = .ok (.putfield 28, 3) := by decide +kernel
theorem dX7_advance_35 : decode cX7_advance 35 = .ok (.goto (-35), 3) := by decide +kernel
theorem dX7_advance_38 : decode cX7_advance 38 = .ok (.aload_n 0, 1) := by decide +kernel
theorem dX7_advance_39 : decode cX7_advance 39 = .ok (.aload_n 0, 1) := by decide +kernel
theorem dX7_advance_40 : decode cX7_advance 40 = .ok (.getfield 28, 3) := by decide +kernel
theorem dX7_advance_43 : decode cX7_advance 43 = .ok (.putfield 22, 3) := by decide +kernel
theorem dX7_advance_46 : decode cX7_advance 46 = .ok (.aload_n 0, 1) := by decide +kernel
theorem dX7_advance_47 : decode cX7_advance 47 = .ok (.aload_n 0, 1) := by decide +kernel
theorem dX7_advance_48 : decode cX7_advance 48 = .ok (.getfield 22, 3) := by decide +kernel
theorem dX7_advance_51 : decode cX7_advance 51 = .ok (.invokevirtual 34, 3) := by decide +kernel
theorem dX7_advance_54 : decode cX7_advance 54 = .ok (.istore_n 1, 1) := by decide +kernel
theorem dX7_advance_55 : decode cX7_advance 55 = .ok (.aload_n 0, 1) := by decide +kernel
theorem dX7_advance_56 : decode cX7_advance 56 = .ok (.getfield 22, 3) := by decide +kernel
theorem dX7_advance_59 : decode cX7_advance 59 = .ok (.aload_n 0, 1) := by decide +kernel
theorem dX7_advance_60 : decode cX7_advance 60 = .ok (.getfield 15, 3) := by decide +kernel
theorem dX7_advance_63 : decode cX7_advance 63 = .ok (.if_icmp .lt 11, 3) := by decide +kernel
theorem dX7_advance_66 : decode cX7_advance 66 = .ok (.aload_n 0, 1) := by decide +kernel
theorem dX7_advance_67 : decode cX7_advance 67 = .ok (.iconst 0, 1) := by decide +kernel
theorem dX7_advance_68 : decode cX7_advance 68 = .ok (.putfield 19, 3) := by decide +kernel
theorem dX7_advance_71 : decode cX7_advance 71 = .ok (.goto 36, 3) := by decide +kernel
theorem dX7_advance_74 : decode cX7_advance 74 = .ok (.iload_n 1, 1) := by decide +kernel
theorem dX7_advance_75 : decode cX7_advance 75 = .ok (.invokestatic 42, 3) := by decide +kernel
theorem dX7_advance_78 : decode cX7_advance 78 = .ok (.ifCond .eq 10, 3) := by decide +kernel
theorem dX7_advance_81 : decode cX7_advance 81 = .ok (.aload_n 0, 1) := by decide +kernel
theorem dX7_advance_82 : decode cX7_advance 82 = .ok (.invokevirtual 45, 3) := by decide +kernel
theorem dX7_advance_85 : decode cX7_advance 85 = .ok (.goto 22, 3) := by decide +kernel
theorem dX7_advance_88 : decode cX7_advance 88 = .ok (.iload_n 1, 1) := by decide +kernel
theorem dX7_advance_89 : decode cX7_advance 89 = .ok (.invokestatic 48, 3) := by decide +kernel
theorem dX7_advance_92 : decode cX7_advance 92 = .ok (.ifCond .eq 10, 3) := by decide +kernel
theorem dX7_advance_95 : decode cX7_advance 95 = .ok (.aload_n 0, 1) := by decide +kernel
theorem dX7_advance_96 : decode cX7_advance 96 = .ok (.invokevirtual 51, 3) := by decide +kernel
theorem dX7_advance_99 : decode cX7_advance 99 = .ok (.goto 8, 3) := by decide +kernel
theorem dX7_advance_102 : decode cX7_advance 102 = .ok (.aload_n 0, 1) := by decide +kernel
theorem dX7_advance_103 : decode cX7_advance 103 = .ok (.iload_n 1, 1) := by decide +kernel
theorem dX7_advance_104 : decode cX7_advance 104 = .ok (.invokevirtual 54, 3) := by decide +kernel
theorem dX7_advance_107 : decode cX7_advance 107 = .ok (.return_, 1) := by decide +kernel
theorem dX7_readWord_0 : decode cX7_readWord 0 = .ok (.aload_n 0, 1) := by decide +kernel
theorem dX7_readWord_1 : decode cX7_readWord 1 = .ok (.getfield 28, 3) := by decide +kernel
theorem dX7_readWord_4 : decode cX7_readWord 4 = .ok (.aload_n 0, 1) := by decide +kernel
theorem dX7_readWord_5 : decode cX7_readWord 5 = .ok (.getfield 15, 3) := by decide +kernel
theorem dX7_readWord_8 : decode cX7_readWord 8 = .ok (.if_icmp .ge 30, 3) := by decide +kernel
theorem dX7_readWord_11 : decode cX7_readWord 11 = .ok (.aload_n 0, 1) := by decide +kernel
theorem dX7_readWord_12 : decode cX7_readWord 12 = .ok (.aload_n 0, 1) := by decide +kernel
theorem dX7_readWord_13 : decode cX7_readWord 13 = .ok (.getfield 28, 3) := by decide +kernel
theorem dX7_readWord_16 : decode cX7_readWord 16 = .ok (.invokevirtual 34, 3) := by decide +kernel
theorem dX7_readWord_19 : decode cX7_readWord 19 = .ok (.invokestatic 42, 3) := by decide +kernel
theorem dX7_readWord_22 : decode cX7_readWord 22 = .ok (.ifCond .eq 16, 3) := by decide +kernel
theorem dX7_readWord_25 : decode cX7_readWord 25 = .ok (.aload_n 0, 1) := by decide +kernel
theorem dX7_readWord_26 : decode cX7_readWord 26 = .ok (.dup, 1) := by decide +kernel
theorem dX7_readWord_27 : decode cX7_readWord 27 = .ok (.getfield 28, 3) := by decide +kernel
theorem dX7_readWord_30 : decode cX7_readWord 30 = .ok (.iconst 1, 1) := by decide +kernel
theorem dX7_readWord_31 : decode cX7_readWord 31 = .ok (.iadd, 1) := by decide +kernel
theorem dX7_readWord_32 : decode cX7_readWord 32 = .ok (.putfield 28, 3) := by decide +kernel
theorem dX7_readWord_35 : decode cX7_readWord 35 = .ok (.goto (-35), 3) := by decide +kernel
theorem dX7_readWord_38 : decode cX7_readWord 38 = .ok (.aload_n 0, 1) := by decide +kernel
theorem dX7_readWord_39 : decode cX7_readWord 39 = .ok (.iconst 1, 1) := by decide +kernel
theorem dX7_readWord_40 : decode cX7_readWord 40 = .ok (.putfield 19, 3) := by decide +kernel
theorem dX7_readWord_43 : decode cX7_readWord 43 = .ok (.sipush 200, 3) := by decide +kernel
theorem dX7_readWord_46 : decode cX7_readWord 46 = .ok (.istore_n 1, 1) := by decide +kernel
theorem dX7_readWord_47 : decode cX7_readWord 47 = .ok (.iconst 0, 1) := by decide +kernel
theorem dX7_readWord_48 : decode cX7_readWord 48 = .ok (.istore_n 2, 1) := by decide +kernel
theorem dX7_readWord_49 : decode cX7_readWord 49 = .ok (.iconst 0, 1) := by decide +kernel
theorem dX7_readWord_50 : decode cX7_readWord 50 = .ok (.istore_n 3, 1) := by decide +kernel
theorem dX7_readWord_51 : decode cX7_readWord 51 = .ok (.iload_n 3, 1) := by decide +kernel
theorem dX7_readWord_52 : decode cX7_readWord 52 = .ok (.ldc 58, 2) := by decide +kernel
theorem dX7_readWord_54 : decode cX7_readWord 54 = .ok (.invokevirtual 60, 3) := by decide +kernel
theorem dX7_readWord_57 : decode cX7_readWord 57 = .ok (.if_icmp .ge 49, 3) := by decide +kernel
theorem dX7_readWord_60 : decode cX7_readWord 60 = .ok (.aload_n 0, 1) := by decide +kernel
theorem dX7_readWord_61 : decode cX7_readWord 61 = .ok (.getfield 19, 3) := by decide +kernel
theorem dX7_readWord_64 : decode cX7_readWord 64 = .ok (.iconst 1, 1) := by decide +kernel
theorem dX7_readWord_65 : decode cX7_readWord 65 = .ok (.if_icmp .ne 41, 3) := by decide +kernel
theorem dX7_readWord_68 : decode cX7_readWord 68 = .ok (.ldc 58, 2) := by decide +kernel
theorem dX7_readWord_70 : decode cX7_readWord 70 = .ok (.iload_n 3, 1) := by decide +kernel
theorem dX7_readWord_71 : decode cX7_readWord 71 = .ok (.invokevirtual 65, 3) := by decide +kernel
theorem dX7_readWord_74 : decode cX7_readWord 74 = .ok (.bipush 32, 2) := by decide +kernel
theorem dX7_readWord_76 : decode cX7_readWord 76 = .ok (.if_icmp .ne 24, 3) := by decide +kernel
theorem dX7_readWord_79 : decode cX7_readWord 79 = .ok (.aload_n 0, 1) := by decide +kernel
theorem dX7_readWord_80 : decode cX7_readWord 80 = .ok (.iload_n 2, 1) := by decide +kernel
theorem dX7_readWord_81 : decode cX7_readWord 81 = .ok (.iload_n 3, 1) := by decide +kernel
theorem dX7_readWord_82 : decode cX7_readWord 82 = .ok (.invokevirtual 69, 3) := by decide +kernel
theorem dX7_readWord_85 : decode cX7_readWord 85 = .ok (.ifCond .eq 8, 3) := by decide +kernel
theorem dX7_readWord_88 : decode cX7_readWord 88 = .ok (.aload_n 0, 1) := by decide +kernel
theorem dX7_readWord_89 : decode cX7_readWord 89 = .ok (.iload_n 1, 1) := by decide +kernel
theorem dX7_readWord_90 : decode cX7_readWord 90 = .ok (.putfield 19, 3) := by decide +kernel
theorem dX7_readWord_93 : decode cX7_readWord 93 = .ok (.iinc 1 1, 3) := by decide +kernel
theorem dX7_readWord_96 : decode cX7_readWord 96 = .ok (.iload_n 3, 1) := by decide +kernel
theorem dX7_readWord_97 : decode cX7_readWord 97 = .ok (.iconst 1, 1) := by decide +kernel
theorem dX7_readWord_98 : decode cX7_readWord 98 = .ok (.iadd, 1) := by decide +kernel
theorem dX7_readWord_99 : decode cX7_readWord 99 = .ok (.istore_n 2, 1) := by decide +kernel
theorem dX7_readWord_100 : decode cX7_readWord 100 = .ok (.iinc 3 1, 3) := by decide +kernel
theorem dX7_readWord_103 : decode cX7_readWord 103 = .ok (.goto (-52), 3) := by decide +kernel
theorem dX7_readWord_106 : decode cX7_readWord 106 = .ok (.return_, 1) := by decide +kernel
theorem dX7_spells_0 : decode cX7_spells 0 = .ok (.iload_n 2, 1) := by decide +kernel
theorem dX7_spells_1 : decode cX7_spells 1 = .ok (.iload_n 1, 1) := by decide +kernel
theorem dX7_spells_2 : decode cX7_spells 2 = .ok (.isub, 1) := by decide +kernel
theorem dX7_spells_3 : decode cX7_spells 3 = .ok (.istore_n 3, 1) := by decide +kernel
theorem dX7_spells_4 : decode cX7_spells 4 = .ok (.iload_n 3, 1) := by decide +kernel
theorem dX7_spells_5 : decode cX7_spells 5 = .ok (.aload_n 0, 1) := by decide +kernel
theorem dX7_spells_6 : decode cX7_spells 6 = .ok (.getfield 28, 3) := by decide +kernel
theorem dX7_spells_9 : decode cX7_spells 9 = .ok (.aload_n 0, 1) := by decide +kernel
theorem dX7_spells_10 : decode cX7_spells 10 = .ok (.getfield 22, 3) := by decide +kernel
theorem dX7_spells_13 : decode cX7_spells 13 = .ok (.isub, 1) := by decide +kernel
theorem dX7_spells_14 : decode cX7_spells 14 = .ok (.if_icmp .ne 33, 3) := by decide +kernel
theorem dX7_spells_17 : decode cX7_spells 17 = .ok (.iload_n 1, 1) := by decide +kernel
theorem dX7_spells_18 : decode cX7_spells 18 = .ok (.ifCond .lt 29, 3) := by decide +kernel
theorem dX7_spells_21 : decode cX7_spells 21 = .ok (.iload_n 2, 1) := by decide +kernel
theorem dX7_spells_22 : decode cX7_spells 22 = .ok (.ldc 58, 2) := by decide +kernel
theorem dX7_spells_24 : decode cX7_spells 24 = .ok (.invokevirtual 60, 3) := by decide +kernel
theorem dX7_spells_27 : decode cX7_spells 27 = .ok (.if_icmp .gt 20, 3) := by decide +kernel
theorem dX7_spells_30 : decode cX7_spells 30 = .ok (.aload_n 0, 1) := by decide +kernel
theorem dX7_spells_31 : decode cX7_spells 31 = .ok (.getfield 22, 3) := by decide +kernel
theorem dX7_spells_34 : decode cX7_spells 34 = .ok (.ifCond .lt 13, 3) := by decide +kernel
theorem dX7_spells_37 : decode cX7_spells 37 = .ok (.aload_n 0, 1) := by decide +kernel
theorem dX7_spells_38 : decode cX7_spells 38 = .ok (.getfield 28, 3) := by decide +kernel
theorem dX7_spells_41 : decode cX7_spells 41 = .ok (.sipush 300, 3) := by decide +kernel
theorem dX7_spells_44 : decode cX7_spells 44 = .ok (.if_icmp .le 5, 3) := by decide +kernel
theorem dX7_spells_47 : decode cX7_spells 47 = .ok (.iconst 0, 1) := by decide +kernel
theorem dX7_spells_48 : decode cX7_spells 48 = .ok (.ireturn, 1) := by decide +kernel
theorem dX7_spells_49 : decode cX7_spells 49 = .ok (.iconst 0, 1) := by decide +kernel
theorem dX7_spells_50 : decode cX7_spells 50 = .ok (.istore 4, 2) := by decide +kernel
theorem dX7_spells_52 : decode cX7_spells 52 = .ok (.iload 4, 2) := by decide +kernel
theorem dX7_spells_54 : decode cX7_spells 54 = .ok (.iload_n 3, 1) := by decide +kernel
theorem dX7_spells_55 : decode cX7_spells 55 = .ok (.if_icmp .ge 35, 3) := by decide +kernel
theorem dX7_spells_58 : decode cX7_spells 58 = .ok (.ldc 58, 2) := by decide +kernel
theorem dX7_spells_60 : decode cX7_spells 60 = .ok (.iload_n 1, 1) := by decide +kernel
theorem dX7_spells_61 : decode cX7_spells 61 = .ok (.iload 4, 2) := by decide +kernel
theorem dX7_spells_63 : decode cX7_spells 63 = .ok (.iadd, 1) := by decide +kernel
theorem dX7_spells_64 : decode cX7_spells 64 = .ok (.invokevirtual 65, 3) := by decide +kernel
theorem dX7_spells_67 : decode cX7_spells 67 = .ok (.aload_n 0, 1) := by decide +kernel
theorem dX7_spells_68 : decode cX7_spells 68 = .ok (.getfield 9, 3) := by decide +kernel
theorem dX7_spells_71 : decode cX7_spells 71 = .ok (.aload_n 0, 1) := by decide +kernel
theorem dX7_spells_72 : decode cX7_spells 72 = .ok (.getfield 22, 3) := by decide +kernel
theorem dX7_spells_75 : decode cX7_spells 75 = .ok (.iload 4, 2) := by decide +kernel
theorem dX7_spells_77 : decode cX7_spells 77 = .ok (.iadd, 1) := by decide +kernel
theorem dX7_spells_78 : decode cX7_spells 78 = .ok (.iaload, 1) := by decide +kernel
theorem dX7_spells_79 : decode cX7_spells 79 = .ok (.if_icmp .eq 5, 3) := by decide +kernel
theorem dX7_spells_82 : decode cX7_spells 82 = .ok (.iconst 0, 1) := by decide +kernel
theorem dX7_spells_83 : decode cX7_spells 83 = .ok (.ireturn, 1) := by decide +kernel
theorem dX7_spells_84 : decode cX7_spells 84 = .ok (.iinc 4 1, 3) := by decide +kernel
theorem dX7_spells_87 : decode cX7_spells 87 = .ok (.goto (-35), 3) := by decide +kernel
theorem dX7_spells_90 : decode cX7_spells 90 = .ok (.iconst 1, 1) := by decide +kernel
theorem dX7_spells_91 : decode cX7_spells 91 = .ok (.ireturn, 1) := by decide +kernel
theorem dX7_readNumber_0 : decode cX7_readNumber 0 = .ok (.aload_n 0, 1) := by decide +kernel
theorem dX7_readNumber_1 : decode cX7_readNumber 1 = .ok (.iconst 2, 1) := by decide +kernel
theorem dX7_readNumber_2 : decode cX7_readNumber 2 = .ok (.putfield 19, 3) := by decide +kernel
theorem dX7_readNumber_5 : decode cX7_readNumber 5 = .ok (.aload_n 0, 1) := by decide +kernel
theorem dX7_readNumber_6 : decode cX7_readNumber 6 = .ok (.iconst 0, 1) := by decide +kernel
theorem dX7_readNumber_7 : decode cX7_readNumber 7 = .ok (.putfield 25, 3) := by decide +kernel
theorem dX7_readNumber_10 : decode cX7_readNumber 10 = .ok (.aload_n 0, 1) := by decide +kernel
theorem dX7_readNumber_11 : decode cX7_readNumber 11 = .ok (.getfield 28, 3) := by decide +kernel
theorem dX7_readNumber_14 : decode cX7_readNumber 14 = .ok (.aload_n 0, 1) := by decide +kernel
theorem dX7_readNumber_15 : decode cX7_readNumber 15 = .ok (.getfield 15, 3) := by decide +kernel
theorem dX7_readNumber_18 : decode cX7_readNumber 18 = .ok (.if_icmp .ge 59, 3) := by decide +kernel
theorem dX7_readNumber_21 : decode cX7_readNumber 21 = .ok (.aload_n 0, 1) := by decide +kernel
theorem dX7_readNumber_22 : decode cX7_readNumber 22 = .ok (.aload_n 0, 1) := by decide +kernel
theorem dX7_readNumber_23 : decode cX7_readNumber 23 = .ok (.getfield 28, 3) := by decide +kernel
theorem dX7_readNumber_26 : decode cX7_readNumber 26 = .ok (.invokevirtual 34, 3) := by decide +kernel
theorem dX7_readNumber_29 : decode cX7_readNumber 29 = .ok (.invokestatic 48, 3) := by decide +kernel
theorem dX7_readNumber_32 : decode cX7_readNumber 32 = .ok (.ifCond .eq 45, 3) := by decide +kernel
theorem dX7_readNumber_35 : decode cX7_readNumber 35 = .ok (.aload_n 0, 1) := by decide +kernel
theorem dX7_readNumber_36 : decode cX7_readNumber 36 = .ok (.sipush 10000, 3) := by decide +kernel
theorem dX7_readNumber_39 : decode cX7_readNumber 39 = .ok (.aload_n 0, 1) := by decide +kernel
theorem dX7_readNumber_40 : decode cX7_readNumber 40 = .ok (.getfield 25, 3) := by decide +kernel
theorem dX7_readNumber_43 : decode cX7_readNumber 43 = .ok (.bipush 10, 2) := by decide +kernel
theorem dX7_readNumber_45 : decode cX7_readNumber 45 = .ok (.imul, 1) := by decide +kernel
theorem dX7_readNumber_46 : decode cX7_readNumber 46 = .ok (.aload_n 0, 1) := by decide +kernel
theorem dX7_readNumber_47 : decode cX7_readNumber 47 = .ok (.aload_n 0, 1) := by decide +kernel
theorem dX7_readNumber_48 : decode cX7_readNumber 48 = .ok (.getfield 28, 3) := by decide +kernel
theorem dX7_readNumber_51 : decode cX7_readNumber 51 = .ok (.invokevirtual 34, 3) := by decide +kernel
theorem dX7_readNumber_54 : decode cX7_readNumber 54 = .ok (.iadd, 1) := by decide +kernel
theorem dX7_readNumber_55 : decode cX7_readNumber 55 = .ok (.bipush 48, 2) := by decide +kernel
theorem dX7_readNumber_57 : decode cX7_readNumber 57 = .ok (.isub, 1) := by decide +kernel
theorem dX7_readNumber_58 : decode cX7_readNumber 58 = .ok (.invokestatic 73, 3) := by decide +kernel
theorem dX7_readNumber_61 : decode cX7_readNumber 61 = .ok (.putfield 25, 3) := by decide +kernel
theorem dX7_readNumber_64 : decode cX7_readNumber 64 = .ok (.aload_n 0, 1) := by decide +kernel
theorem dX7_readNumber_65 : decode cX7_readNumber 65 = .ok (.dup, 1) := by decide +kernel
theorem dX7_readNumber_66 : decode cX7_readNumber 66 = .ok (.getfield 28, 3) := by decide +kernel
theorem dX7_readNumber_69 : decode cX7_readNumber 69 = .ok (.iconst 1, 1) := by decide +kernel
theorem dX7_readNumber_70 : decode cX7_readNumber 70 = .ok (.iadd, 1) := by decide +kernel
theorem dX7_readNumber_71 : decode cX7_readNumber 71 = .ok (.putfield 28, 3) := by decide +kernel
theorem dX7_readNumber_74 : decode cX7_readNumber 74 = .ok (.goto (-64), 3) := by decide +kernel
theorem dX7_readNumber_77 : decode cX7_readNumber 77 = .ok (.return_, 1) := by decide +kernel
theorem dX7_readSign_0 : decode cX7_readSign 0 = .ok (.aload_n 0, 1) := by decide +kernel
theorem dX7_readSign_1 : decode cX7_readSign 1 = .ok (.dup, 1) := by decide +kernel
theorem dX7_readSign_2 : decode cX7_readSign 2 = .ok (.getfield 28, 3) := by decide +kernel
theorem dX7_readSign_5 : decode cX7_readSign 5 = .ok (.iconst 1, 1) := by decide +kernel
theorem dX7_readSign_6 : decode cX7_readSign 6 = .ok (.iadd, 1) := by decide +kernel
theorem dX7_readSign_7 : decode cX7_readSign 7 = .ok (.putfield 28, 3) := by decide +kernel
theorem dX7_readSign_10 : decode cX7_readSign 10 = .ok (.aload_n 0, 1) := by decide +kernel
theorem dX7_readSign_11 : decode cX7_readSign 11 = .ok (.iload_n 1, 1) := by decide +kernel
theorem dX7_readSign_12 : decode cX7_readSign 12 = .ok (.invokestatic 79, 3) := by decide +kernel
theorem dX7_readSign_15 : decode cX7_readSign 15 = .ok (.ifCond .eq 7, 3) := by decide +kernel
theorem dX7_readSign_18 : decode cX7_readSign 18 = .ok (.iload_n 1, 1) := by decide +kernel
theorem dX7_readSign_19 : decode cX7_readSign 19 = .ok (.goto 4, 3) := by decide +kernel
theorem dX7_readSign_22 : decode cX7_readSign 22 = .ok (.iconst 1, 1) := by decide +kernel
theorem dX7_readSign_23 : decode cX7_readSign 23 = .ok (.putfield 19, 3) := by decide +kernel
theorem dX7_readSign_26 : decode cX7_readSign 26 = .ok (.iload_n 1, 1) := by decide +kernel
theorem dX7_readSign_27 : decode cX7_readSign 27 = .ok (.bipush 60, 2) := by decide +kernel
theorem dX7_readSign_29 : decode cX7_readSign 29 = .ok (.if_icmp .eq 9, 3) := by decide +kernel
theorem dX7_readSign_32 : decode cX7_readSign 32 = .ok (.iload_n 1, 1) := by decide +kernel
theorem dX7_readSign_33 : decode cX7_readSign 33 = .ok (.bipush 62, 2) := by decide +kernel
theorem dX7_readSign_35 : decode cX7_readSign 35 = .ok (.if_icmp .ne 41, 3) := by decide +kernel
theorem dX7_readSign_38 : decode cX7_readSign 38 = .ok (.aload_n 0, 1) := by decide +kernel
theorem dX7_readSign_39 : decode cX7_readSign 39 = .ok (.aload_n 0, 1) := by decide +kernel
theorem dX7_readSign_40 : decode cX7_readSign 40 = .ok (.getfield 28, 3) := by decide +kernel
theorem dX7_readSign_43 : decode cX7_readSign 43 = .ok (.invokevirtual 34, 3) := by decide +kernel
theorem dX7_readSign_46 : decode cX7_readSign 46 = .ok (.bipush 61, 2) := by decide +kernel
theorem dX7_readSign_48 : decode cX7_readSign 48 = .ok (.if_icmp .ne 28, 3) := by decide +kernel
theorem dX7_readSign_51 : decode cX7_readSign 51 = .ok (.aload_n 0, 1) := by decide +kernel
theorem dX7_readSign_52 : decode cX7_readSign 52 = .ok (.dup, 1) := by decide +kernel
theorem dX7_readSign_53 : decode cX7_readSign 53 = .ok (.getfield 28, 3) := by decide +kernel
theorem dX7_readSign_56 : decode cX7_readSign 56 = .ok (.iconst 1, 1) := by decide +kernel
theorem dX7_readSign_57 : decode cX7_readSign 57 = .ok (.iadd, 1) := by decide +kernel
theorem dX7_readSign_58 : decode cX7_readSign 58 = .ok (.putfield 28, 3) := by decide +kernel
theorem dX7_readSign_61 : decode cX7_readSign 61 = .ok (.aload_n 0, 1) := by decide +kernel
theorem dX7_readSign_62 : decode cX7_readSign 62 = .ok (.iload_n 1, 1) := by decide +kernel
theorem dX7_readSign_63 : decode cX7_readSign 63 = .ok (.bipush 60, 2) := by decide +kernel
theorem dX7_readSign_65 : decode cX7_readSign 65 = .ok (.if_icmp .ne 7, 3) := by decide +kernel
theorem dX7_readSign_68 : decode cX7_readSign 68 = .ok (.iconst 3, 1) := by decide +kernel
theorem dX7_readSign_69 : decode cX7_readSign 69 = .ok (.goto 4, 3) := by decide +kernel
theorem dX7_readSign_72 : decode cX7_readSign 72 = .ok (.iconst 4, 1) := by decide +kernel
theorem dX7_readSign_73 : decode cX7_readSign 73 = .ok (.putfield 19, 3) := by decide +kernel
theorem dX7_readSign_76 : decode cX7_readSign 76 = .ok (.return_, 1) := by decide +kernel
theorem dX7_isSign_0 : decode cX7_isSign 0 = .ok (.iconst 0, 1) := by decide +kernel
theorem dX7_isSign_1 : decode cX7_isSign 1 = .ok (.istore_n 1, 1) := by decide +kernel
theorem dX7_isSign_2 : decode cX7_isSign 2 = .ok (.iload_n 1, 1) := by decide +kernel
theorem dX7_isSign_3 : decode cX7_isSign 3 = .ok (.ldc 82, 2) := by decide +kernel
theorem dX7_isSign_5 : decode cX7_isSign 5 = .ok (.invokevirtual 60, 3) := by decide +kernel
theorem dX7_isSign_8 : decode cX7_isSign 8 = .ok (.if_icmp .ge 21, 3) := by decide +kernel
theorem dX7_isSign_11 : decode cX7_isSign 11 = .ok (.ldc 82, 2) := by decide +kernel
theorem dX7_isSign_13 : decode cX7_isSign 13 = .ok (.iload_n 1, 1) := by decide +kernel
theorem dX7_isSign_14 : decode cX7_isSign 14 = .ok (.invokevirtual 65, 3) := by decide +kernel
theorem dX7_isSign_17 : decode cX7_isSign 17 = .ok (.iload_n 0, 1) := by decide +kernel
theorem dX7_isSign_18 : decode cX7_isSign 18 = .ok (.if_icmp .ne 5, 3) := by decide +kernel
theorem dX7_isSign_21 : decode cX7_isSign 21 = .ok (.iconst 1, 1) := by decide +kernel
theorem dX7_isSign_22 : decode cX7_isSign 22 = .ok (.ireturn, 1) := by decide +kernel
theorem dX7_isSign_23 : decode cX7_isSign 23 = .ok (.iinc 1 1, 3) := by decide +kernel
theorem dX7_isSign_26 : decode cX7_isSign 26 = .ok (.goto (-24), 3) := by decide +kernel
theorem dX7_isSign_29 : decode cX7_isSign 29 = .ok (.iconst 0, 1) := by decide +kernel
theorem dX7_isSign_30 : decode cX7_isSign 30 = .ok (.ireturn, 1) := by decide +kernel
theorem dX7_isBlank_0 : decode cX7_isBlank 0 = .ok (.iload_n 0, 1) := by decide +kernel
theorem dX7_isBlank_1 : decode cX7_isBlank 1 = .ok (.bipush 32, 2) := by decide +kernel
theorem dX7_isBlank_3 : decode cX7_isBlank 3 = .ok (.if_icmp .eq 9, 3) := by decide +kernel
theorem dX7_isBlank_6 : decode cX7_isBlank 6 = .ok (.iload_n 0, 1) := by decide +kernel
theorem dX7_isBlank_7 : decode cX7_isBlank 7 = .ok (.bipush 10, 2) := by decide +kernel
theorem dX7_isBlank_9 : decode cX7_isBlank 9 = .ok (.if_icmp .ne 7, 3) := by decide +kernel
theorem dX7_isBlank_12 : decode cX7_isBlank 12 = .ok (.iconst 1, 1) := by decide +kernel
theorem dX7_isBlank_13 : decode cX7_isBlank 13 = .ok (.goto 4, 3) := by decide +kernel
theorem dX7_isBlank_16 : decode cX7_isBlank 16 = .ok (.iconst 0, 1) := by decide +kernel
theorem dX7_isBlank_17 : decode cX7_isBlank 17 = .ok (.ireturn, 1) := by decide +kernel
theorem dX7_isLetter_0 : decode cX7_isLetter 0 = .ok (.iload_n 0, 1) := by decide +kernel
theorem dX7_isLetter_1 : decode cX7_isLetter 1 = .ok (.bipush 97, 2) := by decide +kernel
theorem dX7_isLetter_3 : decode cX7_isLetter 3 = .ok (.if_icmp .lt 9, 3) := by decide +kernel
theorem dX7_isLetter_6 : decode cX7_isLetter 6 = .ok (.iload_n 0, 1) := by decide +kernel
theorem dX7_isLetter_7 : decode cX7_isLetter 7 = .ok (.bipush 122, 2) := by decide +kernel
theorem dX7_isLetter_9 : decode cX7_isLetter 9 = .ok (.if_icmp .le 15, 3) := by decide +kernel
theorem dX7_isLetter_12 : decode cX7_isLetter 12 = .ok (.iload_n 0, 1) := by decide +kernel
theorem dX7_isLetter_13 : decode cX7_isLetter 13 = .ok (.bipush 65, 2) := by decide +kernel
theorem dX7_isLetter_15 : decode cX7_isLetter 15 = .ok (.if_icmp .lt 13, 3) := by decide +kernel
theorem dX7_isLetter_18 : decode cX7_isLetter 18 = .ok (.iload_n 0, 1) := by decide +kernel
theorem dX7_isLetter_19 : decode cX7_isLetter 19 = .ok (.bipush 90, 2) := by decide +kernel
theorem dX7_isLetter_21 : decode cX7_isLetter 21 = .ok (.if_icmp .gt 7, 3) := by decide +kernel
theorem dX7_isLetter_24 : decode cX7_isLetter 24 = .ok (.iconst 1, 1) := by decide +kernel
theorem dX7_isLetter_25 : decode cX7_isLetter 25 = .ok (.goto 4, 3) := by decide +kernel
theorem dX7_isLetter_28 : decode cX7_isLetter 28 = .ok (.iconst 0, 1) := by decide +kernel
theorem dX7_isLetter_29 : decode cX7_isLetter 29 = .ok (.ireturn, 1) := by decide +kernel
theorem dX7_isDigit_0 : decode cX7_isDigit 0 = .ok (.iload_n 0, 1) := by decide +kernel
theorem dX7_isDigit_1 : decode cX7_isDigit 1 = .ok (.bipush 48, 2) := by decide +kernel
theorem dX7_isDigit_3 : decode cX7_isDigit 3 = .ok (.if_icmp .lt 13, 3) := by decide +kernel
theorem dX7_isDigit_6 : decode cX7_isDigit 6 = .ok (.iload_n 0, 1) := by decide +kernel
theorem dX7_isDigit_7 : decode cX7_isDigit 7 = .ok (.bipush 57, 2) := by decide +kernel
theorem dX7_isDigit_9 : decode cX7_isDigit 9 = .ok (.if_icmp .gt 7, 3) := by decide +kernel
theorem dX7_isDigit_12 : decode cX7_isDigit 12 = .ok (.iconst 1, 1) := by decide +kernel
theorem dX7_isDigit_13 : decode cX7_isDigit 13 = .ok (.goto 4, 3) := by decide +kernel
theorem dX7_isDigit_16 : decode cX7_isDigit 16 = .ok (.iconst 0, 1) := by decide +kernel
theorem dX7_isDigit_17 : decode cX7_isDigit 17 = .ok (.ireturn, 1) := by decide +kernel
theorem dX8_init_0 : decode cX8_init 0 = .ok (.aload_n 0, 1) := by decide +kernel
theorem dX8_init_1 : decode cX8_init 1 = .ok (.invokespecial 1, 3) := by decide +kernel
theorem dX8_init_4 : decode cX8_init 4 = .ok (.aload_n 0, 1) := by decide +kernel
theorem dX8_init_5 : decode cX8_init 5 = .ok (.new 7, 3) := by decide +kernel
theorem dX8_init_8 : decode cX8_init 8 = .ok (.dup, 1) := by decide +kernel
theorem dX8_init_9 : decode cX8_init 9 = .ok (.invokespecial 9, 3) := by decide +kernel
theorem dX8_init_12 : decode cX8_init 12 = .ok (.putfield 10, 3) := by decide +kernel
theorem dX8_init_15 : decode cX8_init 15 = .ok (.aload_n 0, 1) := by decide +kernel
theorem dX8_init_16 : decode cX8_init 16 = .ok (.new 7, 3) := by decide +kernel
theorem dX8_init_19 : decode cX8_init 19 = .ok (.dup, 1) := by decide +kernel
theorem dX8_init_20 : decode cX8_init 20 = .ok (.invokespecial 9, 3) := by decide +kernel
theorem dX8_init_23 : decode cX8_init 23 = .ok (.putfield 16, 3) := by decide +kernel
theorem dX8_init_26 : decode cX8_init 26 = .ok (.aload_n 0, 1) := by decide +kernel
theorem dX8_init_27 : decode cX8_init 27 = .ok (.iconst 4, 1) := by decide +kernel
theorem dX8_init_28 : decode cX8_init 28 = .ok (.anewarray 19, 3) := by decide +kernel
theorem dX8_init_31 : decode cX8_init 31 = .ok (.putfield 21, 3) := by decide +kernel
theorem dX8_init_34 : decode cX8_init 34 = .ok (.aload_n 0, 1) := by decide +kernel
theorem dX8_init_35 : decode cX8_init 35 = .ok (.new 25, 3) := by decide +kernel
theorem dX8_init_38 : decode cX8_init 38 = .ok (.dup, 1) := by decide +kernel
theorem dX8_init_39 : decode cX8_init 39 = .ok (.aload_n 0, 1) := by decide +kernel
theorem dX8_init_40 : decode cX8_init 40 = .ok (.getfield 10, 3) := by decide +kernel
theorem dX8_init_43 : decode cX8_init 43 = .ok (.invokespecial 27, 3) := by decide +kernel
theorem dX8_init_46 : decode cX8_init 46 = .ok (.putfield 30, 3) := by decide +kernel
theorem dX8_init_49 : decode cX8_init 49 = .ok (.aload_n 0, 1) := by decide +kernel
theorem dX8_init_50 : decode cX8_init 50 = .ok (.new 34, 3) := by decide +kernel
theorem dX8_init_53 : decode cX8_init 53 = .ok (.dup, 1) := by decide +kernel
theorem dX8_init_54 : decode cX8_init 54 = .ok (.aload_n 0, 1) := by decide +kernel
theorem dX8_init_55 : decode cX8_init 55 = .ok (.getfield 10, 3) := by decide +kernel
theorem dX8_init_58 : decode cX8_init 58 = .ok (.aload_n 0, 1) := by decide +kernel
theorem dX8_init_59 : decode cX8_init 59 = .ok (.getfield 30, 3) := by decide +kernel
theorem dX8_init_62 : decode cX8_init 62 = .ok (.invokespecial 36, 3) := by decide +kernel
theorem dX8_init_65 : decode cX8_init 65 = .ok (.putfield 39, 3) := by decide +kernel
theorem dX8_init_68 : decode cX8_init 68 = .ok (.aload_n 0, 1) := by decide +kernel
theorem dX8_init_69 : decode cX8_init 69 = .ok (.new 43, 3) := by decide +kernel
theorem dX8_init_72 : decode cX8_init 72 = .ok (.dup, 1) := by decide +kernel
theorem dX8_init_73 : decode cX8_init 73 = .ok (.invokespecial 45, 3) := by decide +kernel
theorem dX8_init_76 : decode cX8_init 76 = .ok (.putfield 46, 3) := by decide +kernel
theorem dX8_init_79 : decode cX8_init 79 = .ok (.aload_n 0, 1) := by decide +kernel
theorem dX8_init_80 : decode cX8_init 80 = .ok (.new 50, 3) := by decide +kernel
theorem dX8_init_83 : decode cX8_init 83 = .ok (.dup, 1) := by decide +kernel
theorem dX8_init_84 : decode cX8_init 84 = .ok (.aload_n 0, 1) := by decide +kernel
theorem dX8_init_85 : decode cX8_init 85 = .ok (.getfield 46, 3) := by decide +kernel
theorem dX8_init_88 : decode cX8_init 88 = .ok (.invokespecial 52, 3) := by decide +kernel
theorem dX8_init_91 : decode cX8_init 91 = .ok (.putfield 55, 3) := by decide +kernel
theorem dX8_init_94 : decode cX8_init 94 = .ok (.iconst 0, 1) := by decide +kernel
theorem dX8_init_95 : decode cX8_init 95 = .ok (.istore_n 1, 1) := by decide +kernel
theorem dX8_init_96 : decode cX8_init 96 = .ok (.iload_n 1, 1) := by decide +kernel
theorem dX8_init_97 : decode cX8_init 97 = .ok (.iconst 4, 1) := by decide +kernel
theorem dX8_init_98 : decode cX8_init 98 = .ok (.if_icmp .ge 22, 3) := by decide +kernel
theorem dX8_init_101 : decode cX8_init 101 = .ok (.aload_n 0, 1) := by decide +kernel
theorem dX8_init_102 : decode cX8_init 102 = .ok (.getfield 21, 3) := by decide +kernel
theorem dX8_init_105 : decode cX8_init 105 = .ok (.iload_n 1, 1) := by decide +kernel
theorem dX8_init_106 : decode cX8_init 106 = .ok (.new 19, 3) := by decide +kernel
theorem dX8_init_109 : decode cX8_init 109 = .ok (.dup, 1) := by decide +kernel
theorem dX8_init_110 : decode cX8_init 110 = .ok (.invokespecial 59, 3) := by decide +kernel
theorem dX8_init_113 : decode cX8_init 113 = .ok (.aastore, 1) := by decide +kernel
theorem dX8_init_114 : decode cX8_init 114 = .ok (.iinc 1 1, 3) := by decide +kernel
theorem dX8_init_117 : decode cX8_init 117 = .ok (.goto (-21), 3) := by decide +kernel
theorem dX8_init_120 : decode cX8_init 120 = .ok (.return_, 1) := by decide +kernel
theorem dX8_sister_0 : decode cX8_sister 0 = .ok (.iload_n 1, 1) := by decide +kernel
theorem dX8_sister_1 : decode cX8_sister 1 = .ok (.ifCond .lt 9, 3) := by decide +kernel
theorem dX8_sister_4 : decode cX8_sister 4 = .ok (.iload_n 1, 1) := by decide +kernel
theorem dX8_sister_5 : decode cX8_sister 5 = .ok (.bipush 9, 2) := by decide +kernel
theorem dX8_sister_7 : decode cX8_sister 7 = .ok (.if_icmp .le 5, 3) := by decide +kernel
theorem dX8_sister_10 : decode cX8_sister 10 = .ok (.iconst (-1), 1) := by decide +kernel
theorem dX8_sister_11 : decode cX8_sister 11 = .ok (.ireturn, 1) := by decide +kernel
theorem dX8_sister_12 : decode cX8_sister 12 = .ok (.aload_n 0, 1) := by decide +kernel
theorem dX8_sister_13 : decode cX8_sister 13 = .ok (.getfield 10, 3) := by decide +kernel
theorem dX8_sister_16 : decode cX8_sister 16 = .ok (.iload_n 1, 1) := by decide +kernel
theorem dX8_sister_17 : decode cX8_sister 17 = .ok (.invokevirtual 60, 3) := by decide +kernel
theorem dX8_sister_20 : decode cX8_sister 20 = .ok (.ireturn, 1) := by decide +kernel
theorem dX8_mice_0 : decode cX8_mice 0 = .ok (.iload_n 1, 1) := by decide +kernel
theorem dX8_mice_1 : decode cX8_mice 1 = .ok (.ifCond .lt 9, 3) := by decide +kernel
theorem dX8_mice_4 : decode cX8_mice 4 = .ok (.iload_n 1, 1) := by decide +kernel
theorem dX8_mice_5 : decode cX8_mice 5 = .ok (.bipush 10, 2) := by decide +kernel
theorem dX8_mice_7 : decode cX8_mice 7 = .ok (.if_icmp .le 5, 3) := by decide +kernel
theorem dX8_mice_10 : decode cX8_mice 10 = .ok (.iconst 0, 1) := by decide +kernel
theorem dX8_mice_11 : decode cX8_mice 11 = .ok (.ireturn, 1) := by decide +kernel
theorem dX8_mice_12 : decode cX8_mice 12 = .ok (.aload_n 0, 1) := by decide +kernel
theorem dX8_mice_13 : decode cX8_mice 13 = .ok (.getfield 10, 3) := by decide +kernel
theorem dX8_mice_16 : decode cX8_mice 16 = .ok (.iload_n 1, 1) := by decide +kernel
theorem dX8_mice_17 : decode cX8_mice 17 = .ok (.putfield 64, 3) := by decide +kernel
theorem dX8_mice_20 : decode cX8_mice 20 = .ok (.iconst 1, 1) := by decide +kernel
theorem dX8_mice_21 : decode cX8_mice 21 = .ok (.ireturn, 1) := by decide +kernel
theorem dX8_seed_0 : decode cX8_seed 0 = .ok (.iload_n 1, 1) := by decide +kernel
theorem dX8_seed_1 : decode cX8_seed 1 = .ok (.ifCond .lt 10, 3) := by decide +kernel
theorem dX8_seed_4 : decode cX8_seed 4 = .ok (.iload_n 1, 1) := by decide +kernel
theorem dX8_seed_5 : decode cX8_seed 5 = .ok (.sipush 9999, 3) := by decide +kernel
theorem dX8_seed_8 : decode cX8_seed 8 = .ok (.if_icmp .le 5, 3) := by decide +kernel
theorem dX8_seed_11 : decode cX8_seed 11 = .ok (.iconst 0, 1) := by decide +kernel
theorem dX8_seed_12 : decode cX8_seed 12 = .ok (.ireturn, 1) := by decide +kernel
theorem dX8_seed_13 : decode cX8_seed 13 = .ok (.aload_n 0, 1) := by decide +kernel
theorem dX8_seed_14 : decode cX8_seed 14 = .ok (.getfield 10, 3) := by decide +kernel
theorem dX8_seed_17 : decode cX8_seed 17 = .ok (.bipush 13, 2) := by decide +kernel
theorem dX8_seed_19 : decode cX8_seed 19 = .ok (.iload_n 1, 1) := by decide +kernel
theorem dX8_seed_20 : decode cX8_seed 20 = .ok (.iconst 3, 1) := by decide +kernel
theorem dX8_seed_21 : decode cX8_seed 21 = .ok (.imul, 1) := by decide +kernel
theorem dX8_seed_22 : decode cX8_seed 22 = .ok (.bipush 11, 2) := by decide +kernel
theorem dX8_seed_24 : decode cX8_seed 24 = .ok (.iadd, 1) := by decide +kernel
theorem dX8_seed_25 : decode cX8_seed 25 = .ok (.invokevirtual 68, 3) := by decide +kernel
theorem dX8_seed_28 : decode cX8_seed 28 = .ok (.iconst 1, 1) := by decide +kernel
theorem dX8_seed_29 : decode cX8_seed 29 = .ok (.ireturn, 1) := by decide +kernel
theorem dX8_feed_0 : decode cX8_feed 0 = .ok (.aload_n 0, 1) := by decide +kernel
theorem dX8_feed_1 : decode cX8_feed 1 = .ok (.getfield 46, 3) := by decide +kernel
theorem dX8_feed_4 : decode cX8_feed 4 = .ok (.getfield 72, 3) := by decide +kernel
theorem dX8_feed_7 : decode cX8_feed 7 = .ok (.bipush 20, 2) := by decide +kernel
theorem dX8_feed_9 : decode cX8_feed 9 = .ok (.iadd, 1) := by decide +kernel
theorem dX8_feed_10 : decode cX8_feed 10 = .ok (.sipush 300, 3) := by decide +kernel
theorem dX8_feed_13 : decode cX8_feed 13 = .ok (.if_icmp .le 5, 3) := by decide +kernel
theorem dX8_feed_16 : decode cX8_feed 16 = .ok (.iconst (-1), 1) := by decide +kernel
theorem dX8_feed_17 : decode cX8_feed 17 = .ok (.ireturn, 1) := by decide +kernel
theorem dX8_feed_18 : decode cX8_feed 18 = .ok (.aload_n 0, 1) := by decide +kernel
theorem dX8_feed_19 : decode cX8_feed 19 = .ok (.getfield 46, 3) := by decide +kernel
theorem dX8_feed_22 : decode cX8_feed 22 = .ok (.iload_n 1, 1) := by decide +kernel
theorem dX8_feed_23 : decode cX8_feed 23 = .ok (.invokevirtual 75, 3) := by decide +kernel
theorem dX8_feed_26 : decode cX8_feed 26 = .ok (.aload_n 0, 1) := by decide +kernel
theorem dX8_feed_27 : decode cX8_feed 27 = .ok (.getfield 46, 3) := by decide +kernel
theorem dX8_feed_30 : decode cX8_feed 30 = .ok (.iload_n 2, 1) := by decide +kernel
theorem dX8_feed_31 : decode cX8_feed 31 = .ok (.invokevirtual 75, 3) := by decide +kernel
theorem dX8_feed_34 : decode cX8_feed 34 = .ok (.aload_n 0, 1) := by decide +kernel
theorem dX8_feed_35 : decode cX8_feed 35 = .ok (.getfield 46, 3) := by decide +kernel
theorem dX8_feed_38 : decode cX8_feed 38 = .ok (.iload_n 3, 1) := by decide +kernel
theorem dX8_feed_39 : decode cX8_feed 39 = .ok (.invokevirtual 75, 3) := by decide +kernel
theorem dX8_feed_42 : decode cX8_feed 42 = .ok (.aload_n 0, 1) := by decide +kernel
theorem dX8_feed_43 : decode cX8_feed 43 = .ok (.getfield 46, 3) := by decide +kernel
theorem dX8_feed_46 : decode cX8_feed 46 = .ok (.iload 4, 2) := by decide +kernel
theorem dX8_feed_48 : decode cX8_feed 48 = .ok (.invokevirtual 75, 3) := by decide +kernel
theorem dX8_feed_51 : decode cX8_feed 51 = .ok (.aload_n 0, 1) := by decide +kernel
theorem dX8_feed_52 : decode cX8_feed 52 = .ok (.getfield 46, 3) := by decide +kernel
theorem dX8_feed_55 : decode cX8_feed 55 = .ok (.iload 5, 2) := by decide +kernel
theorem dX8_feed_57 : decode cX8_feed 57 = .ok (.invokevirtual 75, 3) := by decide +kernel
theorem dX8_feed_60 : decode cX8_feed 60 = .ok (.aload_n 0, 1) := by decide +kernel
theorem dX8_feed_61 : decode cX8_feed 61 = .ok (.getfield 46, 3) := by decide +kernel
theorem dX8_feed_64 : decode cX8_feed 64 = .ok (.getfield 72, 3) := by decide +kernel
theorem dX8_feed_67 : decode cX8_feed 67 = .ok (.ireturn, 1) := by decide +kernel
theorem dX8_end_0 : decode cX8_end 0 = .ok (.iload_n 1, 1) := by decide +kernel
theorem dX8_end_1 : decode cX8_end 1 = .ok (.ifCond .lt 14, 3) := by decide +kernel
theorem dX8_end_4 : decode cX8_end 4 = .ok (.iload_n 1, 1) := by decide +kernel
theorem dX8_end_5 : decode cX8_end 5 = .ok (.aload_n 0, 1) := by decide +kernel
theorem dX8_end_6 : decode cX8_end 6 = .ok (.getfield 46, 3) := by decide +kernel
theorem dX8_end_9 : decode cX8_end 9 = .ok (.getfield 72, 3) := by decide +kernel
theorem dX8_end_12 : decode cX8_end 12 = .ok (.if_icmp .le 5, 3) := by decide +kernel
theorem dX8_end_15 : decode cX8_end 15 = .ok (.iconst (-1), 1) := by decide +kernel
theorem dX8_end_16 : decode cX8_end 16 = .ok (.ireturn, 1) := by decide +kernel
theorem dX8_end_17 : decode cX8_end 17 = .ok (.aload_n 0, 1) := by decide +kernel
theorem dX8_end_18 : decode cX8_end 18 = .ok (.getfield 46, 3) := by decide +kernel
theorem dX8_end_21 : decode cX8_end 21 = .ok (.iload_n 1, 1) := by decide +kernel
theorem dX8_end_22 : decode cX8_end 22 = .ok (.putfield 72, 3) := by decide +kernel
theorem dX8_end_25 : decode cX8_end 25 = .ok (.iload_n 1, 1) := by decide +kernel
theorem dX8_end_26 : decode cX8_end 26 = .ok (.ireturn, 1) := by decide +kernel
theorem dX8_text_0 : decode cX8_text 0 = .ok (.aload_n 0, 1) := by decide +kernel
theorem dX8_text_1 : decode cX8_text 1 = .ok (.aload_n 0, 1) := by decide +kernel
theorem dX8_text_2 : decode cX8_text 2 = .ok (.getfield 10, 3) := by decide +kernel
theorem dX8_text_5 : decode cX8_text 5 = .ok (.getfield 79, 3) := by decide +kernel
theorem dX8_text_8 : decode cX8_text 8 = .ok (.invokevirtual 81, 3) := by decide +kernel
theorem dX8_text_11 : decode cX8_text 11 = .ok (.astore_n 1, 1) := by decide +kernel
theorem dX8_text_12 : decode cX8_text 12 = .ok (.aload_n 1, 1) := by decide +kernel
theorem dX8_text_13 : decode cX8_text 13 = .ok (.ifnonnull 5, 3) := by decide +kernel
theorem dX8_text_16 : decode cX8_text 16 = .ok (.iconst (-1), 1) := by decide +kernel
theorem dX8_text_17 : decode cX8_text 17 = .ok (.ireturn, 1) := by decide +kernel
theorem dX8_text_18 : decode cX8_text 18 = .ok (.aload_n 0, 1) := by decide +kernel
theorem dX8_text_19 : decode cX8_text 19 = .ok (.getfield 55, 3) := by decide +kernel
theorem dX8_text_22 : decode cX8_text 22 = .ok (.aload_n 1, 1) := by decide +kernel
theorem dX8_text_23 : decode cX8_text 23 = .ok (.invokevirtual 85, 3) := by decide +kernel
theorem dX8_text_26 : decode cX8_text 26 = .ok (.istore_n 2, 1) := by decide +kernel
theorem dX8_text_27 : decode cX8_text 27 = .ok (.aload_n 0, 1) := by decide +kernel
theorem dX8_text_28 : decode cX8_text 28 = .ok (.getfield 46, 3) := by decide +kernel
theorem dX8_text_31 : decode cX8_text 31 = .ok (.iconst 0, 1) := by decide +kernel
theorem dX8_text_32 : decode cX8_text 32 = .ok (.putfield 72, 3) := by decide +kernel
theorem dX8_text_35 : decode cX8_text 35 = .ok (.iload_n 2, 1) := by decide +kernel
theorem dX8_text_36 : decode cX8_text 36 = .ok (.ifCond .ne 5, 3) := by decide +kernel
theorem dX8_text_39 : decode cX8_text 39 = .ok (.iconst (-1), 1) := by decide +kernel
theorem dX8_text_40 : decode cX8_text 40 = .ok (.ireturn, 1) := by decide +kernel
theorem dX8_text_41 : decode cX8_text 41 = .ok (.aload_n 0, 1) := by decide +kernel
theorem dX8_text_42 : decode cX8_text 42 = .ok (.getfield 10, 3) := by decide +kernel
theorem dX8_text_45 : decode cX8_text 45 = .ok (.dup, 1) := by decide +kernel
theorem dX8_text_46 : decode cX8_text 46 = .ok (.getfield 79, 3) := by decide +kernel
theorem dX8_text_49 : decode cX8_text 49 = .ok (.iconst 1, 1) := by decide +kernel
theorem dX8_text_50 : decode cX8_text 50 = .ok (.iadd, 1) := by decide +kernel
theorem dX8_text_51 : decode cX8_text 51 = .ok (.putfield 79, 3) := by decide +kernel
theorem dX8_text_54 : decode cX8_text 54 = .ok (.aload_n 0, 1) := by decide +kernel
theorem dX8_text_55 : decode cX8_text 55 = .ok (.getfield 10, 3) := by decide +kernel
theorem dX8_text_58 : decode cX8_text 58 = .ok (.getfield 79, 3) := by decide +kernel
theorem dX8_text_61 : decode cX8_text 61 = .ok (.iconst 1, 1) := by decide +kernel
theorem dX8_text_62 : decode cX8_text 62 = .ok (.isub, 1) := by decide +kernel
theorem dX8_text_63 : decode cX8_text 63 = .ok (.ireturn, 1) := by decide +kernel
theorem dX8_fault_0 : decode cX8_fault 0 = .ok (.aload_n 0, 1) := by decide +kernel
theorem dX8_fault_1 : decode cX8_fault 1 = .ok (.getfield 55, 3) := by decide +kernel
theorem dX8_fault_4 : decode cX8_fault 4 = .ok (.getfield 89, 3) := by decide +kernel
theorem dX8_fault_7 : decode cX8_fault 7 = .ok (.ifCond .ne 5, 3) := by decide +kernel
theorem dX8_fault_10 : decode cX8_fault 10 = .ok (.iconst (-1), 1) := by decide +kernel
theorem dX8_fault_11 : decode cX8_fault 11 = .ok (.ireturn, 1) := by decide +kernel
theorem dX8_fault_12 : decode cX8_fault 12 = .ok (.iload_n 1, 1) := by decide +kernel
theorem dX8_fault_13 : decode cX8_fault 13 = .ok (.ifCond .ne 11, 3) := by decide +kernel
theorem dX8_fault_16 : decode cX8_fault 16 = .ok (.aload_n 0, 1) := by decide +kernel
theorem dX8_fault_17 : decode cX8_fault 17 = .ok (.getfield 55, 3) := by decide +kernel
theorem dX8_fault_20 : decode cX8_fault 20 = .ok (.getfield 93, 3) := by decide +kernel
theorem dX8_fault_23 : decode cX8_fault 23 = .ok (.ireturn, 1) := by decide +kernel
theorem dX8_fault_24 : decode cX8_fault 24 = .ok (.iload_n 1, 1) := by decide +kernel
theorem dX8_fault_25 : decode cX8_fault 25 = .ok (.iconst 1, 1) := by decide +kernel
theorem dX8_fault_26 : decode cX8_fault 26 = .ok (.if_icmp .ne 13, 3) := by decide +kernel
theorem dX8_fault_29 : decode cX8_fault 29 = .ok (.aload_n 0, 1) := by decide +kernel
theorem dX8_fault_30 : decode cX8_fault 30 = .ok (.getfield 55, 3) := by decide +kernel
theorem dX8_fault_33 : decode cX8_fault 33 = .ok (.getfield 96, 3) := by decide +kernel
theorem dX8_fault_36 : decode cX8_fault 36 = .ok (.goto 4, 3) := by decide +kernel
theorem dX8_fault_39 : decode cX8_fault 39 = .ok (.iconst (-1), 1) := by decide +kernel
theorem dX8_fault_40 : decode cX8_fault 40 = .ok (.ireturn, 1) := by decide +kernel
theorem dX8_by_0 : decode cX8_by 0 = .ok (.iload_n 1, 1) := by decide +kernel
theorem dX8_by_1 : decode cX8_by 1 = .ok (.iconst (-1), 1) := by decide +kernel
theorem dX8_by_2 : decode cX8_by 2 = .ok (.if_icmp .lt 14, 3) := by decide +kernel
theorem dX8_by_5 : decode cX8_by 5 = .ok (.iload_n 1, 1) := by decide +kernel
theorem dX8_by_6 : decode cX8_by 6 = .ok (.aload_n 0, 1) := by decide +kernel
theorem dX8_by_7 : decode cX8_by 7 = .ok (.getfield 10, 3) := by decide +kernel
theorem dX8_by_10 : decode cX8_by 10 = .ok (.getfield 79, 3) := by decide +kernel
theorem dX8_by_13 : decode cX8_by 13 = .ok (.if_icmp .lt 5, 3) := by decide +kernel
theorem dX8_by_16 : decode cX8_by 16 = .ok (.iconst 0, 1) := by decide +kernel
theorem dX8_by_17 : decode cX8_by 17 = .ok (.ireturn, 1) := by decide +kernel
theorem dX8_by_18 : decode cX8_by 18 = .ok (.aload_n 0, 1) := by decide +kernel
theorem dX8_by_19 : decode cX8_by 19 = .ok (.getfield 10, 3) := by decide +kernel
theorem dX8_by_22 : decode cX8_by 22 = .ok (.iload_n 1, 1) := by decide +kernel
theorem dX8_by_23 : decode cX8_by 23 = .ok (.putfield 99, 3) := by decide +kernel
theorem dX8_by_26 : decode cX8_by 26 = .ok (.aload_n 0, 1) := by decide +kernel
theorem dX8_by_27 : decode cX8_by 27 = .ok (.getfield 30, 3) := by decide +kernel
theorem dX8_by_30 : decode cX8_by 30 = .ok (.aload_n 0, 1) := by decide +kernel
theorem dX8_by_31 : decode cX8_by 31 = .ok (.iload_n 1, 1) := by decide +kernel
theorem dX8_by_32 : decode cX8_by 32 = .ok (.invokevirtual 81, 3) := by decide +kernel
theorem dX8_by_35 : decode cX8_by 35 = .ok (.putfield 102, 3) := by decide +kernel
theorem dX8_by_38 : decode cX8_by 38 = .ok (.iconst 1, 1) := by decide +kernel
theorem dX8_by_39 : decode cX8_by 39 = .ok (.ireturn, 1) := by decide +kernel
theorem dX8_slices_0 : decode cX8_slices 0 = .ok (.iload_n 1, 1) := by decide +kernel
theorem dX8_slices_1 : decode cX8_slices 1 = .ok (.invokestatic 106, 3) := by decide +kernel
theorem dX8_slices_4 : decode cX8_slices 4 = .ok (.ifCond .eq 10, 3) := by decide +kernel
theorem dX8_slices_7 : decode cX8_slices 7 = .ok (.iload_n 2, 1) := by decide +kernel
theorem dX8_slices_8 : decode cX8_slices 8 = .ok (.invokestatic 110, 3) := by decide +kernel
theorem dX8_slices_11 : decode cX8_slices 11 = .ok (.ifCond .ne 5, 3) := by decide +kernel
theorem dX8_slices_14 : decode cX8_slices 14 = .ok (.iconst (-1), 1) := by decide +kernel
theorem dX8_slices_15 : decode cX8_slices 15 = .ok (.ireturn, 1) := by decide +kernel
theorem dX8_slices_16 : decode cX8_slices 16 = .ok (.aload_n 0, 1) := by decide +kernel
theorem dX8_slices_17 : decode cX8_slices 17 = .ok (.getfield 30, 3) := by decide +kernel
theorem dX8_slices_20 : decode cX8_slices 20 = .ok (.iload_n 1, 1) := by decide +kernel
theorem dX8_slices_21 : decode cX8_slices 21 = .ok (.iload_n 2, 1) := by decide +kernel
theorem dX8_slices_22 : decode cX8_slices 22 = .ok (.aload_n 0, 1) := by decide +kernel
theorem dX8_slices_23 : decode cX8_slices 23 = .ok (.getfield 10, 3) := by decide +kernel
theorem dX8_slices_26 : decode cX8_slices 26 = .ok (.bipush 12, 2) := by decide +kernel
theorem dX8_slices_28 : decode cX8_slices 28 = .ok (.invokevirtual 113, 3) := by decide +kernel
theorem dX8_slices_31 : decode cX8_slices 31 = .ok (.invokevirtual 116, 3) := by decide +kernel
theorem dX8_slices_34 : decode cX8_slices 34 = .ok (.ireturn, 1) := by decide +kernel
theorem dX8_seat_0 : decode cX8_seat 0 = .ok (.aload_n 0, 1) := by decide +kernel
theorem dX8_seat_1 : decode cX8_seat 1 = .ok (.iload_n 1, 1) := by decide +kernel
theorem dX8_seat_2 : decode cX8_seat 2 = .ok (.invokevirtual 120, 3) := by decide +kernel
theorem dX8_seat_5 : decode cX8_seat 5 = .ok (.ifCond .eq 24, 3) := by decide +kernel
theorem dX8_seat_8 : decode cX8_seat 8 = .ok (.iload_n 2, 1) := by decide +kernel
theorem dX8_seat_9 : decode cX8_seat 9 = .ok (.ifCond .lt 20, 3) := by decide +kernel
theorem dX8_seat_12 : decode cX8_seat 12 = .ok (.iload_n 2, 1) := by decide +kernel
theorem dX8_seat_13 : decode cX8_seat 13 = .ok (.iconst 2, 1) := by decide +kernel
theorem dX8_seat_14 : decode cX8_seat 14 = .ok (.if_icmp .gt 15, 3) := by decide +kernel
theorem dX8_seat_17 : decode cX8_seat 17 = .ok (.aload_n 0, 1) := by decide +kernel
theorem dX8_seat_18 : decode cX8_seat 18 = .ok (.getfield 10, 3) := by decide +kernel
theorem dX8_seat_21 : decode cX8_seat 21 = .ok (.iload_n 1, 1) := by decide +kernel
theorem dX8_seat_22 : decode cX8_seat 22 = .ok (.invokevirtual 123, 3) := by decide +kernel
theorem dX8_seat_25 : decode cX8_seat 25 = .ok (.iload_n 2, 1) := by decide +kernel
theorem dX8_seat_26 : decode cX8_seat 26 = .ok (.if_icmp .ne 5, 3) := by decide +kernel
theorem dX8_seat_29 : decode cX8_seat 29 = .ok (.iconst 0, 1) := by decide +kernel
theorem dX8_seat_30 : decode cX8_seat 30 = .ok (.ireturn, 1) := by decide +kernel
theorem dX8_seat_31 : decode cX8_seat 31 = .ok (.aload_n 0, 1) := by decide +kernel
theorem dX8_seat_32 : decode cX8_seat 32 = .ok (.getfield 10, 3) := by decide +kernel
theorem dX8_seat_35 : decode cX8_seat 35 = .ok (.invokevirtual 126, 3) := by decide +kernel
theorem dX8_seat_38 : decode cX8_seat 38 = .ok (.aload_n 0, 1) := by decide +kernel
theorem dX8_seat_39 : decode cX8_seat 39 = .ok (.getfield 10, 3) := by decide +kernel
theorem dX8_seat_42 : decode cX8_seat 42 = .ok (.bipush 6, 2) := by decide +kernel
theorem dX8_seat_44 : decode cX8_seat 44 = .ok (.iload_n 1, 1) := by decide +kernel
theorem dX8_seat_45 : decode cX8_seat 45 = .ok (.iadd, 1) := by decide +kernel
theorem dX8_seat_46 : decode cX8_seat 46 = .ok (.iload_n 2, 1) := by decide +kernel
theorem dX8_seat_47 : decode cX8_seat 47 = .ok (.invokevirtual 68, 3) := by decide +kernel
theorem dX8_seat_50 : decode cX8_seat 50 = .ok (.iconst 1, 1) := by decide +kernel
theorem dX8_seat_51 : decode cX8_seat 51 = .ok (.ireturn, 1) := by decide +kernel
theorem dX8_hide_0 : decode cX8_hide 0 = .ok (.iload_n 1, 1) := by decide +kernel
theorem dX8_hide_1 : decode cX8_hide 1 = .ok (.invokestatic 106, 3) := by decide +kernel
theorem dX8_hide_4 : decode cX8_hide 4 = .ok (.ifCond .eq 19, 3) := by decide +kernel
theorem dX8_hide_7 : decode cX8_hide 7 = .ok (.aload_n 0, 1) := by decide +kernel
theorem dX8_hide_8 : decode cX8_hide 8 = .ok (.iload_n 1, 1) := by decide +kernel
theorem dX8_hide_9 : decode cX8_hide 9 = .ok (.invokestatic 129, 3) := by decide +kernel
theorem dX8_hide_12 : decode cX8_hide 12 = .ok (.iload_n 1, 1) := by decide +kernel
theorem dX8_hide_13 : decode cX8_hide 13 = .ok (.invokestatic 132, 3) := by decide +kernel
theorem dX8_hide_16 : decode cX8_hide 16 = .ok (.iload_n 2, 1) := by decide +kernel
theorem dX8_hide_17 : decode cX8_hide 17 = .ok (.invokevirtual 135, 3) := by decide +kernel
theorem dX8_hide_20 : decode cX8_hide 20 = .ok (.ifCond .ne 5, 3) := by decide +kernel
theorem dX8_hide_23 : decode cX8_hide 23 = .ok (.iconst (-1), 1) := by decide +kernel
theorem dX8_hide_24 : decode cX8_hide 24 = .ok (.ireturn, 1) := by decide +kernel
theorem dX8_hide_25 : decode cX8_hide 25 = .ok (.aload_n 0, 1) := by decide +kernel
theorem dX8_hide_26 : decode cX8_hide 26 = .ok (.getfield 10, 3) := by decide +kernel
theorem dX8_hide_29 : decode cX8_hide 29 = .ok (.iload_n 1, 1) := by decide +kernel
theorem dX8_hide_30 : decode cX8_hide 30 = .ok (.invokestatic 129, 3) := by decide +kernel
theorem dX8_hide_33 : decode cX8_hide 33 = .ok (.invokevirtual 113, 3) := by decide +kernel
theorem dX8_hide_36 : decode cX8_hide 36 = .ok (.ireturn, 1) := by decide +kernel
theorem dX8_give_0 : decode cX8_give 0 = .ok (.iload_n 1, 1) := by decide +kernel
theorem dX8_give_1 : decode cX8_give 1 = .ok (.invokestatic 106, 3) := by decide +kernel
theorem dX8_give_4 : decode cX8_give 4 = .ok (.ifCond .eq 19, 3) := by decide +kernel
theorem dX8_give_7 : decode cX8_give 7 = .ok (.aload_n 0, 1) := by decide +kernel
theorem dX8_give_8 : decode cX8_give 8 = .ok (.iload_n 1, 1) := by decide +kernel
theorem dX8_give_9 : decode cX8_give 9 = .ok (.invokestatic 132, 3) := by decide +kernel
theorem dX8_give_12 : decode cX8_give 12 = .ok (.iload_n 1, 1) := by decide +kernel
theorem dX8_give_13 : decode cX8_give 13 = .ok (.invokestatic 129, 3) := by decide +kernel
theorem dX8_give_16 : decode cX8_give 16 = .ok (.iload_n 2, 1) := by decide +kernel
theorem dX8_give_17 : decode cX8_give 17 = .ok (.invokevirtual 135, 3) := by decide +kernel
theorem dX8_give_20 : decode cX8_give 20 = .ok (.ifCond .ne 5, 3) := by decide +kernel
theorem dX8_give_23 : decode cX8_give 23 = .ok (.iconst (-1), 1) := by decide +kernel
theorem dX8_give_24 : decode cX8_give 24 = .ok (.ireturn, 1) := by decide +kernel
theorem dX8_give_25 : decode cX8_give 25 = .ok (.aload_n 0, 1) := by decide +kernel
theorem dX8_give_26 : decode cX8_give 26 = .ok (.getfield 10, 3) := by decide +kernel
theorem dX8_give_29 : decode cX8_give 29 = .ok (.iload_n 1, 1) := by decide +kernel
theorem dX8_give_30 : decode cX8_give 30 = .ok (.invokestatic 129, 3) := by decide +kernel
theorem dX8_give_33 : decode cX8_give 33 = .ok (.invokevirtual 113, 3) := by decide +kernel
theorem dX8_give_36 : decode cX8_give 36 = .ok (.ireturn, 1) := by decide +kernel
theorem dX8_pass_0 : decode cX8_pass 0 = .ok (.iload_n 1, 1) := by decide +kernel
theorem dX8_pass_1 : decode cX8_pass 1 = .ok (.iconst 1, 1) := by decide +kernel
theorem dX8_pass_2 : decode cX8_pass 2 = .ok (.if_icmp .lt 26, 3) := by decide +kernel
theorem dX8_pass_5 : decode cX8_pass 5 = .ok (.iload_n 1, 1) := by decide +kernel
theorem dX8_pass_6 : decode cX8_pass 6 = .ok (.bipush 99, 2) := by decide +kernel
theorem dX8_pass_8 : decode cX8_pass 8 = .ok (.if_icmp .gt 20, 3) := by decide +kernel
theorem dX8_pass_11 : decode cX8_pass 11 = .ok (.aload_n 0, 1) := by decide +kernel
theorem dX8_pass_12 : decode cX8_pass 12 = .ok (.getfield 10, 3) := by decide +kernel
theorem dX8_pass_15 : decode cX8_pass 15 = .ok (.bipush 12, 2) := by decide +kernel
theorem dX8_pass_17 : decode cX8_pass 17 = .ok (.invokevirtual 113, 3) := by decide +kernel
theorem dX8_pass_20 : decode cX8_pass 20 = .ok (.iload_n 1, 1) := by decide +kernel
theorem dX8_pass_21 : decode cX8_pass 21 = .ok (.iadd, 1) := by decide +kernel
theorem dX8_pass_22 : decode cX8_pass 22 = .ok (.sipush 999, 3) := by decide +kernel
theorem dX8_pass_25 : decode cX8_pass 25 = .ok (.if_icmp .le 5, 3) := by decide +kernel
theorem dX8_pass_28 : decode cX8_pass 28 = .ok (.iconst (-1), 1) := by decide +kernel
theorem dX8_pass_29 : decode cX8_pass 29 = .ok (.ireturn, 1) := by decide +kernel
theorem dX8_pass_30 : decode cX8_pass 30 = .ok (.iconst 0, 1) := by decide +kernel
theorem dX8_pass_31 : decode cX8_pass 31 = .ok (.istore_n 2, 1) := by decide +kernel
theorem dX8_pass_32 : decode cX8_pass 32 = .ok (.iconst 0, 1) := by decide +kernel
theorem dX8_pass_33 : decode cX8_pass 33 = .ok (.istore_n 3, 1) := by decide +kernel
theorem dX8_pass_34 : decode cX8_pass 34 = .ok (.iload_n 3, 1) := by decide +kernel
theorem dX8_pass_35 : decode cX8_pass 35 = .ok (.iload_n 1, 1) := by decide +kernel
theorem dX8_pass_36 : decode cX8_pass 36 = .ok (.if_icmp .ge 19, 3) := by decide +kernel
theorem dX8_pass_39 : decode cX8_pass 39 = .ok (.iload_n 2, 1) := by decide +kernel
theorem dX8_pass_40 : decode cX8_pass 40 = .ok (.aload_n 0, 1) := by decide +kernel
theorem dX8_pass_41 : decode cX8_pass 41 = .ok (.getfield 30, 3) := by decide +kernel
theorem dX8_pass_44 : decode cX8_pass 44 = .ok (.invokevirtual 139, 3) := by decide +kernel
theorem dX8_pass_47 : decode cX8_pass 47 = .ok (.iadd, 1) := by decide +kernel
theorem dX8_pass_48 : decode cX8_pass 48 = .ok (.istore_n 2, 1) := by decide +kernel
theorem dX8_pass_49 : decode cX8_pass 49 = .ok (.iinc 3 1, 3) := by decide +kernel
theorem dX8_pass_52 : decode cX8_pass 52 = .ok (.goto (-18), 3) := by decide +kernel
theorem dX8_pass_55 : decode cX8_pass 55 = .ok (.iload_n 2, 1) := by decide +kernel
theorem dX8_pass_56 : decode cX8_pass 56 = .ok (.ireturn, 1) := by decide +kernel
theorem dX8_played_0 : decode cX8_played 0 = .ok (.iload_n 1, 1) := by decide +kernel
theorem dX8_played_1 : decode cX8_played 1 = .ok (.aload_n 0, 1) := by decide +kernel
theorem dX8_played_2 : decode cX8_played 2 = .ok (.getfield 10, 3) := by decide +kernel
theorem dX8_played_5 : decode cX8_played 5 = .ok (.getfield 79, 3) := by decide +kernel
theorem dX8_played_8 : decode cX8_played 8 = .ok (.if_icmp .ge 11, 3) := by decide +kernel
theorem dX8_played_11 : decode cX8_played 11 = .ok (.aload_n 0, 1) := by decide +kernel
theorem dX8_played_12 : decode cX8_played 12 = .ok (.iload_n 1, 1) := by decide +kernel
theorem dX8_played_13 : decode cX8_played 13 = .ok (.invokevirtual 81, 3) := by decide +kernel
theorem dX8_played_16 : decode cX8_played 16 = .ok (.goto 4, 3) := by decide +kernel
theorem dX8_played_19 : decode cX8_played 19 = .ok (.aconst_null, 1) := by decide +kernel
theorem dX8_played_20 : decode cX8_played 20 = .ok (.astore_n 2, 1) := by decide +kernel
theorem dX8_played_21 : decode cX8_played 21 = .ok (.aload_n 2, 1) := by decide +kernel
theorem dX8_played_22 : decode cX8_played 22 = .ok (.ifnonnull 6, 3) := by decide +kernel
theorem dX8_played_25 : decode cX8_played 25 = .ok (.bipush (-2), 2) := by decide +kernel
theorem dX8_played_27 : decode cX8_played 27 = .ok (.ireturn, 1) := by decide +kernel
theorem dX8_played_28 : decode cX8_played 28 = .ok (.iconst 0, 1) := by decide +kernel
theorem dX8_played_29 : decode cX8_played 29 = .ok (.istore_n 3, 1) := by decide +kernel
theorem dX8_played_30 : decode cX8_played 30 = .ok (.iload_n 3, 1) := by decide +kernel
theorem dX8_played_31 : decode cX8_played 31 = .ok (.aload_n 2, 1) := by decide +kernel
theorem dX8_played_32 : decode cX8_played 32 = .ok (.getfield 143, 3) := by decide +kernel
theorem dX8_played_35 : decode cX8_played 35 = .ok (.if_icmp .ge 155, 3) := by decide +kernel
theorem dX8_played_38 : decode cX8_played 38 = .ok (.iload_n 3, 1) := by decide +kernel
theorem dX8_played_39 : decode cX8_played 39 = .ok (.bipush 24, 2) := by decide +kernel
theorem dX8_played_41 : decode cX8_played 41 = .ok (.if_icmp .ge 149, 3) := by decide +kernel
theorem dX8_played_44 : decode cX8_played 44 = .ok (.aload_n 2, 1) := by decide +kernel
theorem dX8_played_45 : decode cX8_played 45 = .ok (.getfield 146, 3) := by decide +kernel
theorem dX8_played_48 : decode cX8_played 48 = .ok (.iload_n 3, 1) := by decide +kernel
theorem dX8_played_49 : decode cX8_played 49 = .ok (.iaload, 1) := by decide +kernel
theorem dX8_played_50 : decode cX8_played 50 = .ok (.istore 4, 2) := by decide +kernel
theorem dX8_played_52 : decode cX8_played 52 = .ok (.aload_n 2, 1) := by decide +kernel
theorem dX8_played_53 : decode cX8_played 53 = .ok (.getfield 150, 3) := by decide +kernel
theorem dX8_played_56 : decode cX8_played 56 = .ok (.iload_n 3, 1) := by decide +kernel
theorem dX8_played_57 : decode cX8_played 57 = .ok (.iaload, 1) := by decide +kernel
theorem dX8_played_58 : decode cX8_played 58 = .ok (.istore 5, 2) := by decide +kernel
theorem dX8_played_60 : decode cX8_played 60 = .ok (.iconst 1, 1) := by decide +kernel
theorem dX8_played_61 : decode cX8_played 61 = .ok (.istore 6, 2) := by decide +kernel
theorem dX8_played_63 : decode cX8_played 63 = .ok (.aload_n 2, 1) := by decide +kernel
theorem dX8_played_64 : decode cX8_played 64 = .ok (.getfield 153, 3) := by decide +kernel
theorem dX8_played_67 : decode cX8_played 67 = .ok (.iload_n 3, 1) := by decide +kernel
theorem dX8_played_68 : decode cX8_played 68 = .ok (.iaload, 1) := by decide +kernel
theorem dX8_played_69 : decode cX8_played 69 = .ok (.tableswitch 108 202 205 #[31, 44, 66, 88], 31) := by decide +kernel
theorem dX8_played_100 : decode cX8_played 100 = .ok (.aload_n 0, 1) := by decide +kernel
theorem dX8_played_101 : decode cX8_played 101 = .ok (.iload 4, 2) := by decide +kernel
theorem dX8_played_103 : decode cX8_played 103 = .ok (.iload 5, 2) := by decide +kernel
theorem dX8_played_105 : decode cX8_played 105 = .ok (.invokevirtual 156, 3) := by decide +kernel
theorem dX8_played_108 : decode cX8_played 108 = .ok (.istore 6, 2) := by decide +kernel
theorem dX8_played_110 : decode cX8_played 110 = .ok (.goto 67, 3) := by decide +kernel
theorem dX8_played_113 : decode cX8_played 113 = .ok (.aload_n 0, 1) := by decide +kernel
theorem dX8_played_114 : decode cX8_played 114 = .ok (.iload 5, 2) := by decide +kernel
theorem dX8_played_116 : decode cX8_played 116 = .ok (.iload 4, 2) := by decide +kernel
theorem dX8_played_118 : decode cX8_played 118 = .ok (.invokevirtual 160, 3) := by decide +kernel
theorem dX8_played_121 : decode cX8_played 121 = .ok (.iconst (-1), 1) := by decide +kernel
theorem dX8_played_122 : decode cX8_played 122 = .ok (.if_icmp .eq 7, 3) := by decide +kernel
theorem dX8_played_125 : decode cX8_played 125 = .ok (.iconst 1, 1) := by decide +kernel
theorem dX8_played_126 : decode cX8_played 126 = .ok (.goto 4, 3) := by decide +kernel
theorem dX8_played_129 : decode cX8_played 129 = .ok (.iconst 0, 1) := by decide +kernel
theorem dX8_played_130 : decode cX8_played 130 = .ok (.istore 6, 2) := by decide +kernel
theorem dX8_played_132 : decode cX8_played 132 = .ok (.goto 45, 3) := by decide +kernel
theorem dX8_played_135 : decode cX8_played 135 = .ok (.aload_n 0, 1) := by decide +kernel
theorem dX8_played_136 : decode cX8_played 136 = .ok (.iload 5, 2) := by decide +kernel
theorem dX8_played_138 : decode cX8_played 138 = .ok (.iload 4, 2) := by decide +kernel
theorem dX8_played_140 : decode cX8_played 140 = .ok (.invokevirtual 164, 3) := by decide +kernel
theorem dX8_played_143 : decode cX8_played 143 = .ok (.iconst (-1), 1) := by decide +kernel
theorem dX8_played_144 : decode cX8_played 144 = .ok (.if_icmp .eq 7, 3) := by decide +kernel
theorem dX8_played_147 : decode cX8_played 147 = .ok (.iconst 1, 1) := by decide +kernel
theorem dX8_played_148 : decode cX8_played 148 = .ok (.goto 4, 3) := by decide +kernel
theorem dX8_played_151 : decode cX8_played 151 = .ok (.iconst 0, 1) := by decide +kernel
theorem dX8_played_152 : decode cX8_played 152 = .ok (.istore 6, 2) := by decide +kernel
theorem dX8_played_154 : decode cX8_played 154 = .ok (.goto 23, 3) := by decide +kernel
theorem dX8_played_157 : decode cX8_played 157 = .ok (.aload_n 0, 1) := by decide +kernel
theorem dX8_played_158 : decode cX8_played 158 = .ok (.iload 4, 2) := by decide +kernel
theorem dX8_played_160 : decode cX8_played 160 = .ok (.invokevirtual 167, 3) := by decide +kernel
theorem dX8_played_163 : decode cX8_played 163 = .ok (.iconst (-1), 1) := by decide +kernel
theorem dX8_played_164 : decode cX8_played 164 = .ok (.if_icmp .eq 7, 3) := by decide +kernel
theorem dX8_played_167 : decode cX8_played 167 = .ok (.iconst 1, 1) := by decide +kernel
theorem dX8_played_168 : decode cX8_played 168 = .ok (.goto 4, 3) := by decide +kernel
theorem dX8_played_171 : decode cX8_played 171 = .ok (.iconst 0, 1) := by decide +kernel
theorem dX8_played_172 : decode cX8_played 172 = .ok (.istore 6, 2) := by decide +kernel
theorem dX8_played_174 : decode cX8_played 174 = .ok (.goto 3, 3) := by decide +kernel
theorem dX8_played_177 : decode cX8_played 177 = .ok (.iload 6, 2) := by decide +kernel
theorem dX8_played_179 : decode cX8_played 179 = .ok (.ifCond .ne 5, 3) := by decide +kernel
theorem dX8_played_182 : decode cX8_played 182 = .ok (.iload_n 3, 1) := by decide +kernel
theorem dX8_played_183 : decode cX8_played 183 = .ok (.ireturn, 1) := by decide +kernel
theorem dX8_played_184 : decode cX8_played 184 = .ok (.iinc 3 1, 3) := by decide +kernel
theorem dX8_played_187 : decode cX8_played 187 = .ok (.goto (-157), 3) := by decide +kernel
theorem dX8_played_190 : decode cX8_played 190 = .ok (.iconst (-1), 1) := by decide +kernel
theorem dX8_played_191 : decode cX8_played 191 = .ok (.ireturn, 1) := by decide +kernel
theorem dX8_undo_0 : decode cX8_undo 0 = .ok (.aload_n 0, 1) := by decide +kernel
theorem dX8_undo_1 : decode cX8_undo 1 = .ok (.getfield 10, 3) := by decide +kernel
theorem dX8_undo_4 : decode cX8_undo 4 = .ok (.invokevirtual 170, 3) := by decide +kernel
theorem dX8_undo_7 : decode cX8_undo 7 = .ok (.ireturn, 1) := by decide +kernel
theorem dX8_of_0 : decode cX8_of 0 = .ok (.iload_n 1, 1) := by decide +kernel
theorem dX8_of_1 : decode cX8_of 1 = .ok (.invokestatic 106, 3) := by decide +kernel
theorem dX8_of_4 : decode cX8_of 4 = .ok (.ifCond .ne 5, 3) := by decide +kernel
theorem dX8_of_7 : decode cX8_of 7 = .ok (.iconst (-1), 1) := by decide +kernel
theorem dX8_of_8 : decode cX8_of 8 = .ok (.ireturn, 1) := by decide +kernel
theorem dX8_of_9 : decode cX8_of 9 = .ok (.iload_n 2, 1) := by decide +kernel
theorem dX8_of_10 : decode cX8_of 10 = .ok (.tableswitch 75 0 3 #[30, 42, 54, 66], 30) := by decide +kernel
theorem dX8_of_40 : decode cX8_of 40 = .ok (.aload_n 0, 1) := by decide +kernel
theorem dX8_of_41 : decode cX8_of 41 = .ok (.getfield 10, 3) := by decide +kernel
theorem dX8_of_44 : decode cX8_of 44 = .ok (.iload_n 1, 1) := by decide +kernel
theorem dX8_of_45 : decode cX8_of 45 = .ok (.invokestatic 173, 3) := by decide +kernel
theorem dX8_of_48 : decode cX8_of 48 = .ok (.invokevirtual 113, 3) := by decide +kernel
theorem dX8_of_51 : decode cX8_of 51 = .ok (.ireturn, 1) := by decide +kernel
theorem dX8_of_52 : decode cX8_of 52 = .ok (.aload_n 0, 1) := by decide +kernel
theorem dX8_of_53 : decode cX8_of 53 = .ok (.getfield 10, 3) := by decide +kernel
theorem dX8_of_56 : decode cX8_of 56 = .ok (.iload_n 1, 1) := by decide +kernel
theorem dX8_of_57 : decode cX8_of 57 = .ok (.invokestatic 129, 3) := by decide +kernel
theorem dX8_of_60 : decode cX8_of 60 = .ok (.invokevirtual 113, 3) := by decide +kernel
theorem dX8_of_63 : decode cX8_of 63 = .ok (.ireturn, 1) := by decide +kernel
theorem dX8_of_64 : decode cX8_of 64 = .ok (.aload_n 0, 1) := by decide +kernel
theorem dX8_of_65 : decode cX8_of 65 = .ok (.getfield 10, 3) := by decide +kernel
theorem dX8_of_68 : decode cX8_of 68 = .ok (.iload_n 1, 1) := by decide +kernel
theorem dX8_of_69 : decode cX8_of 69 = .ok (.invokestatic 132, 3) := by decide +kernel
theorem dX8_of_72 : decode cX8_of 72 = .ok (.invokevirtual 113, 3) := by decide +kernel
theorem dX8_of_75 : decode cX8_of 75 = .ok (.ireturn, 1) := by decide +kernel
theorem dX8_of_76 : decode cX8_of 76 = .ok (.aload_n 0, 1) := by decide +kernel
theorem dX8_of_77 : decode cX8_of 77 = .ok (.getfield 10, 3) := by decide +kernel
theorem dX8_of_80 : decode cX8_of 80 = .ok (.iload_n 1, 1) := by decide +kernel
theorem dX8_of_81 : decode cX8_of 81 = .ok (.invokevirtual 176, 3) := by decide +kernel
theorem dX8_of_84 : decode cX8_of 84 = .ok (.ireturn, 1) := by decide +kernel
theorem dX8_of_85 : decode cX8_of 85 = .ok (.iconst (-1), 1) := by decide +kernel
theorem dX8_of_86 : decode cX8_of 86 = .ok (.ireturn, 1) := by decide +kernel
theorem dX8_sisterOf_0 : decode cX8_sisterOf 0 = .ok (.aload_n 0, 1) := by decide +kernel
theorem dX8_sisterOf_1 : decode cX8_sisterOf 1 = .ok (.iload_n 1, 1) := by decide +kernel
theorem dX8_sisterOf_2 : decode cX8_sisterOf 2 = .ok (.invokevirtual 120, 3) := by decide +kernel
theorem dX8_sisterOf_5 : decode cX8_sisterOf 5 = .ok (.ifCond .ne 5, 3) := by decide +kernel
theorem dX8_sisterOf_8 : decode cX8_sisterOf 8 = .ok (.iconst (-1), 1) := by decide +kernel
theorem dX8_sisterOf_9 : decode cX8_sisterOf 9 = .ok (.ireturn, 1) := by decide +kernel
theorem dX8_sisterOf_10 : decode cX8_sisterOf 10 = .ok (.iload_n 2, 1) := by decide +kernel
theorem dX8_sisterOf_11 : decode cX8_sisterOf 11 = .ok (.tableswitch 52 0 2 #[25, 34, 43], 25) := by decide +kernel
theorem dX8_sisterOf_36 : decode cX8_sisterOf 36 = .ok (.aload_n 0, 1) := by decide +kernel
theorem dX8_sisterOf_37 : decode cX8_sisterOf 37 = .ok (.getfield 10, 3) := by decide +kernel
theorem dX8_sisterOf_40 : decode cX8_sisterOf 40 = .ok (.iload_n 1, 1) := by decide +kernel
theorem dX8_sisterOf_41 : decode cX8_sisterOf 41 = .ok (.invokevirtual 179, 3) := by decide +kernel
theorem dX8_sisterOf_44 : decode cX8_sisterOf 44 = .ok (.ireturn, 1) := by decide +kernel
theorem dX8_sisterOf_45 : decode cX8_sisterOf 45 = .ok (.aload_n 0, 1) := by decide +kernel
theorem dX8_sisterOf_46 : decode cX8_sisterOf 46 = .ok (.getfield 10, 3) := by decide +kernel
theorem dX8_sisterOf_49 : decode cX8_sisterOf 49 = .ok (.iload_n 1, 1) := by decide +kernel
theorem dX8_sisterOf_50 : decode cX8_sisterOf 50 = .ok (.invokevirtual 123, 3) := by decide +kernel
theorem dX8_sisterOf_53 : decode cX8_sisterOf 53 = .ok (.ireturn, 1) := by decide +kernel
theorem dX8_sisterOf_54 : decode cX8_sisterOf 54 = .ok (.aload_n 0, 1) := by decide +kernel
theorem dX8_sisterOf_55 : decode cX8_sisterOf 55 = .ok (.getfield 30, 3) := by decide +kernel
theorem dX8_sisterOf_58 : decode cX8_sisterOf 58 = .ok (.iload_n 1, 1) := by decide +kernel
theorem dX8_sisterOf_59 : decode cX8_sisterOf 59 = .ok (.invokevirtual 182, 3) := by decide +kernel
theorem dX8_sisterOf_62 : decode cX8_sisterOf 62 = .ok (.ireturn, 1) := by decide +kernel
theorem dX8_sisterOf_63 : decode cX8_sisterOf 63 = .ok (.iconst (-1), 1) := by decide +kernel
theorem dX8_sisterOf_64 : decode cX8_sisterOf 64 = .ok (.ireturn, 1) := by decide +kernel
theorem dX8_comes_0 : decode cX8_comes 0 = .ok (.iload_n 1, 1) := by decide +kernel
theorem dX8_comes_1 : decode cX8_comes 1 = .ok (.invokestatic 106, 3) := by decide +kernel
theorem dX8_comes_4 : decode cX8_comes 4 = .ok (.ifCond .eq 10, 3) := by decide +kernel
theorem dX8_comes_7 : decode cX8_comes 7 = .ok (.iload_n 2, 1) := by decide +kernel
theorem dX8_comes_8 : decode cX8_comes 8 = .ok (.invokestatic 110, 3) := by decide +kernel
theorem dX8_comes_11 : decode cX8_comes 11 = .ok (.ifCond .ne 5, 3) := by decide +kernel
theorem dX8_comes_14 : decode cX8_comes 14 = .ok (.iconst (-1), 1) := by decide +kernel
theorem dX8_comes_15 : decode cX8_comes 15 = .ok (.ireturn, 1) := by decide +kernel
theorem dX8_comes_16 : decode cX8_comes 16 = .ok (.aload_n 0, 1) := by decide +kernel
theorem dX8_comes_17 : decode cX8_comes 17 = .ok (.getfield 39, 3) := by decide +kernel
theorem dX8_comes_20 : decode cX8_comes 20 = .ok (.iload_n 1, 1) := by decide +kernel
theorem dX8_comes_21 : decode cX8_comes 21 = .ok (.iload_n 2, 1) := by decide +kernel
theorem dX8_comes_22 : decode cX8_comes 22 = .ok (.iload_n 3, 1) := by decide +kernel
theorem dX8_comes_23 : decode cX8_comes 23 = .ok (.invokevirtual 185, 3) := by decide +kernel
theorem dX8_comes_26 : decode cX8_comes 26 = .ok (.ireturn, 1) := by decide +kernel
theorem dX8_odds_0 : decode cX8_odds 0 = .ok (.iload_n 1, 1) := by decide +kernel
theorem dX8_odds_1 : decode cX8_odds 1 = .ok (.invokestatic 106, 3) := by decide +kernel
theorem dX8_odds_4 : decode cX8_odds 4 = .ok (.ifCond .eq 31, 3) := by decide +kernel
theorem dX8_odds_7 : decode cX8_odds 7 = .ok (.iload_n 2, 1) := by decide +kernel
theorem dX8_odds_8 : decode cX8_odds 8 = .ok (.invokestatic 110, 3) := by decide +kernel
theorem dX8_odds_11 : decode cX8_odds 11 = .ok (.ifCond .eq 24, 3) := by decide +kernel
theorem dX8_odds_14 : decode cX8_odds 14 = .ok (.iload_n 3, 1) := by decide +kernel
theorem dX8_odds_15 : decode cX8_odds 15 = .ok (.ifCond .lt 20, 3) := by decide +kernel
theorem dX8_odds_18 : decode cX8_odds 18 = .ok (.iload_n 3, 1) := by decide +kernel
theorem dX8_odds_19 : decode cX8_odds 19 = .ok (.bipush 15, 2) := by decide +kernel
theorem dX8_odds_21 : decode cX8_odds 21 = .ok (.if_icmp .gt 14, 3) := by decide +kernel
theorem dX8_odds_24 : decode cX8_odds 24 = .ok (.iload 4, 2) := by decide +kernel
theorem dX8_odds_26 : decode cX8_odds 26 = .ok (.ifCond .lt 9, 3) := by decide +kernel
theorem dX8_odds_29 : decode cX8_odds 29 = .ok (.iload 4, 2) := by decide +kernel
theorem dX8_odds_31 : decode cX8_odds 31 = .ok (.iconst 1, 1) := by decide +kernel
theorem dX8_odds_32 : decode cX8_odds 32 = .ok (.if_icmp .le 7, 3) := by decide +kernel
theorem dX8_odds_35 : decode cX8_odds 35 = .ok (.ldc2_w 189, 3) := by decide +kernel
theorem dX8_odds_38 : decode cX8_odds 38 = .ok (.lreturn, 1) := by decide +kernel
theorem dX8_odds_39 : decode cX8_odds 39 = .ok (.aload_n 0, 1) := by decide +kernel
theorem dX8_odds_40 : decode cX8_odds 40 = .ok (.getfield 39, 3) := by decide +kernel
theorem dX8_odds_43 : decode cX8_odds 43 = .ok (.iload_n 1, 1) := by decide +kernel
theorem dX8_odds_44 : decode cX8_odds 44 = .ok (.iload_n 2, 1) := by decide +kernel
theorem dX8_odds_45 : decode cX8_odds 45 = .ok (.iload_n 3, 1) := by decide +kernel
theorem dX8_odds_46 : decode cX8_odds 46 = .ok (.invokevirtual 191, 3) := by decide +kernel
theorem dX8_odds_49 : decode cX8_odds 49 = .ok (.lstore 5, 2) := by decide +kernel
theorem dX8_odds_51 : decode cX8_odds 51 = .ok (.iload_n 3, 1) := by decide +kernel
theorem dX8_odds_52 : decode cX8_odds 52 = .ok (.invokestatic 195, 3) := by decide +kernel
theorem dX8_odds_55 : decode cX8_odds 55 = .ok (.lstore 7, 2) := by decide +kernel
theorem dX8_odds_57 : decode cX8_odds 57 = .ok (.lload 5, 2) := by decide +kernel
theorem dX8_odds_59 : decode cX8_odds 59 = .ok (.lload 7, 2) := by decide +kernel
theorem dX8_odds_61 : decode cX8_odds 61 = .ok (.invokestatic 199, 3) := by decide +kernel
theorem dX8_odds_64 : decode cX8_odds 64 = .ok (.lstore 9, 2) := by decide +kernel
theorem dX8_odds_66 : decode cX8_odds 66 = .ok (.lload 9, 2) := by decide +kernel
theorem dX8_odds_68 : decode cX8_odds 68 = .ok (.lconst 0, 1) := by decide +kernel
theorem dX8_odds_69 : decode cX8_odds 69 = .ok (.lcmp, 1) := by decide +kernel
theorem dX8_odds_70 : decode cX8_odds 70 = .ok (.ifCond .ne 7, 3) := by decide +kernel
theorem dX8_odds_73 : decode cX8_odds 73 = .ok (.ldc2_w 189, 3) := by decide +kernel
theorem dX8_odds_76 : decode cX8_odds 76 = .ok (.lreturn, 1) := by decide +kernel
theorem dX8_odds_77 : decode cX8_odds 77 = .ok (.iload 4, 2) := by decide +kernel
theorem dX8_odds_79 : decode cX8_odds 79 = .ok (.ifCond .ne 11, 3) := by decide +kernel
theorem dX8_odds_82 : decode cX8_odds 82 = .ok (.lload 5, 2) := by decide +kernel
theorem dX8_odds_84 : decode cX8_odds 84 = .ok (.lload 9, 2) := by decide +kernel
theorem dX8_odds_86 : decode cX8_odds 86 = .ok (.ldiv, 1) := by decide +kernel
theorem dX8_odds_87 : decode cX8_odds 87 = .ok (.goto 8, 3) := by decide +kernel
theorem dX8_odds_90 : decode cX8_odds 90 = .ok (.lload 7, 2) := by decide +kernel
theorem dX8_odds_92 : decode cX8_odds 92 = .ok (.lload 9, 2) := by decide +kernel
theorem dX8_odds_94 : decode cX8_odds 94 = .ok (.ldiv, 1) := by decide +kernel
theorem dX8_odds_95 : decode cX8_odds 95 = .ok (.lreturn, 1) := by decide +kernel
theorem dX8_apart_0 : decode cX8_apart 0 = .ok (.iload_n 1, 1) := by decide +kernel
theorem dX8_apart_1 : decode cX8_apart 1 = .ok (.ifCond .lt 9, 3) := by decide +kernel
theorem dX8_apart_4 : decode cX8_apart 4 = .ok (.iload_n 1, 1) := by decide +kernel
theorem dX8_apart_5 : decode cX8_apart 5 = .ok (.bipush 60, 2) := by decide +kernel
theorem dX8_apart_7 : decode cX8_apart 7 = .ok (.if_icmp .le 7, 3) := by decide +kernel
theorem dX8_apart_10 : decode cX8_apart 10 = .ok (.sipush (-1000), 3) := by decide +kernel
theorem dX8_apart_13 : decode cX8_apart 13 = .ok (.ireturn, 1) := by decide +kernel
theorem dX8_apart_14 : decode cX8_apart 14 = .ok (.aload_n 0, 1) := by decide +kernel
theorem dX8_apart_15 : decode cX8_apart 15 = .ok (.getfield 39, 3) := by decide +kernel
theorem dX8_apart_18 : decode cX8_apart 18 = .ok (.iconst 0, 1) := by decide +kernel
theorem dX8_apart_19 : decode cX8_apart 19 = .ok (.iload_n 1, 1) := by decide +kernel
theorem dX8_apart_20 : decode cX8_apart 20 = .ok (.invokevirtual 203, 3) := by decide +kernel
theorem dX8_apart_23 : decode cX8_apart 23 = .ok (.aload_n 0, 1) := by decide +kernel
theorem dX8_apart_24 : decode cX8_apart 24 = .ok (.getfield 39, 3) := by decide +kernel
theorem dX8_apart_27 : decode cX8_apart 27 = .ok (.iconst 1, 1) := by decide +kernel
theorem dX8_apart_28 : decode cX8_apart 28 = .ok (.iload_n 1, 1) := by decide +kernel
theorem dX8_apart_29 : decode cX8_apart 29 = .ok (.invokevirtual 203, 3) := by decide +kernel
theorem dX8_apart_32 : decode cX8_apart 32 = .ok (.isub, 1) := by decide +kernel
theorem dX8_apart_33 : decode cX8_apart 33 = .ok (.ireturn, 1) := by decide +kernel
theorem dX8_flour_0 : decode cX8_flour 0 = .ok (.iload_n 1, 1) := by decide +kernel
theorem dX8_flour_1 : decode cX8_flour 1 = .ok (.invokestatic 106, 3) := by decide +kernel
theorem dX8_flour_4 : decode cX8_flour 4 = .ok (.ifCond .eq 22, 3) := by decide +kernel
theorem dX8_flour_7 : decode cX8_flour 7 = .ok (.iload_n 2, 1) := by decide +kernel
theorem dX8_flour_8 : decode cX8_flour 8 = .ok (.invokestatic 110, 3) := by decide +kernel
theorem dX8_flour_11 : decode cX8_flour 11 = .ok (.ifCond .eq 15, 3) := by decide +kernel
theorem dX8_flour_14 : decode cX8_flour 14 = .ok (.iload_n 3, 1) := by decide +kernel
theorem dX8_flour_15 : decode cX8_flour 15 = .ok (.invokestatic 110, 3) := by decide +kernel
theorem dX8_flour_18 : decode cX8_flour 18 = .ok (.ifCond .eq 8, 3) := by decide +kernel
theorem dX8_flour_21 : decode cX8_flour 21 = .ok (.iload_n 2, 1) := by decide +kernel
theorem dX8_flour_22 : decode cX8_flour 22 = .ok (.iload_n 3, 1) := by decide +kernel
theorem dX8_flour_23 : decode cX8_flour 23 = .ok (.if_icmp .le 5, 3) := by decide +kernel
theorem dX8_flour_26 : decode cX8_flour 26 = .ok (.iconst (-1), 1) := by decide +kernel
theorem dX8_flour_27 : decode cX8_flour 27 = .ok (.ireturn, 1) := by decide +kernel
theorem dX8_flour_28 : decode cX8_flour 28 = .ok (.aload_n 0, 1) := by decide +kernel
theorem dX8_flour_29 : decode cX8_flour 29 = .ok (.getfield 10, 3) := by decide +kernel
theorem dX8_flour_32 : decode cX8_flour 32 = .ok (.bipush 12, 2) := by decide +kernel
theorem dX8_flour_34 : decode cX8_flour 34 = .ok (.invokevirtual 113, 3) := by decide +kernel
theorem dX8_flour_37 : decode cX8_flour 37 = .ok (.istore 4, 2) := by decide +kernel
theorem dX8_flour_39 : decode cX8_flour 39 = .ok (.iconst 0, 1) := by decide +kernel
theorem dX8_flour_40 : decode cX8_flour 40 = .ok (.istore 5, 2) := by decide +kernel
theorem dX8_flour_42 : decode cX8_flour 42 = .ok (.iload_n 2, 1) := by decide +kernel
theorem dX8_flour_43 : decode cX8_flour 43 = .ok (.istore 6, 2) := by decide +kernel
theorem dX8_flour_45 : decode cX8_flour 45 = .ok (.iload 6, 2) := by decide +kernel
theorem dX8_flour_47 : decode cX8_flour 47 = .ok (.iload_n 3, 1) := by decide +kernel
theorem dX8_flour_48 : decode cX8_flour 48 = .ok (.if_icmp .gt 26, 3) := by decide +kernel
theorem dX8_flour_51 : decode cX8_flour 51 = .ok (.iload 5, 2) := by decide +kernel
theorem dX8_flour_53 : decode cX8_flour 53 = .ok (.aload_n 0, 1) := by decide +kernel
theorem dX8_flour_54 : decode cX8_flour 54 = .ok (.getfield 30, 3) := by decide +kernel
theorem dX8_flour_57 : decode cX8_flour 57 = .ok (.iload_n 1, 1) := by decide +kernel
theorem dX8_flour_58 : decode cX8_flour 58 = .ok (.iload 6, 2) := by decide +kernel
theorem dX8_flour_60 : decode cX8_flour 60 = .ok (.iload 4, 2) := by decide +kernel
theorem dX8_flour_62 : decode cX8_flour 62 = .ok (.invokevirtual 116, 3) := by decide +kernel
theorem dX8_flour_65 : decode cX8_flour 65 = .ok (.iadd, 1) := by decide +kernel
theorem dX8_flour_66 : decode cX8_flour 66 = .ok (.istore 5, 2) := by decide +kernel
theorem dX8_flour_68 : decode cX8_flour 68 = .ok (.iinc 6 1, 3) := by decide +kernel
theorem dX8_flour_71 : decode cX8_flour 71 = .ok (.goto (-26), 3) := by decide +kernel
theorem dX8_flour_74 : decode cX8_flour 74 = .ok (.iload 5, 2) := by decide +kernel
theorem dX8_flour_76 : decode cX8_flour 76 = .ok (.ireturn, 1) := by decide +kernel
theorem dX8_saint_0 : decode cX8_saint 0 = .ok (.iload_n 1, 1) := by decide +kernel
theorem dX8_saint_1 : decode cX8_saint 1 = .ok (.invokestatic 106, 3) := by decide +kernel
theorem dX8_saint_4 : decode cX8_saint 4 = .ok (.ifCond .eq 21, 3) := by decide +kernel
theorem dX8_saint_7 : decode cX8_saint 7 = .ok (.iload_n 2, 1) := by decide +kernel
theorem dX8_saint_8 : decode cX8_saint 8 = .ok (.invokestatic 110, 3) := by decide +kernel
theorem dX8_saint_11 : decode cX8_saint 11 = .ok (.ifCond .eq 14, 3) := by decide +kernel
theorem dX8_saint_14 : decode cX8_saint 14 = .ok (.iload_n 3, 1) := by decide +kernel
theorem dX8_saint_15 : decode cX8_saint 15 = .ok (.iconst 1, 1) := by decide +kernel
theorem dX8_saint_16 : decode cX8_saint 16 = .ok (.if_icmp .lt 9, 3) := by decide +kernel
theorem dX8_saint_19 : decode cX8_saint 19 = .ok (.iload_n 3, 1) := by decide +kernel
theorem dX8_saint_20 : decode cX8_saint 20 = .ok (.bipush 30, 2) := by decide +kernel
theorem dX8_saint_22 : decode cX8_saint 22 = .ok (.if_icmp .le 5, 3) := by decide +kernel
theorem dX8_saint_25 : decode cX8_saint 25 = .ok (.iconst (-1), 1) := by decide +kernel
theorem dX8_saint_26 : decode cX8_saint 26 = .ok (.ireturn, 1) := by decide +kernel
theorem dX8_saint_27 : decode cX8_saint 27 = .ok (.iload 4, 2) := by decide +kernel
theorem dX8_saint_29 : decode cX8_saint 29 = .ok (.iconst (-1), 1) := by decide +kernel
theorem dX8_saint_30 : decode cX8_saint 30 = .ok (.if_icmp .eq 14, 3) := by decide +kernel
theorem dX8_saint_33 : decode cX8_saint 33 = .ok (.aload_n 0, 1) := by decide +kernel
theorem dX8_saint_34 : decode cX8_saint 34 = .ok (.iload 4, 2) := by decide +kernel
theorem dX8_saint_36 : decode cX8_saint 36 = .ok (.invokevirtual 120, 3) := by decide +kernel
theorem dX8_saint_39 : decode cX8_saint 39 = .ok (.ifCond .ne 5, 3) := by decide +kernel
theorem dX8_saint_42 : decode cX8_saint 42 = .ok (.iconst (-1), 1) := by decide +kernel
theorem dX8_saint_43 : decode cX8_saint 43 = .ok (.ireturn, 1) := by decide +kernel
theorem dX8_saint_44 : decode cX8_saint 44 = .ok (.aload_n 0, 1) := by decide +kernel
theorem dX8_saint_45 : decode cX8_saint 45 = .ok (.getfield 39, 3) := by decide +kernel
theorem dX8_saint_48 : decode cX8_saint 48 = .ok (.iload_n 1, 1) := by decide +kernel
theorem dX8_saint_49 : decode cX8_saint 49 = .ok (.iload_n 2, 1) := by decide +kernel
theorem dX8_saint_50 : decode cX8_saint 50 = .ok (.iload_n 3, 1) := by decide +kernel
theorem dX8_saint_51 : decode cX8_saint 51 = .ok (.invokevirtual 206, 3) := by decide +kernel
theorem dX8_saint_54 : decode cX8_saint 54 = .ok (.istore 5, 2) := by decide +kernel
theorem dX8_saint_56 : decode cX8_saint 56 = .ok (.iload 5, 2) := by decide +kernel
theorem dX8_saint_58 : decode cX8_saint 58 = .ok (.iconst (-1), 1) := by decide +kernel
theorem dX8_saint_59 : decode cX8_saint 59 = .ok (.if_icmp .eq 9, 3) := by decide +kernel
theorem dX8_saint_62 : decode cX8_saint 62 = .ok (.iload 4, 2) := by decide +kernel
theorem dX8_saint_64 : decode cX8_saint 64 = .ok (.iconst (-1), 1) := by decide +kernel
theorem dX8_saint_65 : decode cX8_saint 65 = .ok (.if_icmp .ne 6, 3) := by decide +kernel
theorem dX8_saint_68 : decode cX8_saint 68 = .ok (.iload 5, 2) := by decide +kernel
theorem dX8_saint_70 : decode cX8_saint 70 = .ok (.ireturn, 1) := by decide +kernel
theorem dX8_saint_71 : decode cX8_saint 71 = .ok (.aload_n 0, 1) := by decide +kernel
theorem dX8_saint_72 : decode cX8_saint 72 = .ok (.getfield 39, 3) := by decide +kernel
theorem dX8_saint_75 : decode cX8_saint 75 = .ok (.iload 4, 2) := by decide +kernel
theorem dX8_saint_77 : decode cX8_saint 77 = .ok (.invokevirtual 209, 3) := by decide +kernel
theorem dX8_saint_80 : decode cX8_saint 80 = .ok (.ireturn, 1) := by decide +kernel
theorem dX8_seen_0 : decode cX8_seen 0 = .ok (.iload_n 1, 1) := by decide +kernel
theorem dX8_seen_1 : decode cX8_seen 1 = .ok (.iconst (-1), 1) := by decide +kernel
theorem dX8_seen_2 : decode cX8_seen 2 = .ok (.if_icmp .ne 13, 3) := by decide +kernel
theorem dX8_seen_5 : decode cX8_seen 5 = .ok (.aload_n 0, 1) := by decide +kernel
theorem dX8_seen_6 : decode cX8_seen 6 = .ok (.getfield 10, 3) := by decide +kernel
theorem dX8_seen_9 : decode cX8_seen 9 = .ok (.iconst 0, 1) := by decide +kernel
theorem dX8_seen_10 : decode cX8_seen 10 = .ok (.putfield 212, 3) := by decide +kernel
theorem dX8_seen_13 : decode cX8_seen 13 = .ok (.iconst 0, 1) := by decide +kernel
theorem dX8_seen_14 : decode cX8_seen 14 = .ok (.ireturn, 1) := by decide +kernel
theorem dX8_seen_15 : decode cX8_seen 15 = .ok (.iload_n 1, 1) := by decide +kernel
theorem dX8_seen_16 : decode cX8_seen 16 = .ok (.ifCond .lt 31, 3) := by decide +kernel
theorem dX8_seen_19 : decode cX8_seen 19 = .ok (.iload_n 1, 1) := by decide +kernel
theorem dX8_seen_20 : decode cX8_seen 20 = .ok (.bipush 60, 2) := by decide +kernel
theorem dX8_seen_22 : decode cX8_seen 22 = .ok (.if_icmp .gt 25, 3) := by decide +kernel
theorem dX8_seen_25 : decode cX8_seen 25 = .ok (.aload_n 0, 1) := by decide +kernel
theorem dX8_seen_26 : decode cX8_seen 26 = .ok (.getfield 10, 3) := by decide +kernel
theorem dX8_seen_29 : decode cX8_seen 29 = .ok (.getfield 212, 3) := by decide +kernel
theorem dX8_seen_32 : decode cX8_seen 32 = .ok (.ifCond .lt 15, 3) := by decide +kernel
theorem dX8_seen_35 : decode cX8_seen 35 = .ok (.aload_n 0, 1) := by decide +kernel
theorem dX8_seen_36 : decode cX8_seen 36 = .ok (.getfield 10, 3) := by decide +kernel
theorem dX8_seen_39 : decode cX8_seen 39 = .ok (.getfield 212, 3) := by decide +kernel
theorem dX8_seen_42 : decode cX8_seen 42 = .ok (.bipush 8, 2) := by decide +kernel
theorem dX8_seen_44 : decode cX8_seen 44 = .ok (.if_icmp .lt 6, 3) := by decide +kernel
theorem dX8_seen_47 : decode cX8_seen 47 = .ok (.bipush (-2), 2) := by decide +kernel
theorem dX8_seen_49 : decode cX8_seen 49 = .ok (.ireturn, 1) := by decide +kernel
theorem dX8_seen_50 : decode cX8_seen 50 = .ok (.aload_n 0, 1) := by decide +kernel
theorem dX8_seen_51 : decode cX8_seen 51 = .ok (.getfield 10, 3) := by decide +kernel
theorem dX8_seen_54 : decode cX8_seen 54 = .ok (.getfield 215, 3) := by decide +kernel
theorem dX8_seen_57 : decode cX8_seen 57 = .ok (.aload_n 0, 1) := by decide +kernel
theorem dX8_seen_58 : decode cX8_seen 58 = .ok (.getfield 10, 3) := by decide +kernel
theorem dX8_seen_61 : decode cX8_seen 61 = .ok (.getfield 212, 3) := by decide +kernel
theorem dX8_seen_64 : decode cX8_seen 64 = .ok (.iload_n 1, 1) := by decide +kernel
theorem dX8_seen_65 : decode cX8_seen 65 = .ok (.iastore, 1) := by decide +kernel
theorem dX8_seen_66 : decode cX8_seen 66 = .ok (.aload_n 0, 1) := by decide +kernel
theorem dX8_seen_67 : decode cX8_seen 67 = .ok (.getfield 10, 3) := by decide +kernel
theorem dX8_seen_70 : decode cX8_seen 70 = .ok (.dup, 1) := by decide +kernel
theorem dX8_seen_71 : decode cX8_seen 71 = .ok (.getfield 212, 3) := by decide +kernel
theorem dX8_seen_74 : decode cX8_seen 74 = .ok (.iconst 1, 1) := by decide +kernel
theorem dX8_seen_75 : decode cX8_seen 75 = .ok (.iadd, 1) := by decide +kernel
theorem dX8_seen_76 : decode cX8_seen 76 = .ok (.putfield 212, 3) := by decide +kernel
theorem dX8_seen_79 : decode cX8_seen 79 = .ok (.aload_n 0, 1) := by decide +kernel
theorem dX8_seen_80 : decode cX8_seen 80 = .ok (.getfield 10, 3) := by decide +kernel
theorem dX8_seen_83 : decode cX8_seen 83 = .ok (.getfield 212, 3) := by decide +kernel
theorem dX8_seen_86 : decode cX8_seen 86 = .ok (.ireturn, 1) := by decide +kernel
theorem dX8_who_0 : decode cX8_who 0 = .ok (.iload_n 1, 1) := by decide +kernel
theorem dX8_who_1 : decode cX8_who 1 = .ok (.invokestatic 106, 3) := by decide +kernel
theorem dX8_who_4 : decode cX8_who 4 = .ok (.ifCond .eq 15, 3) := by decide +kernel
theorem dX8_who_7 : decode cX8_who 7 = .ok (.iload_n 2, 1) := by decide +kernel
theorem dX8_who_8 : decode cX8_who 8 = .ok (.invokestatic 110, 3) := by decide +kernel
theorem dX8_who_11 : decode cX8_who 11 = .ok (.ifCond .eq 8, 3) := by decide +kernel
theorem dX8_who_14 : decode cX8_who 14 = .ok (.iload_n 3, 1) := by decide +kernel
theorem dX8_who_15 : decode cX8_who 15 = .ok (.iconst (-1), 1) := by decide +kernel
theorem dX8_who_16 : decode cX8_who 16 = .ok (.if_icmp .ge 5, 3) := by decide +kernel
theorem dX8_who_19 : decode cX8_who 19 = .ok (.iconst (-1), 1) := by decide +kernel
theorem dX8_who_20 : decode cX8_who 20 = .ok (.ireturn, 1) := by decide +kernel
theorem dX8_who_21 : decode cX8_who 21 = .ok (.aload_n 0, 1) := by decide +kernel
theorem dX8_who_22 : decode cX8_who 22 = .ok (.getfield 39, 3) := by decide +kernel
theorem dX8_who_25 : decode cX8_who 25 = .ok (.iload_n 1, 1) := by decide +kernel
theorem dX8_who_26 : decode cX8_who 26 = .ok (.iload_n 2, 1) := by decide +kernel
theorem dX8_who_27 : decode cX8_who 27 = .ok (.iload_n 3, 1) := by decide +kernel
theorem dX8_who_28 : decode cX8_who 28 = .ok (.invokevirtual 218, 3) := by decide +kernel
theorem dX8_who_31 : decode cX8_who 31 = .ok (.ireturn, 1) := by decide +kernel
theorem dX8_image_0 : decode cX8_image 0 = .ok (.aload_n 0, 1) := by decide +kernel
theorem dX8_image_1 : decode cX8_image 1 = .ok (.getfield 16, 3) := by decide +kernel
theorem dX8_image_4 : decode cX8_image 4 = .ok (.aload_n 0, 1) := by decide +kernel
theorem dX8_image_5 : decode cX8_image 5 = .ok (.getfield 10, 3) := by decide +kernel
theorem dX8_image_8 : decode cX8_image 8 = .ok (.invokevirtual 221, 3) := by decide +kernel
theorem dX8_image_11 : decode cX8_image 11 = .ok (.aload_n 0, 1) := by decide +kernel
theorem dX8_image_12 : decode cX8_image 12 = .ok (.getfield 10, 3) := by decide +kernel
theorem dX8_image_15 : decode cX8_image 15 = .ok (.bipush 12, 2) := by decide +kernel
theorem dX8_image_17 : decode cX8_image 17 = .ok (.invokevirtual 113, 3) := by decide +kernel
theorem dX8_image_20 : decode cX8_image 20 = .ok (.ireturn, 1) := by decide +kernel
theorem dX8_back_0 : decode cX8_back 0 = .ok (.aload_n 0, 1) := by decide +kernel
theorem dX8_back_1 : decode cX8_back 1 = .ok (.getfield 10, 3) := by decide +kernel
theorem dX8_back_4 : decode cX8_back 4 = .ok (.aload_n 0, 1) := by decide +kernel
theorem dX8_back_5 : decode cX8_back 5 = .ok (.getfield 16, 3) := by decide +kernel
theorem dX8_back_8 : decode cX8_back 8 = .ok (.invokevirtual 221, 3) := by decide +kernel
theorem dX8_back_11 : decode cX8_back 11 = .ok (.aload_n 0, 1) := by decide +kernel
theorem dX8_back_12 : decode cX8_back 12 = .ok (.getfield 30, 3) := by decide +kernel
theorem dX8_back_15 : decode cX8_back 15 = .ok (.aload_n 0, 1) := by decide +kernel
theorem dX8_back_16 : decode cX8_back 16 = .ok (.aload_n 0, 1) := by decide +kernel
theorem dX8_back_17 : decode cX8_back 17 = .ok (.getfield 10, 3) := by decide +kernel
theorem dX8_back_20 : decode cX8_back 20 = .ok (.getfield 99, 3) := by decide +kernel
theorem dX8_back_23 : decode cX8_back 23 = .ok (.invokevirtual 81, 3) := by decide +kernel
theorem dX8_back_26 : decode cX8_back 26 = .ok (.putfield 102, 3) := by decide +kernel
theorem dX8_back_29 : decode cX8_back 29 = .ok (.aload_n 0, 1) := by decide +kernel
theorem dX8_back_30 : decode cX8_back 30 = .ok (.getfield 10, 3) := by decide +kernel
theorem dX8_back_33 : decode cX8_back 33 = .ok (.bipush 12, 2) := by decide +kernel
theorem dX8_back_35 : decode cX8_back 35 = .ok (.invokevirtual 113, 3) := by decide +kernel
theorem dX8_back_38 : decode cX8_back 38 = .ok (.ireturn, 1) := by decide +kernel
theorem dX8_about_0 : decode cX8_about 0 = .ok (.iload_n 1, 1) := by decide +kernel
theorem dX8_about_1 : decode cX8_about 1 = .ok (.tableswitch 127 0 8 #[51, 59, 69, 77, 87, 95, 103, 111, 119], 51) := by decide +kernel
theorem dX8_about_52 : decode cX8_about 52 = .ok (.aload_n 0, 1) := by decide +kernel
theorem dX8_about_53 : decode cX8_about 53 = .ok (.getfield 10, 3) := by decide +kernel
theorem dX8_about_56 : decode cX8_about 56 = .ok (.getfield 224, 3) := by decide +kernel
theorem dX8_about_59 : decode cX8_about 59 = .ok (.ireturn, 1) := by decide +kernel
theorem dX8_about_60 : decode cX8_about 60 = .ok (.aload_n 0, 1) := by decide +kernel
theorem dX8_about_61 : decode cX8_about 61 = .ok (.getfield 10, 3) := by decide +kernel
theorem dX8_about_64 : decode cX8_about 64 = .ok (.bipush 12, 2) := by decide +kernel
theorem dX8_about_66 : decode cX8_about 66 = .ok (.invokevirtual 113, 3) := by decide +kernel
theorem dX8_about_69 : decode cX8_about 69 = .ok (.ireturn, 1) := by decide +kernel
theorem dX8_about_70 : decode cX8_about 70 = .ok (.aload_n 0, 1) := by decide +kernel
theorem dX8_about_71 : decode cX8_about 71 = .ok (.getfield 10, 3) := by decide +kernel
theorem dX8_about_74 : decode cX8_about 74 = .ok (.getfield 64, 3) := by decide +kernel
theorem dX8_about_77 : decode cX8_about 77 = .ok (.ireturn, 1) := by decide +kernel
theorem dX8_about_78 : decode cX8_about 78 = .ok (.aload_n 0, 1) := by decide +kernel
theorem dX8_about_79 : decode cX8_about 79 = .ok (.getfield 10, 3) := by decide +kernel
theorem dX8_about_82 : decode cX8_about 82 = .ok (.bipush 13, 2) := by decide +kernel
theorem dX8_about_84 : decode cX8_about 84 = .ok (.invokevirtual 113, 3) := by decide +kernel
theorem dX8_about_87 : decode cX8_about 87 = .ok (.ireturn, 1) := by decide +kernel
theorem dX8_about_88 : decode cX8_about 88 = .ok (.aload_n 0, 1) := by decide +kernel
theorem dX8_about_89 : decode cX8_about 89 = .ok (.getfield 10, 3) := by decide +kernel
theorem dX8_about_92 : decode cX8_about 92 = .ok (.getfield 79, 3) := by decide +kernel
theorem dX8_about_95 : decode cX8_about 95 = .ok (.ireturn, 1) := by decide +kernel
theorem dX8_about_96 : decode cX8_about 96 = .ok (.aload_n 0, 1) := by decide +kernel
theorem dX8_about_97 : decode cX8_about 97 = .ok (.getfield 10, 3) := by decide +kernel
theorem dX8_about_100 : decode cX8_about 100 = .ok (.getfield 99, 3) := by decide +kernel
theorem dX8_about_103 : decode cX8_about 103 = .ok (.ireturn, 1) := by decide +kernel
theorem dX8_about_104 : decode cX8_about 104 = .ok (.aload_n 0, 1) := by decide +kernel
theorem dX8_about_105 : decode cX8_about 105 = .ok (.getfield 10, 3) := by decide +kernel
theorem dX8_about_108 : decode cX8_about 108 = .ok (.getfield 227, 3) := by decide +kernel
theorem dX8_about_111 : decode cX8_about 111 = .ok (.ireturn, 1) := by decide +kernel
theorem dX8_about_112 : decode cX8_about 112 = .ok (.aload_n 0, 1) := by decide +kernel
theorem dX8_about_113 : decode cX8_about 113 = .ok (.getfield 10, 3) := by decide +kernel
theorem dX8_about_116 : decode cX8_about 116 = .ok (.getfield 212, 3) := by decide +kernel
theorem dX8_about_119 : decode cX8_about 119 = .ok (.ireturn, 1) := by decide +kernel
theorem dX8_about_120 : decode cX8_about 120 = .ok (.aload_n 0, 1) := by decide +kernel
theorem dX8_about_121 : decode cX8_about 121 = .ok (.getfield 46, 3) := by decide +kernel
theorem dX8_about_124 : decode cX8_about 124 = .ok (.getfield 72, 3) := by decide +kernel
theorem dX8_about_127 : decode cX8_about 127 = .ok (.ireturn, 1) := by decide +kernel
theorem dX8_about_128 : decode cX8_about 128 = .ok (.bipush (-2), 2) := by decide +kernel
theorem dX8_about_130 : decode cX8_about 130 = .ok (.ireturn, 1) := by decide +kernel
theorem dX8_isTable_0 : decode cX8_isTable 0 = .ok (.iload_n 0, 1) := by decide +kernel
theorem dX8_isTable_1 : decode cX8_isTable 1 = .ok (.ifCond .lt 12, 3) := by decide +kernel
theorem dX8_isTable_4 : decode cX8_isTable 4 = .ok (.iload_n 0, 1) := by decide +kernel
theorem dX8_isTable_5 : decode cX8_isTable 5 = .ok (.iconst 2, 1) := by decide +kernel
theorem dX8_isTable_6 : decode cX8_isTable 6 = .ok (.if_icmp .ge 7, 3) := by decide +kernel
theorem dX8_isTable_9 : decode cX8_isTable 9 = .ok (.iconst 1, 1) := by decide +kernel
theorem dX8_isTable_10 : decode cX8_isTable 10 = .ok (.goto 4, 3) := by decide +kernel
theorem dX8_isTable_13 : decode cX8_isTable 13 = .ok (.iconst 0, 1) := by decide +kernel
theorem dX8_isTable_14 : decode cX8_isTable 14 = .ok (.ireturn, 1) := by decide +kernel
theorem dX8_isDay_0 : decode cX8_isDay 0 = .ok (.iload_n 0, 1) := by decide +kernel
theorem dX8_isDay_1 : decode cX8_isDay 1 = .ok (.ifCond .lt 14, 3) := by decide +kernel
theorem dX8_isDay_4 : decode cX8_isDay 4 = .ok (.iload_n 0, 1) := by decide +kernel
theorem dX8_isDay_5 : decode cX8_isDay 5 = .ok (.sipush 999, 3) := by decide +kernel
theorem dX8_isDay_8 : decode cX8_isDay 8 = .ok (.if_icmp .gt 7, 3) := by decide +kernel
theorem dX8_isDay_11 : decode cX8_isDay 11 = .ok (.iconst 1, 1) := by decide +kernel
theorem dX8_isDay_12 : decode cX8_isDay 12 = .ok (.goto 4, 3) := by decide +kernel
theorem dX8_isDay_15 : decode cX8_isDay 15 = .ok (.iconst 0, 1) := by decide +kernel
theorem dX8_isDay_16 : decode cX8_isDay 16 = .ok (.ireturn, 1) := by decide +kernel
theorem dX8_isSister_0 : decode cX8_isSister 0 = .ok (.iload_n 1, 1) := by decide +kernel
theorem dX8_isSister_1 : decode cX8_isSister 1 = .ok (.ifCond .lt 18, 3) := by decide +kernel
theorem dX8_isSister_4 : decode cX8_isSister 4 = .ok (.iload_n 1, 1) := by decide +kernel
theorem dX8_isSister_5 : decode cX8_isSister 5 = .ok (.aload_n 0, 1) := by decide +kernel
theorem dX8_isSister_6 : decode cX8_isSister 6 = .ok (.getfield 10, 3) := by decide +kernel
theorem dX8_isSister_9 : decode cX8_isSister 9 = .ok (.getfield 224, 3) := by decide +kernel
theorem dX8_isSister_12 : decode cX8_isSister 12 = .ok (.if_icmp .ge 7, 3) := by decide +kernel
theorem dX8_isSister_15 : decode cX8_isSister 15 = .ok (.iconst 1, 1) := by decide +kernel
theorem dX8_isSister_16 : decode cX8_isSister 16 = .ok (.goto 4, 3) := by decide +kernel
theorem dX8_isSister_19 : decode cX8_isSister 19 = .ok (.iconst 0, 1) := by decide +kernel
theorem dX8_isSister_20 : decode cX8_isSister 20 = .ok (.ireturn, 1) := by decide +kernel
theorem dX8_textAt_0 : decode cX8_textAt 0 = .ok (.iload_n 1, 1) := by decide +kernel
theorem dX8_textAt_1 : decode cX8_textAt 1 = .ok (.ifCond .lt 17, 3) := by decide +kernel
theorem dX8_textAt_4 : decode cX8_textAt 4 = .ok (.iload_n 1, 1) := by decide +kernel
theorem dX8_textAt_5 : decode cX8_textAt 5 = .ok (.iconst 4, 1) := by decide +kernel
theorem dX8_textAt_6 : decode cX8_textAt 6 = .ok (.if_icmp .ge 12, 3) := by decide +kernel
theorem dX8_textAt_9 : decode cX8_textAt 9 = .ok (.aload_n 0, 1) := by decide +kernel
theorem dX8_textAt_10 : decode cX8_textAt 10 = .ok (.getfield 21, 3) := by decide +kernel
theorem dX8_textAt_13 : decode cX8_textAt 13 = .ok (.iload_n 1, 1) := by decide +kernel
theorem dX8_textAt_14 : decode cX8_textAt 14 = .ok (.aaload, 1) := by decide +kernel
theorem dX8_textAt_15 : decode cX8_textAt 15 = .ok (.goto 4, 3) := by decide +kernel
theorem dX8_textAt_18 : decode cX8_textAt 18 = .ok (.aconst_null, 1) := by decide +kernel
theorem dX8_textAt_19 : decode cX8_textAt 19 = .ok (.areturn, 1) := by decide +kernel
theorem dX8_moved_0 : decode cX8_moved 0 = .ok (.iload_n 3, 1) := by decide +kernel
theorem dX8_moved_1 : decode cX8_moved 1 = .ok (.iconst 1, 1) := by decide +kernel
theorem dX8_moved_2 : decode cX8_moved 2 = .ok (.if_icmp .lt 21, 3) := by decide +kernel
theorem dX8_moved_5 : decode cX8_moved 5 = .ok (.iload_n 3, 1) := by decide +kernel
theorem dX8_moved_6 : decode cX8_moved 6 = .ok (.bipush 9, 2) := by decide +kernel
theorem dX8_moved_8 : decode cX8_moved 8 = .ok (.if_icmp .gt 15, 3) := by decide +kernel
theorem dX8_moved_11 : decode cX8_moved 11 = .ok (.aload_n 0, 1) := by decide +kernel
theorem dX8_moved_12 : decode cX8_moved 12 = .ok (.getfield 10, 3) := by decide +kernel
theorem dX8_moved_15 : decode cX8_moved 15 = .ok (.iload_n 1, 1) := by decide +kernel
theorem dX8_moved_16 : decode cX8_moved 16 = .ok (.invokevirtual 113, 3) := by decide +kernel
theorem dX8_moved_19 : decode cX8_moved 19 = .ok (.iload_n 3, 1) := by decide +kernel
theorem dX8_moved_20 : decode cX8_moved 20 = .ok (.if_icmp .ge 5, 3) := by decide +kernel
theorem dX8_moved_23 : decode cX8_moved 23 = .ok (.iconst 0, 1) := by decide +kernel
theorem dX8_moved_24 : decode cX8_moved 24 = .ok (.ireturn, 1) := by decide +kernel
theorem dX8_moved_25 : decode cX8_moved 25 = .ok (.aload_n 0, 1) := by decide +kernel
theorem dX8_moved_26 : decode cX8_moved 26 = .ok (.getfield 10, 3) := by decide +kernel
theorem dX8_moved_29 : decode cX8_moved 29 = .ok (.invokevirtual 126, 3) := by decide +kernel
theorem dX8_moved_32 : decode cX8_moved 32 = .ok (.aload_n 0, 1) := by decide +kernel
theorem dX8_moved_33 : decode cX8_moved 33 = .ok (.getfield 10, 3) := by decide +kernel
theorem dX8_moved_36 : decode cX8_moved 36 = .ok (.iload_n 1, 1) := by decide +kernel
theorem dX8_moved_37 : decode cX8_moved 37 = .ok (.aload_n 0, 1) := by decide +kernel
theorem dX8_moved_38 : decode cX8_moved 38 = .ok (.getfield 10, 3) := by decide +kernel
theorem dX8_moved_41 : decode cX8_moved 41 = .ok (.iload_n 1, 1) := by decide +kernel
theorem dX8_moved_42 : decode cX8_moved 42 = .ok (.invokevirtual 113, 3) := by decide +kernel
theorem dX8_moved_45 : decode cX8_moved 45 = .ok (.iload_n 3, 1) := by decide +kernel
theorem dX8_moved_46 : decode cX8_moved 46 = .ok (.isub, 1) := by decide +kernel
theorem dX8_moved_47 : decode cX8_moved 47 = .ok (.invokevirtual 68, 3) := by decide +kernel
theorem dX8_moved_50 : decode cX8_moved 50 = .ok (.aload_n 0, 1) := by decide +kernel
theorem dX8_moved_51 : decode cX8_moved 51 = .ok (.getfield 10, 3) := by decide +kernel
theorem dX8_moved_54 : decode cX8_moved 54 = .ok (.iload_n 2, 1) := by decide +kernel
theorem dX8_moved_55 : decode cX8_moved 55 = .ok (.aload_n 0, 1) := by decide +kernel
theorem dX8_moved_56 : decode cX8_moved 56 = .ok (.getfield 10, 3) := by decide +kernel
theorem dX8_moved_59 : decode cX8_moved 59 = .ok (.iload_n 2, 1) := by decide +kernel
theorem dX8_moved_60 : decode cX8_moved 60 = .ok (.invokevirtual 113, 3) := by decide +kernel
theorem dX8_moved_63 : decode cX8_moved 63 = .ok (.iload_n 3, 1) := by decide +kernel
theorem dX8_moved_64 : decode cX8_moved 64 = .ok (.iadd, 1) := by decide +kernel
theorem dX8_moved_65 : decode cX8_moved 65 = .ok (.invokevirtual 68, 3) := by decide +kernel
theorem dX8_moved_68 : decode cX8_moved 68 = .ok (.iconst 1, 1) := by decide +kernel
theorem dX8_moved_69 : decode cX8_moved 69 = .ok (.ireturn, 1) := by decide +kernel
theorem dX9_init_0 : decode cX9_init 0 = .ok (.aload_n 0, 1) := by decide +kernel
theorem dX9_init_1 : decode cX9_init 1 = .ok (.invokespecial 1, 3) := by decide +kernel
theorem dX9_init_4 : decode cX9_init 4 = .ok (.aload_n 0, 1) := by decide +kernel
theorem dX9_init_5 : decode cX9_init 5 = .ok (.sipush 486, 3) := by decide +kernel
theorem dX9_init_8 : decode cX9_init 8 = .ok (.newarray .int, 2) := by decide +kernel
theorem dX9_init_10 : decode cX9_init 10 = .ok (.putfield 7, 3) := by decide +kernel
theorem dX9_init_13 : decode cX9_init 13 = .ok (.aload_n 0, 1) := by decide +kernel
theorem dX9_init_14 : decode cX9_init 14 = .ok (.sipush 486, 3) := by decide +kernel
theorem dX9_init_17 : decode cX9_init 17 = .ok (.newarray .int, 2) := by decide +kernel
theorem dX9_init_19 : decode cX9_init 19 = .ok (.putfield 13, 3) := by decide +kernel
theorem dX9_init_22 : decode cX9_init 22 = .ok (.aload_n 0, 1) := by decide +kernel
theorem dX9_init_23 : decode cX9_init 23 = .ok (.sipush 2720, 3) := by decide +kernel
theorem dX9_init_26 : decode cX9_init 26 = .ok (.newarray .int, 2) := by decide +kernel
theorem dX9_init_28 : decode cX9_init 28 = .ok (.putfield 16, 3) := by decide +kernel
theorem dX9_init_31 : decode cX9_init 31 = .ok (.aload_n 0, 1) := by decide +kernel
theorem dX9_init_32 : decode cX9_init 32 = .ok (.sipush 300, 3) := by decide +kernel
theorem dX9_init_35 : decode cX9_init 35 = .ok (.newarray .int, 2) := by decide +kernel
theorem dX9_init_37 : decode cX9_init 37 = .ok (.putfield 19, 3) := by decide +kernel
theorem dX9_init_40 : decode cX9_init 40 = .ok (.aload_n 0, 1) := by decide +kernel
theorem dX9_init_41 : decode cX9_init 41 = .ok (.iconst (-1), 1) := by decide +kernel
theorem dX9_init_42 : decode cX9_init 42 = .ok (.putfield 22, 3) := by decide +kernel
theorem dX9_init_45 : decode cX9_init 45 = .ok (.aload_n 0, 1) := by decide +kernel
theorem dX9_init_46 : decode cX9_init 46 = .ok (.iconst (-1), 1) := by decide +kernel
theorem dX9_init_47 : decode cX9_init 47 = .ok (.putfield 26, 3) := by decide +kernel
theorem dX9_init_50 : decode cX9_init 50 = .ok (.aload_n 0, 1) := by decide +kernel
theorem dX9_init_51 : decode cX9_init 51 = .ok (.sipush 160, 3) := by decide +kernel
theorem dX9_init_54 : decode cX9_init 54 = .ok (.newarray .int, 2) := by decide +kernel
theorem dX9_init_56 : decode cX9_init 56 = .ok (.putfield 29, 3) := by decide +kernel
theorem dX9_init_59 : decode cX9_init 59 = .ok (.aload_n 0, 1) := by decide +kernel
theorem dX9_init_60 : decode cX9_init 60 = .ok (.bipush 6, 2) := by decide +kernel
theorem dX9_init_62 : decode cX9_init 62 = .ok (.newarray .int, 2) := by decide +kernel
theorem dX9_init_64 : decode cX9_init 64 = .ok (.putfield 32, 3) := by decide +kernel
theorem dX9_init_67 : decode cX9_init 67 = .ok (.aload_n 0, 1) := by decide +kernel
theorem dX9_init_68 : decode cX9_init 68 = .ok (.sipush 330, 3) := by decide +kernel
theorem dX9_init_71 : decode cX9_init 71 = .ok (.newarray .long, 2) := by decide +kernel
theorem dX9_init_73 : decode cX9_init 73 = .ok (.putfield 35, 3) := by decide +kernel
theorem dX9_init_76 : decode cX9_init 76 = .ok (.aload_n 0, 1) := by decide +kernel
theorem dX9_init_77 : decode cX9_init 77 = .ok (.sipush 330, 3) := by decide +kernel
theorem dX9_init_80 : decode cX9_init 80 = .ok (.newarray .boolean, 2) := by decide +kernel
theorem dX9_init_82 : decode cX9_init 82 = .ok (.putfield 39, 3) := by decide +kernel
theorem dX9_init_85 : decode cX9_init 85 = .ok (.aload_n 0, 1) := by decide +kernel
theorem dX9_init_86 : decode cX9_init 86 = .ok (.sipush 976, 3) := by decide +kernel
theorem dX9_init_89 : decode cX9_init 89 = .ok (.newarray .long, 2) := by decide +kernel
theorem dX9_init_91 : decode cX9_init 91 = .ok (.putfield 43, 3) := by decide +kernel
theorem dX9_init_94 : decode cX9_init 94 = .ok (.aload_n 0, 1) := by decide +kernel
theorem dX9_init_95 : decode cX9_init 95 = .ok (.sipush 976, 3) := by decide +kernel
theorem dX9_init_98 : decode cX9_init 98 = .ok (.newarray .long, 2) := by decide +kernel
theorem dX9_init_100 : decode cX9_init 100 = .ok (.putfield 46, 3) := by decide +kernel
theorem dX9_init_103 : decode cX9_init 103 = .ok (.aload_n 0, 1) := by decide +kernel
theorem dX9_init_104 : decode cX9_init 104 = .ok (.bipush 64, 2) := by decide +kernel
theorem dX9_init_106 : decode cX9_init 106 = .ok (.newarray .int, 2) := by decide +kernel
theorem dX9_init_108 : decode cX9_init 108 = .ok (.putfield 49, 3) := by decide +kernel
theorem dX9_init_111 : decode cX9_init 111 = .ok (.aload_n 0, 1) := by decide +kernel
theorem dX9_init_112 : decode cX9_init 112 = .ok (.getfield 7, 3) := by decide +kernel
theorem dX9_init_115 : decode cX9_init 115 = .ok (.iconst 5, 1) := by decide +kernel
theorem dX9_init_116 : decode cX9_init 116 = .ok (.iconst (-1), 1) := by decide +kernel
theorem dX9_init_117 : decode cX9_init 117 = .ok (.iastore, 1) := by decide +kernel
theorem dX9_init_118 : decode cX9_init 118 = .ok (.aload_n 0, 1) := by decide +kernel
theorem dX9_init_119 : decode cX9_init 119 = .ok (.getfield 7, 3) := by decide +kernel
theorem dX9_init_122 : decode cX9_init 122 = .ok (.iconst 3, 1) := by decide +kernel
theorem dX9_init_123 : decode cX9_init 123 = .ok (.bipush 11, 2) := by decide +kernel
theorem dX9_init_125 : decode cX9_init 125 = .ok (.iastore, 1) := by decide +kernel
theorem dX9_init_126 : decode cX9_init 126 = .ok (.aload_n 0, 1) := by decide +kernel
theorem dX9_init_127 : decode cX9_init 127 = .ok (.getfield 7, 3) := by decide +kernel
theorem dX9_init_130 : decode cX9_init 130 = .ok (.bipush 11, 2) := by decide +kernel
theorem dX9_init_132 : decode cX9_init 132 = .ok (.bipush 12, 2) := by decide +kernel
theorem dX9_init_134 : decode cX9_init 134 = .ok (.iastore, 1) := by decide +kernel
theorem dX9_init_135 : decode cX9_init 135 = .ok (.aload_n 0, 1) := by decide +kernel
theorem dX9_init_136 : decode cX9_init 136 = .ok (.getfield 7, 3) := by decide +kernel
theorem dX9_init_139 : decode cX9_init 139 = .ok (.bipush 14, 2) := by decide +kernel
theorem dX9_init_141 : decode cX9_init 141 = .ok (.bipush 12, 2) := by decide +kernel
theorem dX9_init_143 : decode cX9_init 143 = .ok (.iastore, 1) := by decide +kernel
theorem dX9_init_144 : decode cX9_init 144 = .ok (.aload_n 0, 1) := by decide +kernel
theorem dX9_init_145 : decode cX9_init 145 = .ok (.getfield 7, 3) := by decide +kernel
theorem dX9_init_148 : decode cX9_init 148 = .ok (.aload_n 0, 1) := by decide +kernel
theorem dX9_init_149 : decode cX9_init 149 = .ok (.getfield 13, 3) := by decide +kernel
theorem dX9_init_152 : decode cX9_init 152 = .ok (.invokestatic 52, 3) := by decide +kernel
theorem dX9_init_155 : decode cX9_init 155 = .ok (.return_, 1) := by decide +kernel
theorem dX9_copy_0 : decode cX9_copy 0 = .ok (.iconst 0, 1) := by decide +kernel
theorem dX9_copy_1 : decode cX9_copy 1 = .ok (.istore_n 2, 1) := by decide +kernel
theorem dX9_copy_2 : decode cX9_copy 2 = .ok (.iload_n 2, 1) := by decide +kernel
theorem dX9_copy_3 : decode cX9_copy 3 = .ok (.sipush 486, 3) := by decide +kernel
theorem dX9_copy_6 : decode cX9_copy 6 = .ok (.if_icmp .ge 15, 3) := by decide +kernel
theorem dX9_copy_9 : decode cX9_copy 9 = .ok (.aload_n 1, 1) := by decide +kernel
theorem dX9_copy_10 : decode cX9_copy 10 = .ok (.iload_n 2, 1) := by decide +kernel
theorem dX9_copy_11 : decode cX9_copy 11 = .ok (.aload_n 0, 1) := by decide +kernel
theorem dX9_copy_12 : decode cX9_copy 12 = .ok (.iload_n 2, 1) := by decide +kernel
theorem dX9_copy_13 : decode cX9_copy 13 = .ok (.iaload, 1) := by decide +kernel
theorem dX9_copy_14 : decode cX9_copy 14 = .ok (.iastore, 1) := by decide +kernel
theorem dX9_copy_15 : decode cX9_copy 15 = .ok (.iinc 2 1, 3) := by decide +kernel
theorem dX9_copy_18 : decode cX9_copy 18 = .ok (.goto (-16), 3) := by decide +kernel
theorem dX9_copy_21 : decode cX9_copy 21 = .ok (.return_, 1) := by decide +kernel
theorem dX9_isIn_0 : decode cX9_isIn 0 = .ok (.iload_n 0, 1) := by decide +kernel
theorem dX9_isIn_1 : decode cX9_isIn 1 = .ok (.iload_n 1, 1) := by decide +kernel
theorem dX9_isIn_2 : decode cX9_isIn 2 = .ok (.if_icmp .lt 12, 3) := by decide +kernel
theorem dX9_isIn_5 : decode cX9_isIn 5 = .ok (.iload_n 0, 1) := by decide +kernel
theorem dX9_isIn_6 : decode cX9_isIn 6 = .ok (.iload_n 2, 1) := by decide +kernel
theorem dX9_isIn_7 : decode cX9_isIn 7 = .ok (.if_icmp .gt 7, 3) := by decide +kernel
theorem dX9_isIn_10 : decode cX9_isIn 10 = .ok (.iconst 1, 1) := by decide +kernel
theorem dX9_isIn_11 : decode cX9_isIn 11 = .ok (.goto 4, 3) := by decide +kernel
theorem dX9_isIn_14 : decode cX9_isIn 14 = .ok (.iconst 0, 1) := by decide +kernel
theorem dX9_isIn_15 : decode cX9_isIn 15 = .ok (.ireturn, 1) := by decide +kernel
theorem dX9_between_0 : decode cX9_between 0 = .ok (.lload_n 0, 1) := by decide +kernel
theorem dX9_between_1 : decode cX9_between 1 = .ok (.iload_n 2, 1) := by decide +kernel
theorem dX9_between_2 : decode cX9_between 2 = .ok (.i2l, 1) := by decide +kernel
theorem dX9_between_3 : decode cX9_between 3 = .ok (.lcmp, 1) := by decide +kernel
theorem dX9_between_4 : decode cX9_between 4 = .ok (.ifCond .ge 7, 3) := by decide +kernel
theorem dX9_between_7 : decode cX9_between 7 = .ok (.iload_n 2, 1) := by decide +kernel
theorem dX9_between_8 : decode cX9_between 8 = .ok (.goto 16, 3) := by decide +kernel
theorem dX9_between_11 : decode cX9_between 11 = .ok (.lload_n 0, 1) := by decide +kernel
theorem dX9_between_12 : decode cX9_between 12 = .ok (.iload_n 3, 1) := by decide +kernel
theorem dX9_between_13 : decode cX9_between 13 = .ok (.i2l, 1) := by decide +kernel
theorem dX9_between_14 : decode cX9_between 14 = .ok (.lcmp, 1) := by decide +kernel
theorem dX9_between_15 : decode cX9_between 15 = .ok (.ifCond .le 7, 3) := by decide +kernel
theorem dX9_between_18 : decode cX9_between 18 = .ok (.iload_n 3, 1) := by decide +kernel
theorem dX9_between_19 : decode cX9_between 19 = .ok (.goto 5, 3) := by decide +kernel
theorem dX9_between_22 : decode cX9_between 22 = .ok (.lload_n 0, 1) := by decide +kernel
theorem dX9_between_23 : decode cX9_between 23 = .ok (.l2i, 1) := by decide +kernel
theorem dX9_between_24 : decode cX9_between 24 = .ok (.ireturn, 1) := by decide +kernel
theorem dX9_has_0 : decode cX9_has 0 = .ok (.iload_n 0, 1) := by decide +kernel
theorem dX9_has_1 : decode cX9_has 1 = .ok (.iload_n 1, 1) := by decide +kernel
theorem dX9_has_2 : decode cX9_has 2 = .ok (.ishr, 1) := by decide +kernel
theorem dX9_has_3 : decode cX9_has 3 = .ok (.iconst 1, 1) := by decide +kernel
theorem dX9_has_4 : decode cX9_has 4 = .ok (.iand, 1) := by decide +kernel
theorem dX9_has_5 : decode cX9_has 5 = .ok (.iconst 1, 1) := by decide +kernel
theorem dX9_has_6 : decode cX9_has 6 = .ok (.if_icmp .ne 7, 3) := by decide +kernel
theorem dX9_has_9 : decode cX9_has 9 = .ok (.iconst 1, 1) := by decide +kernel
theorem dX9_has_10 : decode cX9_has 10 = .ok (.goto 4, 3) := by decide +kernel
theorem dX9_has_13 : decode cX9_has 13 = .ok (.iconst 0, 1) := by decide +kernel
theorem dX9_has_14 : decode cX9_has 14 = .ok (.ireturn, 1) := by decide +kernel
theorem dX9_isSister_0 : decode cX9_isSister 0 = .ok (.iload_n 1, 1) := by decide +kernel
theorem dX9_isSister_1 : decode cX9_isSister 1 = .ok (.iconst 0, 1) := by decide +kernel
theorem dX9_isSister_2 : decode cX9_isSister 2 = .ok (.aload_n 0, 1) := by decide +kernel
theorem dX9_isSister_3 : decode cX9_isSister 3 = .ok (.getfield 7, 3) := by decide +kernel
theorem dX9_isSister_6 : decode cX9_isSister 6 = .ok (.iconst 0, 1) := by decide +kernel
theorem dX9_isSister_7 : decode cX9_isSister 7 = .ok (.iaload, 1) := by decide +kernel
theorem dX9_isSister_8 : decode cX9_isSister 8 = .ok (.iconst 1, 1) := by decide +kernel
theorem dX9_isSister_9 : decode cX9_isSister 9 = .ok (.isub, 1) := by decide +kernel
theorem dX9_isSister_10 : decode cX9_isSister 10 = .ok (.invokestatic 56, 3) := by decide +kernel
theorem dX9_isSister_13 : decode cX9_isSister 13 = .ok (.ireturn, 1) := by decide +kernel
theorem dX9_isTable_0 : decode cX9_isTable 0 = .ok (.iload_n 0, 1) := by decide +kernel
theorem dX9_isTable_1 : decode cX9_isTable 1 = .ok (.iconst 0, 1) := by decide +kernel
theorem dX9_isTable_2 : decode cX9_isTable 2 = .ok (.iconst 1, 1) := by decide +kernel
theorem dX9_isTable_3 : decode cX9_isTable 3 = .ok (.invokestatic 56, 3) := by decide +kernel
theorem dX9_isTable_6 : decode cX9_isTable 6 = .ok (.ireturn, 1) := by decide +kernel
theorem dX9_isDay_0 : decode cX9_isDay 0 = .ok (.iload_n 0, 1) := by decide +kernel
theorem dX9_isDay_1 : decode cX9_isDay 1 = .ok (.iconst 0, 1) := by decide +kernel
theorem dX9_isDay_2 : decode cX9_isDay 2 = .ok (.sipush 999, 3) := by decide +kernel
theorem dX9_isDay_5 : decode cX9_isDay 5 = .ok (.invokestatic 56, 3) := by decide +kernel
theorem dX9_isDay_8 : decode cX9_isDay 8 = .ok (.ireturn, 1) := by decide +kernel
theorem dX9_seatOf_0 : decode cX9_seatOf 0 = .ok (.aload_n 0, 1) := by decide +kernel
theorem dX9_seatOf_1 : decode cX9_seatOf 1 = .ok (.getfield 7, 3) := by decide +kernel
theorem dX9_seatOf_4 : decode cX9_seatOf 4 = .ok (.bipush 16, 2) := by decide +kernel
theorem dX9_seatOf_6 : decode cX9_seatOf 6 = .ok (.iconst 2, 1) := by decide +kernel
theorem dX9_seatOf_7 : decode cX9_seatOf 7 = .ok (.iload_n 1, 1) := by decide +kernel
theorem dX9_seatOf_8 : decode cX9_seatOf 8 = .ok (.imul, 1) := by decide +kernel
theorem dX9_seatOf_9 : decode cX9_seatOf 9 = .ok (.iadd, 1) := by decide +kernel
theorem dX9_seatOf_10 : decode cX9_seatOf 10 = .ok (.iconst 1, 1) := by decide +kernel
theorem dX9_seatOf_11 : decode cX9_seatOf 11 = .ok (.iadd, 1) := by decide +kernel
theorem dX9_seatOf_12 : decode cX9_seatOf 12 = .ok (.iaload, 1) := by decide +kernel
theorem dX9_seatOf_13 : decode cX9_seatOf 13 = .ok (.ireturn, 1) := by decide +kernel
theorem dX9_sister_0 : decode cX9_sister 0 = .ok (.iload_n 1, 1) := by decide +kernel
theorem dX9_sister_1 : decode cX9_sister 1 = .ok (.iconst 0, 1) := by decide +kernel
theorem dX9_sister_2 : decode cX9_sister 2 = .ok (.bipush 9, 2) := by decide +kernel
theorem dX9_sister_4 : decode cX9_sister 4 = .ok (.invokestatic 56, 3) := by decide +kernel
theorem dX9_sister_7 : decode cX9_sister 7 = .ok (.ifCond .eq 14, 3) := by decide +kernel
theorem dX9_sister_10 : decode cX9_sister 10 = .ok (.aload_n 0, 1) := by decide +kernel
theorem dX9_sister_11 : decode cX9_sister 11 = .ok (.getfield 7, 3) := by decide +kernel
theorem dX9_sister_14 : decode cX9_sister 14 = .ok (.iconst 0, 1) := by decide +kernel
theorem dX9_sister_15 : decode cX9_sister 15 = .ok (.iaload, 1) := by decide +kernel
theorem dX9_sister_16 : decode cX9_sister 16 = .ok (.bipush 6, 2) := by decide +kernel
theorem dX9_sister_18 : decode cX9_sister 18 = .ok (.if_icmp .ne 5, 3) := by decide +kernel
theorem dX9_sister_21 : decode cX9_sister 21 = .ok (.iconst (-1), 1) := by decide +kernel
theorem dX9_sister_22 : decode cX9_sister 22 = .ok (.ireturn, 1) := by decide +kernel
theorem dX9_sister_23 : decode cX9_sister 23 = .ok (.aload_n 0, 1) := by decide +kernel
theorem dX9_sister_24 : decode cX9_sister 24 = .ok (.getfield 7, 3) := by decide +kernel
theorem dX9_sister_27 : decode cX9_sister 27 = .ok (.bipush 16, 2) := by decide +kernel
theorem dX9_sister_29 : decode cX9_sister 29 = .ok (.iconst 2, 1) := by decide +kernel
theorem dX9_sister_30 : decode cX9_sister 30 = .ok (.aload_n 0, 1) := by decide +kernel
theorem dX9_sister_31 : decode cX9_sister 31 = .ok (.getfield 7, 3) := by decide +kernel
theorem dX9_sister_34 : decode cX9_sister 34 = .ok (.iconst 0, 1) := by decide +kernel
theorem dX9_sister_35 : decode cX9_sister 35 = .ok (.iaload, 1) := by decide +kernel
theorem dX9_sister_36 : decode cX9_sister 36 = .ok (.imul, 1) := by decide +kernel
theorem dX9_sister_37 : decode cX9_sister 37 = .ok (.iadd, 1) := by decide +kernel
theorem dX9_sister_38 : decode cX9_sister 38 = .ok (.iload_n 1, 1) := by decide +kernel
theorem dX9_sister_39 : decode cX9_sister 39 = .ok (.iastore, 1) := by decide +kernel
theorem dX9_sister_40 : decode cX9_sister 40 = .ok (.aload_n 0, 1) := by decide +kernel
theorem dX9_sister_41 : decode cX9_sister 41 = .ok (.getfield 7, 3) := by decide +kernel
theorem dX9_sister_44 : decode cX9_sister 44 = .ok (.bipush 16, 2) := by decide +kernel
theorem dX9_sister_46 : decode cX9_sister 46 = .ok (.iconst 2, 1) := by decide +kernel
theorem dX9_sister_47 : decode cX9_sister 47 = .ok (.aload_n 0, 1) := by decide +kernel
theorem dX9_sister_48 : decode cX9_sister 48 = .ok (.getfield 7, 3) := by decide +kernel
theorem dX9_sister_51 : decode cX9_sister 51 = .ok (.iconst 0, 1) := by decide +kernel
theorem dX9_sister_52 : decode cX9_sister 52 = .ok (.iaload, 1) := by decide +kernel
theorem dX9_sister_53 : decode cX9_sister 53 = .ok (.imul, 1) := by decide +kernel
theorem dX9_sister_54 : decode cX9_sister 54 = .ok (.iadd, 1) := by decide +kernel
theorem dX9_sister_55 : decode cX9_sister 55 = .ok (.iconst 1, 1) := by decide +kernel
theorem dX9_sister_56 : decode cX9_sister 56 = .ok (.iadd, 1) := by decide +kernel
theorem dX9_sister_57 : decode cX9_sister 57 = .ok (.iconst 2, 1) := by decide +kernel
theorem dX9_sister_58 : decode cX9_sister 58 = .ok (.iastore, 1) := by decide +kernel
theorem dX9_sister_59 : decode cX9_sister 59 = .ok (.aload_n 0, 1) := by decide +kernel
theorem dX9_sister_60 : decode cX9_sister 60 = .ok (.getfield 7, 3) := by decide +kernel
theorem dX9_sister_63 : decode cX9_sister 63 = .ok (.iconst 0, 1) := by decide +kernel
theorem dX9_sister_64 : decode cX9_sister 64 = .ok (.dup2, 1) := by decide +kernel
theorem dX9_sister_65 : decode cX9_sister 65 = .ok (.iaload, 1) := by decide +kernel
theorem dX9_sister_66 : decode cX9_sister 66 = .ok (.iconst 1, 1) := by decide +kernel
theorem dX9_sister_67 : decode cX9_sister 67 = .ok (.iadd, 1) := by decide +kernel
theorem dX9_sister_68 : decode cX9_sister 68 = .ok (.iastore, 1) := by decide +kernel
theorem dX9_sister_69 : decode cX9_sister 69 = .ok (.aload_n 0, 1) := by decide +kernel
theorem dX9_sister_70 : decode cX9_sister 70 = .ok (.getfield 7, 3) := by decide +kernel
theorem dX9_sister_73 : decode cX9_sister 73 = .ok (.iconst 0, 1) := by decide +kernel
theorem dX9_sister_74 : decode cX9_sister 74 = .ok (.iaload, 1) := by decide +kernel
theorem dX9_sister_75 : decode cX9_sister 75 = .ok (.iconst 1, 1) := by decide +kernel
theorem dX9_sister_76 : decode cX9_sister 76 = .ok (.isub, 1) := by decide +kernel
theorem dX9_sister_77 : decode cX9_sister 77 = .ok (.ireturn, 1) := by decide +kernel
theorem dX9_mice_0 : decode cX9_mice 0 = .ok (.iload_n 1, 1) := by decide +kernel
theorem dX9_mice_1 : decode cX9_mice 1 = .ok (.iconst 0, 1) := by decide +kernel
theorem dX9_mice_2 : decode cX9_mice 2 = .ok (.bipush 10, 2) := by decide +kernel
theorem dX9_mice_4 : decode cX9_mice 4 = .ok (.invokestatic 56, 3) := by decide +kernel
theorem dX9_mice_7 : decode cX9_mice 7 = .ok (.ifCond .ne 5, 3) := by decide +kernel
theorem dX9_mice_10 : decode cX9_mice 10 = .ok (.iconst 0, 1) := by decide +kernel
theorem dX9_mice_11 : decode cX9_mice 11 = .ok (.ireturn, 1) := by decide +kernel
theorem dX9_mice_12 : decode cX9_mice 12 = .ok (.aload_n 0, 1) := by decide +kernel
theorem dX9_mice_13 : decode cX9_mice 13 = .ok (.getfield 7, 3) := by decide +kernel
theorem dX9_mice_16 : decode cX9_mice 16 = .ok (.iconst 2, 1) := by decide +kernel
theorem dX9_mice_17 : decode cX9_mice 17 = .ok (.iload_n 1, 1) := by decide +kernel
theorem dX9_mice_18 : decode cX9_mice 18 = .ok (.iastore, 1) := by decide +kernel
theorem dX9_mice_19 : decode cX9_mice 19 = .ok (.iconst 1, 1) := by decide +kernel
theorem dX9_mice_20 : decode cX9_mice 20 = .ok (.ireturn, 1) := by decide +kernel
theorem dX9_seed_0 : decode cX9_seed 0 = .ok (.iload_n 1, 1) := by decide +kernel
theorem dX9_seed_1 : decode cX9_seed 1 = .ok (.iconst 0, 1) := by decide +kernel
theorem dX9_seed_2 : decode cX9_seed 2 = .ok (.sipush 9999, 3) := by decide +kernel
theorem dX9_seed_5 : decode cX9_seed 5 = .ok (.invokestatic 56, 3) := by decide +kernel
theorem dX9_seed_8 : decode cX9_seed 8 = .ok (.ifCond .ne 5, 3) := by decide +kernel
theorem dX9_seed_11 : decode cX9_seed 11 = .ok (.iconst 0, 1) := by decide +kernel
theorem dX9_seed_12 : decode cX9_seed 12 = .ok (.ireturn, 1) := by decide +kernel
theorem dX9_seed_13 : decode cX9_seed 13 = .ok (.aload_n 0, 1) := by decide +kernel
theorem dX9_seed_14 : decode cX9_seed 14 = .ok (.getfield 7, 3) := by decide +kernel
theorem dX9_seed_17 : decode cX9_seed 17 = .ok (.iconst 3, 1) := by decide +kernel
theorem dX9_seed_18 : decode cX9_seed 18 = .ok (.iload_n 1, 1) := by decide +kernel
theorem dX9_seed_19 : decode cX9_seed 19 = .ok (.iconst 3, 1) := by decide +kernel
theorem dX9_seed_20 : decode cX9_seed 20 = .ok (.imul, 1) := by decide +kernel
theorem dX9_seed_21 : decode cX9_seed 21 = .ok (.bipush 11, 2) := by decide +kernel
theorem dX9_seed_23 : decode cX9_seed 23 = .ok (.iadd, 1) := by decide +kernel
theorem dX9_seed_24 : decode cX9_seed 24 = .ok (.iastore, 1) := by decide +kernel
theorem dX9_seed_25 : decode cX9_seed 25 = .ok (.iconst 1, 1) := by decide +kernel
theorem dX9_seed_26 : decode cX9_seed 26 = .ok (.ireturn, 1) := by decide +kernel
theorem dX9_four_0 : decode cX9_four 0 = .ok (.bipush 24, 2) := by decide +kernel
theorem dX9_four_2 : decode cX9_four 2 = .ok (.istore_n 2, 1) := by decide +kernel
theorem dX9_four_3 : decode cX9_four 3 = .ok (.iload_n 2, 1) := by decide +kernel
theorem dX9_four_4 : decode cX9_four 4 = .ok (.ifCond .lt 35, 3) := by decide +kernel
theorem dX9_four_7 : decode cX9_four 7 = .ok (.aload_n 0, 1) := by decide +kernel
theorem dX9_four_8 : decode cX9_four 8 = .ok (.getfield 19, 3) := by decide +kernel
theorem dX9_four_11 : decode cX9_four 11 = .ok (.aload_n 0, 1) := by decide +kernel
theorem dX9_four_12 : decode cX9_four 12 = .ok (.getfield 60, 3) := by decide +kernel
theorem dX9_four_15 : decode cX9_four 15 = .ok (.iload_n 1, 1) := by decide +kernel
theorem dX9_four_16 : decode cX9_four 16 = .ok (.iload_n 2, 1) := by decide +kernel
theorem dX9_four_17 : decode cX9_four 17 = .ok (.ishr, 1) := by decide +kernel
theorem dX9_four_18 : decode cX9_four 18 = .ok (.sipush 255, 3) := by decide +kernel
theorem dX9_four_21 : decode cX9_four 21 = .ok (.iand, 1) := by decide +kernel
theorem dX9_four_22 : decode cX9_four 22 = .ok (.iastore, 1) := by decide +kernel
theorem dX9_four_23 : decode cX9_four 23 = .ok (.aload_n 0, 1) := by decide +kernel
theorem dX9_four_24 : decode cX9_four 24 = .ok (.dup, 1) := by decide +kernel
theorem dX9_four_25 : decode cX9_four 25 = .ok (.getfield 60, 3) := by decide +kernel
theorem dX9_four_28 : decode cX9_four 28 = .ok (.iconst 1, 1) := by decide +kernel
theorem dX9_four_29 : decode cX9_four 29 = .ok (.iadd, 1) := by decide +kernel
theorem dX9_four_30 : decode cX9_four 30 = .ok (.putfield 60, 3) := by decide +kernel
theorem dX9_four_33 : decode cX9_four 33 = .ok (.iinc 2 (-8), 3) := by decide +kernel
theorem dX9_four_36 : decode cX9_four 36 = .ok (.goto (-33), 3) := by decide +kernel
theorem dX9_four_39 : decode cX9_four 39 = .ok (.return_, 1) := by decide +kernel
theorem dX9_feed_0 : decode cX9_feed 0 = .ok (.aload_n 0, 1) := by decide +kernel
theorem dX9_feed_1 : decode cX9_feed 1 = .ok (.getfield 60, 3) := by decide +kernel
theorem dX9_feed_4 : decode cX9_feed 4 = .ok (.bipush 20, 2) := by decide +kernel
theorem dX9_feed_6 : decode cX9_feed 6 = .ok (.iadd, 1) := by decide +kernel
theorem dX9_feed_7 : decode cX9_feed 7 = .ok (.sipush 300, 3) := by decide +kernel
theorem dX9_feed_10 : decode cX9_feed 10 = .ok (.if_icmp .le 5, 3) := by decide +kernel
theorem dX9_feed_13 : decode cX9_feed 13 = .ok (.iconst (-1), 1) := by decide +kernel
theorem dX9_feed_14 : decode cX9_feed 14 = .ok (.ireturn, 1) := by decide +kernel
theorem dX9_feed_15 : decode cX9_feed 15 = .ok (.aload_n 0, 1) := by decide +kernel
theorem dX9_feed_16 : decode cX9_feed 16 = .ok (.iload_n 1, 1) := by decide +kernel
theorem dX9_feed_17 : decode cX9_feed 17 = .ok (.invokevirtual 63, 3) := by decide +kernel
theorem dX9_feed_20 : decode cX9_feed 20 = .ok (.aload_n 0, 1) := by decide +kernel
theorem dX9_feed_21 : decode cX9_feed 21 = .ok (.iload_n 2, 1) := by decide +kernel
theorem dX9_feed_22 : decode cX9_feed 22 = .ok (.invokevirtual 63, 3) := by decide +kernel
theorem dX9_feed_25 : decode cX9_feed 25 = .ok (.aload_n 0, 1) := by decide +kernel
theorem dX9_feed_26 : decode cX9_feed 26 = .ok (.iload_n 3, 1) := by decide +kernel
theorem dX9_feed_27 : decode cX9_feed 27 = .ok (.invokevirtual 63, 3) := by decide +kernel
theorem dX9_feed_30 : decode cX9_feed 30 = .ok (.aload_n 0, 1) := by decide +kernel
theorem dX9_feed_31 : decode cX9_feed 31 = .ok (.iload 4, 2) := by decide +kernel
theorem dX9_feed_33 : decode cX9_feed 33 = .ok (.invokevirtual 63, 3) := by decide +kernel
theorem dX9_feed_36 : decode cX9_feed 36 = .ok (.aload_n 0, 1) := by decide +kernel
theorem dX9_feed_37 : decode cX9_feed 37 = .ok (.iload 5, 2) := by decide +kernel
theorem dX9_feed_39 : decode cX9_feed 39 = .ok (.invokevirtual 63, 3) := by decide +kernel
theorem dX9_feed_42 : decode cX9_feed 42 = .ok (.aload_n 0, 1) := by decide +kernel
theorem dX9_feed_43 : decode cX9_feed 43 = .ok (.getfield 60, 3) := by decide +kernel
theorem dX9_feed_46 : decode cX9_feed 46 = .ok (.ireturn, 1) := by decide +kernel
theorem dX9_end_0 : decode cX9_end 0 = .ok (.iload_n 1, 1) := by decide +kernel
theorem dX9_end_1 : decode cX9_end 1 = .ok (.iconst 0, 1) := by decide +kernel
theorem dX9_end_2 : decode cX9_end 2 = .ok (.aload_n 0, 1) := by decide +kernel
theorem dX9_end_3 : decode cX9_end 3 = .ok (.getfield 60, 3) := by decide +kernel
theorem dX9_end_6 : decode cX9_end 6 = .ok (.invokestatic 56, 3) := by decide +kernel
theorem dX9_end_9 : decode cX9_end 9 = .ok (.ifCond .ne 5, 3) := by decide +kernel
theorem dX9_end_12 : decode cX9_end 12 = .ok (.iconst (-1), 1) := by decide +kernel
theorem dX9_end_13 : decode cX9_end 13 = .ok (.ireturn, 1) := by decide +kernel
theorem dX9_end_14 : decode cX9_end 14 = .ok (.aload_n 0, 1) := by decide +kernel
theorem dX9_end_15 : decode cX9_end 15 = .ok (.iload_n 1, 1) := by decide +kernel
theorem dX9_end_16 : decode cX9_end 16 = .ok (.putfield 60, 3) := by decide +kernel
theorem dX9_end_19 : decode cX9_end 19 = .ok (.iload_n 1, 1) := by decide +kernel
theorem dX9_end_20 : decode cX9_end 20 = .ok (.ireturn, 1) := by decide +kernel
theorem dX9_byteAt_0 : decode cX9_byteAt 0 = .ok (.iload_n 1, 1) := by decide +kernel
theorem dX9_byteAt_1 : decode cX9_byteAt 1 = .ok (.aload_n 0, 1) := by decide +kernel
theorem dX9_byteAt_2 : decode cX9_byteAt 2 = .ok (.getfield 60, 3) := by decide +kernel
theorem dX9_byteAt_5 : decode cX9_byteAt 5 = .ok (.if_icmp .ge 12, 3) := by decide +kernel
theorem dX9_byteAt_8 : decode cX9_byteAt 8 = .ok (.aload_n 0, 1) := by decide +kernel
theorem dX9_byteAt_9 : decode cX9_byteAt 9 = .ok (.getfield 19, 3) := by decide +kernel
theorem dX9_byteAt_12 : decode cX9_byteAt 12 = .ok (.iload_n 1, 1) := by decide +kernel
theorem dX9_byteAt_13 : decode cX9_byteAt 13 = .ok (.iaload, 1) := by decide +kernel
theorem dX9_byteAt_14 : decode cX9_byteAt 14 = .ok (.goto 4, 3) := by decide +kernel
theorem dX9_byteAt_17 : decode cX9_byteAt 17 = .ok (.iconst (-1), 1) := by decide +kernel
theorem dX9_byteAt_18 : decode cX9_byteAt 18 = .ok (.ireturn, 1) := by decide +kernel
theorem dX9_isLetter_0 : decode cX9_isLetter 0 = .ok (.iload_n 0, 1) := by decide +kernel
theorem dX9_isLetter_1 : decode cX9_isLetter 1 = .ok (.bipush 97, 2) := by decide +kernel
theorem dX9_isLetter_3 : decode cX9_isLetter 3 = .ok (.bipush 122, 2) := by decide +kernel
theorem dX9_isLetter_5 : decode cX9_isLetter 5 = .ok (.invokestatic 56, 3) := by decide +kernel
theorem dX9_isLetter_8 : decode cX9_isLetter 8 = .ok (.ifCond .ne 14, 3) := by decide +kernel
theorem dX9_isLetter_11 : decode cX9_isLetter 11 = .ok (.iload_n 0, 1) := by decide +kernel
theorem dX9_isLetter_12 : decode cX9_isLetter 12 = .ok (.bipush 65, 2) := by decide +kernel
theorem dX9_isLetter_14 : decode cX9_isLetter 14 = .ok (.bipush 90, 2) := by decide +kernel
theorem dX9_isLetter_16 : decode cX9_isLetter 16 = .ok (.invokestatic 56, 3) := by decide +kernel
theorem dX9_isLetter_19 : decode cX9_isLetter 19 = .ok (.ifCond .eq 7, 3) := by decide +kernel
theorem dX9_isLetter_22 : decode cX9_isLetter 22 = .ok (.iconst 1, 1) := by decide +kernel
theorem dX9_isLetter_23 : decode cX9_isLetter 23 = .ok (.goto 4, 3) := by decide +kernel
theorem dX9_isLetter_26 : decode cX9_isLetter 26 = .ok (.iconst 0, 1) := by decide +kernel
theorem dX9_isLetter_27 : decode cX9_isLetter 27 = .ok (.ireturn, 1) := by decide +kernel
theorem dX9_isDigit_0 : decode cX9_isDigit 0 = .ok (.iload_n 0, 1) := by decide +kernel
theorem dX9_isDigit_1 : decode cX9_isDigit 1 = .ok (.bipush 48, 2) := by decide +kernel
theorem dX9_isDigit_3 : decode cX9_isDigit 3 = .ok (.bipush 57, 2) := by decide +kernel
theorem dX9_isDigit_5 : decode cX9_isDigit 5 = .ok (.invokestatic 56, 3) := by decide +kernel
theorem dX9_isDigit_8 : decode cX9_isDigit 8 = .ok (.ireturn, 1) := by decide +kernel
theorem dX9_nextToken_0 : decode cX9_nextToken 0 = .ok (.aload_n 0, 1) := by decide +kernel
theorem dX9_nextToken_1 : decode cX9_nextToken 1 = .ok (.aload_n 0, 1) := by decide +kernel
theorem dX9_nextToken_2 : decode cX9_nextToken 2 = .ok (.getfield 67, 3) := by decide +kernel
theorem dX9_nextToken_5 : decode cX9_nextToken 5 = .ok (.invokevirtual 70, 3) := by decide +kernel
theorem dX9_nextToken_8 : decode cX9_nextToken 8 = .ok (.bipush 32, 2) := by decide +kernel
theorem dX9_nextToken_10 : decode cX9_nextToken 10 = .ok (.if_icmp .eq 16, 3) := by decide +kernel
theorem dX9_nextToken_13 : decode cX9_nextToken 13 = .ok (.aload_n 0, 1) := by decide +kernel
theorem dX9_nextToken_14 : decode cX9_nextToken 14 = .ok (.aload_n 0, 1) := by decide +kernel
theorem dX9_nextToken_15 : decode cX9_nextToken 15 = .ok (.getfield 67, 3) := by decide +kernel
theorem dX9_nextToken_18 : decode cX9_nextToken 18 = .ok (.invokevirtual 70, 3) := by decide +kernel
theorem dX9_nextToken_21 : decode cX9_nextToken 21 = .ok (.bipush 10, 2) := by decide +kernel
theorem dX9_nextToken_23 : decode cX9_nextToken 23 = .ok (.if_icmp .ne 16, 3) := by decide +kernel
theorem dX9_nextToken_26 : decode cX9_nextToken 26 = .ok (.aload_n 0, 1) := by decide +kernel
theorem dX9_nextToken_27 : decode cX9_nextToken 27 = .ok (.dup, 1) := by decide +kernel
theorem dX9_nextToken_28 : decode cX9_nextToken 28 = .ok (.getfield 67, 3) := by decide +kernel
theorem dX9_nextToken_31 : decode cX9_nextToken 31 = .ok (.iconst 1, 1) := by decide +kernel
theorem dX9_nextToken_32 : decode cX9_nextToken 32 = .ok (.iadd, 1) := by decide +kernel
theorem dX9_nextToken_33 : decode cX9_nextToken 33 = .ok (.putfield 67, 3) := by decide +kernel
theorem dX9_nextToken_36 : decode cX9_nextToken 36 = .ok (.goto (-36), 3) := by decide +kernel
theorem dX9_nextToken_39 : decode cX9_nextToken 39 = .ok (.aload_n 0, 1) := by decide +kernel
theorem dX9_nextToken_40 : decode cX9_nextToken 40 = .ok (.aload_n 0, 1) := by decide +kernel
theorem dX9_nextToken_41 : decode cX9_nextToken 41 = .ok (.getfield 67, 3) := by decide +kernel
theorem dX9_nextToken_44 : decode cX9_nextToken 44 = .ok (.putfield 74, 3) := by decide +kernel
theorem dX9_nextToken_47 : decode cX9_nextToken 47 = .ok (.aload_n 0, 1) := by decide +kernel
theorem dX9_nextToken_48 : decode cX9_nextToken 48 = .ok (.aload_n 0, 1) := by decide +kernel
theorem dX9_nextToken_49 : decode cX9_nextToken 49 = .ok (.getfield 67, 3) := by decide +kernel
theorem dX9_nextToken_52 : decode cX9_nextToken 52 = .ok (.invokevirtual 70, 3) := by decide +kernel
theorem dX9_nextToken_55 : decode cX9_nextToken 55 = .ok (.istore_n 1, 1) := by decide +kernel
theorem dX9_nextToken_56 : decode cX9_nextToken 56 = .ok (.iload_n 1, 1) := by decide +kernel
theorem dX9_nextToken_57 : decode cX9_nextToken 57 = .ok (.ifCond .ge 11, 3) := by decide +kernel
theorem dX9_nextToken_60 : decode cX9_nextToken 60 = .ok (.aload_n 0, 1) := by decide +kernel
theorem dX9_nextToken_61 : decode cX9_nextToken 61 = .ok (.iconst 0, 1) := by decide +kernel
theorem dX9_nextToken_62 : decode cX9_nextToken 62 = .ok (.putfield 77, 3) := by decide +kernel
theorem dX9_nextToken_65 : decode cX9_nextToken 65 = .ok (.goto 343, 3) := by decide +kernel
theorem dX9_nextToken_68 : decode cX9_nextToken 68 = .ok (.iload_n 1, 1) := by decide +kernel
theorem dX9_nextToken_69 : decode cX9_nextToken 69 = .ok (.invokestatic 80, 3) := by decide +kernel
theorem dX9_nextToken_72 : decode cX9_nextToken 72 = .ok (.ifCond .eq 72, 3) := by decide +kernel
theorem dX9_nextToken_75 : decode cX9_nextToken 75 = .ok (.aload_n 0, 1) := by decide +kernel
theorem dX9_nextToken_76 : decode cX9_nextToken 76 = .ok (.iconst 1, 1) := by decide +kernel
theorem dX9_nextToken_77 : decode cX9_nextToken 77 = .ok (.putfield 77, 3) := by decide +kernel
theorem dX9_nextToken_80 : decode cX9_nextToken 80 = .ok (.aload_n 0, 1) := by decide +kernel
theorem dX9_nextToken_81 : decode cX9_nextToken 81 = .ok (.iconst 0, 1) := by decide +kernel
theorem dX9_nextToken_82 : decode cX9_nextToken 82 = .ok (.putfield 84, 3) := by decide +kernel
theorem dX9_nextToken_85 : decode cX9_nextToken 85 = .ok (.aload_n 0, 1) := by decide +kernel
theorem dX9_nextToken_86 : decode cX9_nextToken 86 = .ok (.aload_n 0, 1) := by decide +kernel
theorem dX9_nextToken_87 : decode cX9_nextToken 87 = .ok (.getfield 67, 3) := by decide +kernel
theorem dX9_nextToken_90 : decode cX9_nextToken 90 = .ok (.invokevirtual 70, 3) := by decide +kernel
theorem dX9_nextToken_93 : decode cX9_nextToken 93 = .ok (.invokestatic 80, 3) := by decide +kernel
theorem dX9_nextToken_96 : decode cX9_nextToken 96 = .ok (.ifCond .eq 312, 3) := by decide +kernel
theorem dX9_nextToken_99 : decode cX9_nextToken 99 = .ok (.aload_n 0, 1) := by decide +kernel
theorem dX9_nextToken_100 : decode cX9_nextToken 100 = .ok (.getfield 84, 3) := by decide +kernel
theorem dX9_nextToken_103 : decode cX9_nextToken 103 = .ok (.ldc 87, 2) := by decide +kernel
theorem dX9_nextToken_105 : decode cX9_nextToken 105 = .ok (.if_icmp .ge 26, 3) := by decide +kernel
theorem dX9_nextToken_108 : decode cX9_nextToken 108 = .ok (.aload_n 0, 1) := by decide +kernel
theorem dX9_nextToken_109 : decode cX9_nextToken 109 = .ok (.bipush 10, 2) := by decide +kernel
theorem dX9_nextToken_111 : decode cX9_nextToken 111 = .ok (.aload_n 0, 1) := by decide +kernel
theorem dX9_nextToken_112 : decode cX9_nextToken 112 = .ok (.getfield 84, 3) := by decide +kernel
theorem dX9_nextToken_115 : decode cX9_nextToken 115 = .ok (.imul, 1) := by decide +kernel
theorem dX9_nextToken_116 : decode cX9_nextToken 116 = .ok (.aload_n 0, 1) := by decide +kernel
theorem dX9_nextToken_117 : decode cX9_nextToken 117 = .ok (.aload_n 0, 1) := by decide +kernel
theorem dX9_nextToken_118 : decode cX9_nextToken 118 = .ok (.getfield 67, 3) := by decide +kernel
theorem dX9_nextToken_121 : decode cX9_nextToken 121 = .ok (.invokevirtual 70, 3) := by decide +kernel
theorem dX9_nextToken_124 : decode cX9_nextToken 124 = .ok (.iadd, 1) := by decide +kernel
theorem dX9_nextToken_125 : decode cX9_nextToken 125 = .ok (.bipush 48, 2) := by decide +kernel
theorem dX9_nextToken_127 : decode cX9_nextToken 127 = .ok (.isub, 1) := by decide +kernel
theorem dX9_nextToken_128 : decode cX9_nextToken 128 = .ok (.putfield 84, 3) := by decide +kernel
theorem dX9_nextToken_131 : decode cX9_nextToken 131 = .ok (.aload_n 0, 1) := by decide +kernel
theorem dX9_nextToken_132 : decode cX9_nextToken 132 = .ok (.dup, 1) := by decide +kernel
theorem dX9_nextToken_133 : decode cX9_nextToken 133 = .ok (.getfield 67, 3) := by decide +kernel
theorem dX9_nextToken_136 : decode cX9_nextToken 136 = .ok (.iconst 1, 1) := by decide +kernel
theorem dX9_nextToken_137 : decode cX9_nextToken 137 = .ok (.iadd, 1) := by decide +kernel
theorem dX9_nextToken_138 : decode cX9_nextToken 138 = .ok (.putfield 67, 3) := by decide +kernel
theorem dX9_nextToken_141 : decode cX9_nextToken 141 = .ok (.goto (-56), 3) := by decide +kernel
theorem dX9_nextToken_144 : decode cX9_nextToken 144 = .ok (.iload_n 1, 1) := by decide +kernel
theorem dX9_nextToken_145 : decode cX9_nextToken 145 = .ok (.invokestatic 88, 3) := by decide +kernel
theorem dX9_nextToken_148 : decode cX9_nextToken 148 = .ok (.ifCond .eq 97, 3) := by decide +kernel
theorem dX9_nextToken_151 : decode cX9_nextToken 151 = .ok (.aload_n 0, 1) := by decide +kernel
theorem dX9_nextToken_152 : decode cX9_nextToken 152 = .ok (.iconst 2, 1) := by decide +kernel
theorem dX9_nextToken_153 : decode cX9_nextToken 153 = .ok (.putfield 77, 3) := by decide +kernel
theorem dX9_nextToken_156 : decode cX9_nextToken 156 = .ok (.aload_n 0, 1) := by decide +kernel
theorem dX9_nextToken_157 : decode cX9_nextToken 157 = .ok (.lconst 0, 1) := by decide +kernel
theorem dX9_nextToken_158 : decode cX9_nextToken 158 = .ok (.putfield 91, 3) := by decide +kernel
theorem dX9_nextToken_161 : decode cX9_nextToken 161 = .ok (.aload_n 0, 1) := by decide +kernel
theorem dX9_nextToken_162 : decode cX9_nextToken 162 = .ok (.aload_n 0, 1) := by decide +kernel
theorem dX9_nextToken_163 : decode cX9_nextToken 163 = .ok (.getfield 67, 3) := by decide +kernel
theorem dX9_nextToken_166 : decode cX9_nextToken 166 = .ok (.invokevirtual 70, 3) := by decide +kernel
theorem dX9_nextToken_169 : decode cX9_nextToken 169 = .ok (.invokestatic 88, 3) := by decide +kernel
theorem dX9_nextToken_172 : decode cX9_nextToken 172 = .ok (.ifCond .eq 51, 3) := by decide +kernel
theorem dX9_nextToken_175 : decode cX9_nextToken 175 = .ok (.aload_n 0, 1) := by decide +kernel
theorem dX9_nextToken_176 : decode cX9_nextToken 176 = .ok (.getfield 67, 3) := by decide +kernel
theorem dX9_nextToken_179 : decode cX9_nextToken 179 = .ok (.aload_n 0, 1) := by decide +kernel
theorem dX9_nextToken_180 : decode cX9_nextToken 180 = .ok (.getfield 74, 3) := by decide +kernel
theorem dX9_nextToken_183 : decode cX9_nextToken 183 = .ok (.isub, 1) := by decide +kernel
theorem dX9_nextToken_184 : decode cX9_nextToken 184 = .ok (.bipush 7, 2) := by decide +kernel
theorem dX9_nextToken_186 : decode cX9_nextToken 186 = .ok (.if_icmp .ge 24, 3) := by decide +kernel
theorem dX9_nextToken_189 : decode cX9_nextToken 189 = .ok (.aload_n 0, 1) := by decide +kernel
theorem dX9_nextToken_190 : decode cX9_nextToken 190 = .ok (.aload_n 0, 1) := by decide +kernel
theorem dX9_nextToken_191 : decode cX9_nextToken 191 = .ok (.getfield 91, 3) := by decide +kernel
theorem dX9_nextToken_194 : decode cX9_nextToken 194 = .ok (.bipush 8, 2) := by decide +kernel
theorem dX9_nextToken_196 : decode cX9_nextToken 196 = .ok (.lshl, 1) := by decide +kernel
theorem dX9_nextToken_197 : decode cX9_nextToken 197 = .ok (.aload_n 0, 1) := by decide +kernel
theorem dX9_nextToken_198 : decode cX9_nextToken 198 = .ok (.aload_n 0, 1) := by decide +kernel
theorem dX9_nextToken_199 : decode cX9_nextToken 199 = .ok (.getfield 67, 3) := by decide +kernel
theorem dX9_nextToken_202 : decode cX9_nextToken 202 = .ok (.invokevirtual 70, 3) := by decide +kernel
theorem dX9_nextToken_205 : decode cX9_nextToken 205 = .ok (.i2l, 1) := by decide +kernel
theorem dX9_nextToken_206 : decode cX9_nextToken 206 = .ok (.lor, 1) := by decide +kernel
theorem dX9_nextToken_207 : decode cX9_nextToken 207 = .ok (.putfield 91, 3) := by decide +kernel
theorem dX9_nextToken_210 : decode cX9_nextToken 210 = .ok (.aload_n 0, 1) := by decide +kernel
theorem dX9_nextToken_211 : decode cX9_nextToken 211 = .ok (.dup, 1) := by decide +kernel
theorem dX9_nextToken_212 : decode cX9_nextToken 212 = .ok (.getfield 67, 3) := by decide +kernel
theorem dX9_nextToken_215 : decode cX9_nextToken 215 = .ok (.iconst 1, 1) := by decide +kernel
theorem dX9_nextToken_216 : decode cX9_nextToken 216 = .ok (.iadd, 1) := by decide +kernel
theorem dX9_nextToken_217 : decode cX9_nextToken 217 = .ok (.putfield 67, 3) := by decide +kernel
theorem dX9_nextToken_220 : decode cX9_nextToken 220 = .ok (.goto (-59), 3) := by decide +kernel
theorem dX9_nextToken_223 : decode cX9_nextToken 223 = .ok (.aload_n 0, 1) := by decide +kernel
theorem dX9_nextToken_224 : decode cX9_nextToken 224 = .ok (.getfield 67, 3) := by decide +kernel
theorem dX9_nextToken_227 : decode cX9_nextToken 227 = .ok (.aload_n 0, 1) := by decide +kernel
theorem dX9_nextToken_228 : decode cX9_nextToken 228 = .ok (.getfield 74, 3) := by decide +kernel
theorem dX9_nextToken_231 : decode cX9_nextToken 231 = .ok (.isub, 1) := by decide +kernel
theorem dX9_nextToken_232 : decode cX9_nextToken 232 = .ok (.bipush 7, 2) := by decide +kernel
theorem dX9_nextToken_234 : decode cX9_nextToken 234 = .ok (.if_icmp .le 174, 3) := by decide +kernel
theorem dX9_nextToken_237 : decode cX9_nextToken 237 = .ok (.aload_n 0, 1) := by decide +kernel
theorem dX9_nextToken_238 : decode cX9_nextToken 238 = .ok (.lconst 0, 1) := by decide +kernel
theorem dX9_nextToken_239 : decode cX9_nextToken 239 = .ok (.putfield 91, 3) := by decide +kernel
theorem dX9_nextToken_242 : decode cX9_nextToken 242 = .ok (.goto 166, 3) := by decide +kernel
theorem dX9_nextToken_245 : decode cX9_nextToken 245 = .ok (.aload_n 0, 1) := by decide +kernel
theorem dX9_nextToken_246 : decode cX9_nextToken 246 = .ok (.dup, 1) := by decide +kernel
theorem dX9_nextToken_247 : decode cX9_nextToken 247 = .ok (.getfield 67, 3) := by decide +kernel
theorem dX9_nextToken_250 : decode cX9_nextToken 250 = .ok (.iconst 1, 1) := by decide +kernel
theorem dX9_nextToken_251 : decode cX9_nextToken 251 = .ok (.iadd, 1) := by decide +kernel
theorem dX9_nextToken_252 : decode cX9_nextToken 252 = .ok (.putfield 67, 3) := by decide +kernel
theorem dX9_nextToken_255 : decode cX9_nextToken 255 = .ok (.iload_n 1, 1) := by decide +kernel
theorem dX9_nextToken_256 : decode cX9_nextToken 256 = .ok (.bipush 60, 2) := by decide +kernel
theorem dX9_nextToken_258 : decode cX9_nextToken 258 = .ok (.if_icmp .eq 81, 3) := by decide +kernel
theorem dX9_nextToken_261 : decode cX9_nextToken 261 = .ok (.iload_n 1, 1) := by decide +kernel
theorem dX9_nextToken_262 : decode cX9_nextToken 262 = .ok (.bipush 62, 2) := by decide +kernel
theorem dX9_nextToken_264 : decode cX9_nextToken 264 = .ok (.if_icmp .eq 75, 3) := by decide +kernel
theorem dX9_nextToken_267 : decode cX9_nextToken 267 = .ok (.iload_n 1, 1) := by decide +kernel
theorem dX9_nextToken_268 : decode cX9_nextToken 268 = .ok (.bipush 61, 2) := by decide +kernel
theorem dX9_nextToken_270 : decode cX9_nextToken 270 = .ok (.if_icmp .eq 69, 3) := by decide +kernel
theorem dX9_nextToken_273 : decode cX9_nextToken 273 = .ok (.iload_n 1, 1) := by decide +kernel
theorem dX9_nextToken_274 : decode cX9_nextToken 274 = .ok (.bipush 35, 2) := by decide +kernel
theorem dX9_nextToken_276 : decode cX9_nextToken 276 = .ok (.if_icmp .eq 63, 3) := by decide +kernel
theorem dX9_nextToken_279 : decode cX9_nextToken 279 = .ok (.iload_n 1, 1) := by decide +kernel
theorem dX9_nextToken_280 : decode cX9_nextToken 280 = .ok (.bipush 43, 2) := by decide +kernel
theorem dX9_nextToken_282 : decode cX9_nextToken 282 = .ok (.if_icmp .eq 57, 3) := by decide +kernel
theorem dX9_nextToken_285 : decode cX9_nextToken 285 = .ok (.iload_n 1, 1) := by decide +kernel
theorem dX9_nextToken_286 : decode cX9_nextToken 286 = .ok (.bipush 45, 2) := by decide +kernel
theorem dX9_nextToken_288 : decode cX9_nextToken 288 = .ok (.if_icmp .eq 51, 3) := by decide +kernel
theorem dX9_nextToken_291 : decode cX9_nextToken 291 = .ok (.iload_n 1, 1) := by decide +kernel
theorem dX9_nextToken_292 : decode cX9_nextToken 292 = .ok (.bipush 42, 2) := by decide +kernel
theorem dX9_nextToken_294 : decode cX9_nextToken 294 = .ok (.if_icmp .eq 45, 3) := by decide +kernel
theorem dX9_nextToken_297 : decode cX9_nextToken 297 = .ok (.iload_n 1, 1) := by decide +kernel
theorem dX9_nextToken_298 : decode cX9_nextToken 298 = .ok (.bipush 47, 2) := by decide +kernel
theorem dX9_nextToken_300 : decode cX9_nextToken 300 = .ok (.if_icmp .eq 39, 3) := by decide +kernel
theorem dX9_nextToken_303 : decode cX9_nextToken 303 = .ok (.iload_n 1, 1) := by decide +kernel
theorem dX9_nextToken_304 : decode cX9_nextToken 304 = .ok (.bipush 40, 2) := by decide +kernel
theorem dX9_nextToken_306 : decode cX9_nextToken 306 = .ok (.if_icmp .eq 33, 3) := by decide +kernel
theorem dX9_nextToken_309 : decode cX9_nextToken 309 = .ok (.iload_n 1, 1) := by decide +kernel
theorem dX9_nextToken_310 : decode cX9_nextToken 310 = .ok (.bipush 41, 2) := by decide +kernel
theorem dX9_nextToken_312 : decode cX9_nextToken 312 = .ok (.if_icmp .eq 27, 3) := by decide +kernel
theorem dX9_nextToken_315 : decode cX9_nextToken 315 = .ok (.iload_n 1, 1) := by decide +kernel
theorem dX9_nextToken_316 : decode cX9_nextToken 316 = .ok (.bipush 59, 2) := by decide +kernel
theorem dX9_nextToken_318 : decode cX9_nextToken 318 = .ok (.if_icmp .eq 21, 3) := by decide +kernel
theorem dX9_nextToken_321 : decode cX9_nextToken 321 = .ok (.iload_n 1, 1) := by decide +kernel
theorem dX9_nextToken_322 : decode cX9_nextToken 322 = .ok (.bipush 44, 2) := by decide +kernel
theorem dX9_nextToken_324 : decode cX9_nextToken 324 = .ok (.if_icmp .eq 15, 3) := by decide +kernel
theorem dX9_nextToken_327 : decode cX9_nextToken 327 = .ok (.iload_n 1, 1) := by decide +kernel
theorem dX9_nextToken_328 : decode cX9_nextToken 328 = .ok (.bipush 63, 2) := by decide +kernel
theorem dX9_nextToken_330 : decode cX9_nextToken 330 = .ok (.if_icmp .eq 9, 3) := by decide +kernel
theorem dX9_nextToken_333 : decode cX9_nextToken 333 = .ok (.iload_n 1, 1) := by decide +kernel
theorem dX9_nextToken_334 : decode cX9_nextToken 334 = .ok (.bipush 58, 2) := by decide +kernel
theorem dX9_nextToken_336 : decode cX9_nextToken 336 = .ok (.if_icmp .ne 7, 3) := by decide +kernel
theorem dX9_nextToken_339 : decode cX9_nextToken 339 = .ok (.iconst 1, 1) := by decide +kernel
theorem dX9_nextToken_340 : decode cX9_nextToken 340 = .ok (.goto 4, 3) := by decide +kernel
theorem dX9_nextToken_343 : decode cX9_nextToken 343 = .ok (.iconst 0, 1) := by decide +kernel
theorem dX9_nextToken_344 : decode cX9_nextToken 344 = .ok (.istore_n 2, 1) := by decide +kernel
theorem dX9_nextToken_345 : decode cX9_nextToken 345 = .ok (.aload_n 0, 1) := by decide +kernel
theorem dX9_nextToken_346 : decode cX9_nextToken 346 = .ok (.iload_n 2, 1) := by decide +kernel
theorem dX9_nextToken_347 : decode cX9_nextToken 347 = .ok (.ifCond .eq 7, 3) := by decide +kernel
theorem dX9_nextToken_350 : decode cX9_nextToken 350 = .ok (.iload_n 1, 1) := by decide +kernel
theorem dX9_nextToken_351 : decode cX9_nextToken 351 = .ok (.goto 4, 3) := by decide +kernel
theorem dX9_nextToken_354 : decode cX9_nextToken 354 = .ok (.iconst 3, 1) := by decide +kernel
theorem dX9_nextToken_355 : decode cX9_nextToken 355 = .ok (.putfield 77, 3) := by decide +kernel
theorem dX9_nextToken_358 : decode cX9_nextToken 358 = .ok (.iload_n 1, 1) := by decide +kernel
theorem dX9_nextToken_359 : decode cX9_nextToken 359 = .ok (.bipush 60, 2) := by decide +kernel
theorem dX9_nextToken_361 : decode cX9_nextToken 361 = .ok (.if_icmp .eq 9, 3) := by decide +kernel
theorem dX9_nextToken_364 : decode cX9_nextToken 364 = .ok (.iload_n 1, 1) := by decide +kernel
theorem dX9_nextToken_365 : decode cX9_nextToken 365 = .ok (.bipush 62, 2) := by decide +kernel
theorem dX9_nextToken_367 : decode cX9_nextToken 367 = .ok (.if_icmp .ne 41, 3) := by decide +kernel
theorem dX9_nextToken_370 : decode cX9_nextToken 370 = .ok (.aload_n 0, 1) := by decide +kernel
theorem dX9_nextToken_371 : decode cX9_nextToken 371 = .ok (.aload_n 0, 1) := by decide +kernel
theorem dX9_nextToken_372 : decode cX9_nextToken 372 = .ok (.getfield 67, 3) := by decide +kernel
theorem dX9_nextToken_375 : decode cX9_nextToken 375 = .ok (.invokevirtual 70, 3) := by decide +kernel
theorem dX9_nextToken_378 : decode cX9_nextToken 378 = .ok (.bipush 61, 2) := by decide +kernel
theorem dX9_nextToken_380 : decode cX9_nextToken 380 = .ok (.if_icmp .ne 28, 3) := by decide +kernel
theorem dX9_nextToken_383 : decode cX9_nextToken 383 = .ok (.aload_n 0, 1) := by decide +kernel
theorem dX9_nextToken_384 : decode cX9_nextToken 384 = .ok (.dup, 1) := by decide +kernel
theorem dX9_nextToken_385 : decode cX9_nextToken 385 = .ok (.getfield 67, 3) := by decide +kernel
