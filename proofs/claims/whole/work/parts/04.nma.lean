theorem dX12_init_0 : decode cX12_init 0 = .ok (.aload_n 0, 1) := by decide +kernel
theorem dX12_init_1 : decode cX12_init 1 = .ok (.invokespecial 1, 3) := by decide +kernel
theorem dX12_init_4 : decode cX12_init 4 = .ok (.aload_n 0, 1) := by decide +kernel
theorem dX12_init_5 : decode cX12_init 5 = .ok (.sipush 1500, 3) := by decide +kernel
theorem dX12_init_8 : decode cX12_init 8 = .ok (.newarray .byte, 2) := by decide +kernel
theorem dX12_init_10 : decode cX12_init 10 = .ok (.putfield 7, 3) := by decide +kernel
theorem dX12_init_13 : decode cX12_init 13 = .ok (.aload_n 0, 1) := by decide +kernel
theorem dX12_init_14 : decode cX12_init 14 = .ok (.sipush 4000, 3) := by decide +kernel
theorem dX12_init_17 : decode cX12_init 17 = .ok (.newarray .byte, 2) := by decide +kernel
theorem dX12_init_19 : decode cX12_init 19 = .ok (.putfield 13, 3) := by decide +kernel
theorem dX12_init_22 : decode cX12_init 22 = .ok (.aload_n 0, 1) := by decide +kernel
theorem dX12_init_23 : decode cX12_init 23 = .ok (.bipush 64, 2) := by decide +kernel
theorem dX12_init_25 : decode cX12_init 25 = .ok (.newarray .byte, 2) := by decide +kernel
theorem dX12_init_27 : decode cX12_init 27 = .ok (.putfield 16, 3) := by decide +kernel
theorem dX12_init_30 : decode cX12_init 30 = .ok (.aload_n 0, 1) := by decide +kernel
theorem dX12_init_31 : decode cX12_init 31 = .ok (.iconst 4, 1) := by decide +kernel
theorem dX12_init_32 : decode cX12_init 32 = .ok (.newarray .int, 2) := by decide +kernel
theorem dX12_init_34 : decode cX12_init 34 = .ok (.putfield 19, 3) := by decide +kernel
theorem dX12_init_37 : decode cX12_init 37 = .ok (.aload_n 0, 1) := by decide +kernel
theorem dX12_init_38 : decode cX12_init 38 = .ok (.iconst 4, 1) := by decide +kernel
theorem dX12_init_39 : decode cX12_init 39 = .ok (.newarray .long, 2) := by decide +kernel
theorem dX12_init_41 : decode cX12_init 41 = .ok (.putfield 23, 3) := by decide +kernel
theorem dX12_init_44 : decode cX12_init 44 = .ok (.aload_n 0, 1) := by decide +kernel
theorem dX12_init_45 : decode cX12_init 45 = .ok (.iconst 4, 1) := by decide +kernel
theorem dX12_init_46 : decode cX12_init 46 = .ok (.newarray .long, 2) := by decide +kernel
theorem dX12_init_48 : decode cX12_init 48 = .ok (.putfield 27, 3) := by decide +kernel
theorem dX12_init_51 : decode cX12_init 51 = .ok (.aload_n 0, 1) := by decide +kernel
theorem dX12_init_52 : decode cX12_init 52 = .ok (.iconst 4, 1) := by decide +kernel
theorem dX12_init_53 : decode cX12_init 53 = .ok (.newarray .int, 2) := by decide +kernel
theorem dX12_init_55 : decode cX12_init 55 = .ok (.putfield 30, 3) := by decide +kernel
theorem dX12_init_58 : decode cX12_init 58 = .ok (.aload_n 0, 1) := by decide +kernel
theorem dX12_init_59 : decode cX12_init 59 = .ok (.sipush 128, 3) := by decide +kernel
theorem dX12_init_62 : decode cX12_init 62 = .ok (.newarray .int, 2) := by decide +kernel
theorem dX12_init_64 : decode cX12_init 64 = .ok (.putfield 33, 3) := by decide +kernel
theorem dX12_init_67 : decode cX12_init 67 = .ok (.aload_n 0, 1) := by decide +kernel
theorem dX12_init_68 : decode cX12_init 68 = .ok (.sipush 128, 3) := by decide +kernel
theorem dX12_init_71 : decode cX12_init 71 = .ok (.newarray .long, 2) := by decide +kernel
theorem dX12_init_73 : decode cX12_init 73 = .ok (.putfield 36, 3) := by decide +kernel
theorem dX12_init_76 : decode cX12_init 76 = .ok (.aload_n 0, 1) := by decide +kernel
theorem dX12_init_77 : decode cX12_init 77 = .ok (.sipush 128, 3) := by decide +kernel
theorem dX12_init_80 : decode cX12_init 80 = .ok (.newarray .int, 2) := by decide +kernel
theorem dX12_init_82 : decode cX12_init 82 = .ok (.putfield 39, 3) := by decide +kernel
theorem dX12_init_85 : decode cX12_init 85 = .ok (.aload_n 0, 1) := by decide +kernel
theorem dX12_init_86 : decode cX12_init 86 = .ok (.bipush 8, 2) := by decide +kernel
theorem dX12_init_88 : decode cX12_init 88 = .ok (.newarray .int, 2) := by decide +kernel
theorem dX12_init_90 : decode cX12_init 90 = .ok (.putfield 42, 3) := by decide +kernel
theorem dX12_init_93 : decode cX12_init 93 = .ok (.aload_n 0, 1) := by decide +kernel
theorem dX12_init_94 : decode cX12_init 94 = .ok (.bipush 8, 2) := by decide +kernel
theorem dX12_init_96 : decode cX12_init 96 = .ok (.newarray .long, 2) := by decide +kernel
theorem dX12_init_98 : decode cX12_init 98 = .ok (.putfield 45, 3) := by decide +kernel
theorem dX12_init_101 : decode cX12_init 101 = .ok (.aload_n 0, 1) := by decide +kernel
theorem dX12_init_102 : decode cX12_init 102 = .ok (.bipush 8, 2) := by decide +kernel
theorem dX12_init_104 : decode cX12_init 104 = .ok (.newarray .long, 2) := by decide +kernel
theorem dX12_init_106 : decode cX12_init 106 = .ok (.putfield 48, 3) := by decide +kernel
theorem dX12_init_109 : decode cX12_init 109 = .ok (.aload_n 0, 1) := by decide +kernel
theorem dX12_init_110 : decode cX12_init 110 = .ok (.sipush 2400, 3) := by decide +kernel
theorem dX12_init_113 : decode cX12_init 113 = .ok (.newarray .byte, 2) := by decide +kernel
theorem dX12_init_115 : decode cX12_init 115 = .ok (.putfield 51, 3) := by decide +kernel
theorem dX12_init_118 : decode cX12_init 118 = .ok (.aload_n 0, 1) := by decide +kernel
theorem dX12_init_119 : decode cX12_init 119 = .ok (.bipush 8, 2) := by decide +kernel
theorem dX12_init_121 : decode cX12_init 121 = .ok (.newarray .int, 2) := by decide +kernel
theorem dX12_init_123 : decode cX12_init 123 = .ok (.putfield 54, 3) := by decide +kernel
theorem dX12_init_126 : decode cX12_init 126 = .ok (.aload_n 0, 1) := by decide +kernel
theorem dX12_init_127 : decode cX12_init 127 = .ok (.bipush 8, 2) := by decide +kernel
theorem dX12_init_129 : decode cX12_init 129 = .ok (.newarray .int, 2) := by decide +kernel
theorem dX12_init_131 : decode cX12_init 131 = .ok (.putfield 57, 3) := by decide +kernel
theorem dX12_init_134 : decode cX12_init 134 = .ok (.aload_n 0, 1) := by decide +kernel
theorem dX12_init_135 : decode cX12_init 135 = .ok (.bipush 8, 2) := by decide +kernel
theorem dX12_init_137 : decode cX12_init 137 = .ok (.newarray .int, 2) := by decide +kernel
theorem dX12_init_139 : decode cX12_init 139 = .ok (.putfield 60, 3) := by decide +kernel
theorem dX12_init_142 : decode cX12_init 142 = .ok (.aload_n 0, 1) := by decide +kernel
theorem dX12_init_143 : decode cX12_init 143 = .ok (.bipush 8, 2) := by decide +kernel
theorem dX12_init_145 : decode cX12_init 145 = .ok (.newarray .byte, 2) := by decide +kernel
theorem dX12_init_147 : decode cX12_init 147 = .ok (.putfield 63, 3) := by decide +kernel
theorem dX12_init_150 : decode cX12_init 150 = .ok (.aload_n 0, 1) := by decide +kernel
theorem dX12_init_151 : decode cX12_init 151 = .ok (.bipush 6, 2) := by decide +kernel
theorem dX12_init_153 : decode cX12_init 153 = .ok (.newarray .int, 2) := by decide +kernel
theorem dX12_init_155 : decode cX12_init 155 = .ok (.putfield 66, 3) := by decide +kernel
theorem dX12_init_158 : decode cX12_init 158 = .ok (.aload_n 0, 1) := by decide +kernel
theorem dX12_init_159 : decode cX12_init 159 = .ok (.sipush 4000, 3) := by decide +kernel
theorem dX12_init_162 : decode cX12_init 162 = .ok (.newarray .byte, 2) := by decide +kernel
theorem dX12_init_164 : decode cX12_init 164 = .ok (.putfield 69, 3) := by decide +kernel
theorem dX12_init_167 : decode cX12_init 167 = .ok (.aload_n 0, 1) := by decide +kernel
theorem dX12_init_168 : decode cX12_init 168 = .ok (.bipush 8, 2) := by decide +kernel
theorem dX12_init_170 : decode cX12_init 170 = .ok (.newarray .int, 2) := by decide +kernel
theorem dX12_init_172 : decode cX12_init 172 = .ok (.putfield 72, 3) := by decide +kernel
theorem dX12_init_175 : decode cX12_init 175 = .ok (.aload_n 0, 1) := by decide +kernel
theorem dX12_init_176 : decode cX12_init 176 = .ok (.bipush 8, 2) := by decide +kernel
theorem dX12_init_178 : decode cX12_init 178 = .ok (.newarray .int, 2) := by decide +kernel
theorem dX12_init_180 : decode cX12_init 180 = .ok (.putfield 75, 3) := by decide +kernel
theorem dX12_init_183 : decode cX12_init 183 = .ok (.aload_n 0, 1) := by decide +kernel
theorem dX12_init_184 : decode cX12_init 184 = .ok (.bipush 8, 2) := by decide +kernel
theorem dX12_init_186 : decode cX12_init 186 = .ok (.newarray .long, 2) := by decide +kernel
theorem dX12_init_188 : decode cX12_init 188 = .ok (.putfield 78, 3) := by decide +kernel
theorem dX12_init_191 : decode cX12_init 191 = .ok (.aload_n 0, 1) := by decide +kernel
theorem dX12_init_192 : decode cX12_init 192 = .ok (.bipush 8, 2) := by decide +kernel
theorem dX12_init_194 : decode cX12_init 194 = .ok (.newarray .int, 2) := by decide +kernel
theorem dX12_init_196 : decode cX12_init 196 = .ok (.putfield 81, 3) := by decide +kernel
theorem dX12_init_199 : decode cX12_init 199 = .ok (.aload_n 0, 1) := by decide +kernel
theorem dX12_init_200 : decode cX12_init 200 = .ok (.bipush 8, 2) := by decide +kernel
theorem dX12_init_202 : decode cX12_init 202 = .ok (.newarray .long, 2) := by decide +kernel
theorem dX12_init_204 : decode cX12_init 204 = .ok (.putfield 84, 3) := by decide +kernel
theorem dX12_init_207 : decode cX12_init 207 = .ok (.aload_n 0, 1) := by decide +kernel
theorem dX12_init_208 : decode cX12_init 208 = .ok (.bipush 8, 2) := by decide +kernel
theorem dX12_init_210 : decode cX12_init 210 = .ok (.newarray .int, 2) := by decide +kernel
theorem dX12_init_212 : decode cX12_init 212 = .ok (.putfield 87, 3) := by decide +kernel
theorem dX12_init_215 : decode cX12_init 215 = .ok (.aload_n 0, 1) := by decide +kernel
theorem dX12_init_216 : decode cX12_init 216 = .ok (.bipush 8, 2) := by decide +kernel
theorem dX12_init_218 : decode cX12_init 218 = .ok (.newarray .long, 2) := by decide +kernel
theorem dX12_init_220 : decode cX12_init 220 = .ok (.putfield 90, 3) := by decide +kernel
theorem dX12_init_223 : decode cX12_init 223 = .ok (.aload_n 0, 1) := by decide +kernel
theorem dX12_init_224 : decode cX12_init 224 = .ok (.bipush 8, 2) := by decide +kernel
theorem dX12_init_226 : decode cX12_init 226 = .ok (.newarray .long, 2) := by decide +kernel
theorem dX12_init_228 : decode cX12_init 228 = .ok (.putfield 93, 3) := by decide +kernel
theorem dX12_init_231 : decode cX12_init 231 = .ok (.aload_n 0, 1) := by decide +kernel
theorem dX12_init_232 : decode cX12_init 232 = .ok (.iconst (-1), 1) := by decide +kernel
theorem dX12_init_233 : decode cX12_init 233 = .ok (.putfield 96, 3) := by decide +kernel
theorem dX12_init_236 : decode cX12_init 236 = .ok (.aload_n 0, 1) := by decide +kernel
theorem dX12_init_237 : decode cX12_init 237 = .ok (.iconst 5, 1) := by decide +kernel
theorem dX12_init_238 : decode cX12_init 238 = .ok (.newarray .long, 2) := by decide +kernel
theorem dX12_init_240 : decode cX12_init 240 = .ok (.putfield 100, 3) := by decide +kernel
theorem dX12_init_243 : decode cX12_init 243 = .ok (.aload_n 0, 1) := by decide +kernel
theorem dX12_init_244 : decode cX12_init 244 = .ok (.bipush 16, 2) := by decide +kernel
theorem dX12_init_246 : decode cX12_init 246 = .ok (.newarray .int, 2) := by decide +kernel
theorem dX12_init_248 : decode cX12_init 248 = .ok (.putfield 103, 3) := by decide +kernel
theorem dX12_init_251 : decode cX12_init 251 = .ok (.aload_n 0, 1) := by decide +kernel
theorem dX12_init_252 : decode cX12_init 252 = .ok (.bipush 16, 2) := by decide +kernel
theorem dX12_init_254 : decode cX12_init 254 = .ok (.newarray .int, 2) := by decide +kernel
theorem dX12_init_256 : decode cX12_init 256 = .ok (.putfield 106, 3) := by decide +kernel
theorem dX12_init_259 : decode cX12_init 259 = .ok (.aload_n 0, 1) := by decide +kernel
theorem dX12_init_260 : decode cX12_init 260 = .ok (.bipush 16, 2) := by decide +kernel
theorem dX12_init_262 : decode cX12_init 262 = .ok (.newarray .int, 2) := by decide +kernel
theorem dX12_init_264 : decode cX12_init 264 = .ok (.putfield 109, 3) := by decide +kernel
theorem dX12_init_267 : decode cX12_init 267 = .ok (.aload_n 0, 1) := by decide +kernel
theorem dX12_init_268 : decode cX12_init 268 = .ok (.bipush 16, 2) := by decide +kernel
theorem dX12_init_270 : decode cX12_init 270 = .ok (.newarray .long, 2) := by decide +kernel
theorem dX12_init_272 : decode cX12_init 272 = .ok (.putfield 112, 3) := by decide +kernel
theorem dX12_init_275 : decode cX12_init 275 = .ok (.return_, 1) := by decide +kernel
theorem dX12_within_0 : decode cX12_within 0 = .ok (.lload_n 0, 1) := by decide +kernel
theorem dX12_within_1 : decode cX12_within 1 = .ok (.lload_n 2, 1) := by decide +kernel
theorem dX12_within_2 : decode cX12_within 2 = .ok (.lcmp, 1) := by decide +kernel
theorem dX12_within_3 : decode cX12_within 3 = .ok (.ifCond .lt 14, 3) := by decide +kernel
theorem dX12_within_6 : decode cX12_within 6 = .ok (.lload_n 0, 1) := by decide +kernel
theorem dX12_within_7 : decode cX12_within 7 = .ok (.lload 4, 2) := by decide +kernel
theorem dX12_within_9 : decode cX12_within 9 = .ok (.lcmp, 1) := by decide +kernel
theorem dX12_within_10 : decode cX12_within 10 = .ok (.ifCond .gt 7, 3) := by decide +kernel
theorem dX12_within_13 : decode cX12_within 13 = .ok (.iconst 1, 1) := by decide +kernel
theorem dX12_within_14 : decode cX12_within 14 = .ok (.goto 4, 3) := by decide +kernel
theorem dX12_within_17 : decode cX12_within 17 = .ok (.iconst 0, 1) := by decide +kernel
theorem dX12_within_18 : decode cX12_within 18 = .ok (.ireturn, 1) := by decide +kernel
theorem dX12_feed_0 : decode cX12_feed 0 = .ok (.iload_n 3, 1) := by decide +kernel
theorem dX12_feed_1 : decode cX12_feed 1 = .ok (.i2l, 1) := by decide +kernel
theorem dX12_feed_2 : decode cX12_feed 2 = .ok (.lconst 1, 1) := by decide +kernel
theorem dX12_feed_3 : decode cX12_feed 3 = .ok (.ldc2_w 115, 3) := by decide +kernel
theorem dX12_feed_6 : decode cX12_feed 6 = .ok (.invokestatic 117, 3) := by decide +kernel
theorem dX12_feed_9 : decode cX12_feed 9 = .ok (.ifCond .ne 6, 3) := by decide +kernel
theorem dX12_feed_12 : decode cX12_feed 12 = .ok (.bipush (-2), 2) := by decide +kernel
theorem dX12_feed_14 : decode cX12_feed 14 = .ok (.ireturn, 1) := by decide +kernel
theorem dX12_feed_15 : decode cX12_feed 15 = .ok (.aload_n 0, 1) := by decide +kernel
theorem dX12_feed_16 : decode cX12_feed 16 = .ok (.getfield 121, 3) := by decide +kernel
theorem dX12_feed_19 : decode cX12_feed 19 = .ok (.iload_n 3, 1) := by decide +kernel
theorem dX12_feed_20 : decode cX12_feed 20 = .ok (.iadd, 1) := by decide +kernel
theorem dX12_feed_21 : decode cX12_feed 21 = .ok (.sipush 1500, 3) := by decide +kernel
theorem dX12_feed_24 : decode cX12_feed 24 = .ok (.if_icmp .le 6, 3) := by decide +kernel
theorem dX12_feed_27 : decode cX12_feed 27 = .ok (.bipush (-3), 2) := by decide +kernel
theorem dX12_feed_29 : decode cX12_feed 29 = .ok (.ireturn, 1) := by decide +kernel
theorem dX12_feed_30 : decode cX12_feed 30 = .ok (.iconst 0, 1) := by decide +kernel
theorem dX12_feed_31 : decode cX12_feed 31 = .ok (.istore 4, 2) := by decide +kernel
theorem dX12_feed_33 : decode cX12_feed 33 = .ok (.iload 4, 2) := by decide +kernel
theorem dX12_feed_35 : decode cX12_feed 35 = .ok (.iload_n 3, 1) := by decide +kernel
theorem dX12_feed_36 : decode cX12_feed 36 = .ok (.if_icmp .ge 37, 3) := by decide +kernel
theorem dX12_feed_39 : decode cX12_feed 39 = .ok (.aload_n 0, 1) := by decide +kernel
theorem dX12_feed_40 : decode cX12_feed 40 = .ok (.getfield 7, 3) := by decide +kernel
theorem dX12_feed_43 : decode cX12_feed 43 = .ok (.aload_n 0, 1) := by decide +kernel
theorem dX12_feed_44 : decode cX12_feed 44 = .ok (.getfield 121, 3) := by decide +kernel
theorem dX12_feed_47 : decode cX12_feed 47 = .ok (.lload_n 1, 1) := by decide +kernel
theorem dX12_feed_48 : decode cX12_feed 48 = .ok (.bipush 8, 2) := by decide +kernel
theorem dX12_feed_50 : decode cX12_feed 50 = .ok (.iload 4, 2) := by decide +kernel
theorem dX12_feed_52 : decode cX12_feed 52 = .ok (.imul, 1) := by decide +kernel
theorem dX12_feed_53 : decode cX12_feed 53 = .ok (.lshr, 1) := by decide +kernel
theorem dX12_feed_54 : decode cX12_feed 54 = .ok (.l2i, 1) := by decide +kernel
theorem dX12_feed_55 : decode cX12_feed 55 = .ok (.i2b, 1) := by decide +kernel
theorem dX12_feed_56 : decode cX12_feed 56 = .ok (.bastore, 1) := by decide +kernel
theorem dX12_feed_57 : decode cX12_feed 57 = .ok (.aload_n 0, 1) := by decide +kernel
theorem dX12_feed_58 : decode cX12_feed 58 = .ok (.dup, 1) := by decide +kernel
theorem dX12_feed_59 : decode cX12_feed 59 = .ok (.getfield 121, 3) := by decide +kernel
theorem dX12_feed_62 : decode cX12_feed 62 = .ok (.iconst 1, 1) := by decide +kernel
theorem dX12_feed_63 : decode cX12_feed 63 = .ok (.iadd, 1) := by decide +kernel
theorem dX12_feed_64 : decode cX12_feed 64 = .ok (.putfield 121, 3) := by decide +kernel
theorem dX12_feed_67 : decode cX12_feed 67 = .ok (.iinc 4 1, 3) := by decide +kernel
theorem dX12_feed_70 : decode cX12_feed 70 = .ok (.goto (-37), 3) := by decide +kernel
theorem dX12_feed_73 : decode cX12_feed 73 = .ok (.aload_n 0, 1) := by decide +kernel
theorem dX12_feed_74 : decode cX12_feed 74 = .ok (.getfield 121, 3) := by decide +kernel
theorem dX12_feed_77 : decode cX12_feed 77 = .ok (.ireturn, 1) := by decide +kernel
theorem dX12_take_0 : decode cX12_take 0 = .ok (.iconst 0, 1) := by decide +kernel
theorem dX12_take_1 : decode cX12_take 1 = .ok (.istore_n 1, 1) := by decide +kernel
theorem dX12_take_2 : decode cX12_take 2 = .ok (.iload_n 1, 1) := by decide +kernel
theorem dX12_take_3 : decode cX12_take 3 = .ok (.aload_n 0, 1) := by decide +kernel
theorem dX12_take_4 : decode cX12_take 4 = .ok (.getfield 124, 3) := by decide +kernel
theorem dX12_take_7 : decode cX12_take 7 = .ok (.if_icmp .ge 21, 3) := by decide +kernel
theorem dX12_take_10 : decode cX12_take 10 = .ok (.aload_n 0, 1) := by decide +kernel
theorem dX12_take_11 : decode cX12_take 11 = .ok (.getfield 7, 3) := by decide +kernel
theorem dX12_take_14 : decode cX12_take 14 = .ok (.iload_n 1, 1) := by decide +kernel
theorem dX12_take_15 : decode cX12_take 15 = .ok (.aload_n 0, 1) := by decide +kernel
theorem dX12_take_16 : decode cX12_take 16 = .ok (.getfield 13, 3) := by decide +kernel
theorem dX12_take_19 : decode cX12_take 19 = .ok (.iload_n 1, 1) := by decide +kernel
theorem dX12_take_20 : decode cX12_take 20 = .ok (.baload, 1) := by decide +kernel
theorem dX12_take_21 : decode cX12_take 21 = .ok (.bastore, 1) := by decide +kernel
theorem dX12_take_22 : decode cX12_take 22 = .ok (.iinc 1 1, 3) := by decide +kernel
theorem dX12_take_25 : decode cX12_take 25 = .ok (.goto (-23), 3) := by decide +kernel
theorem dX12_take_28 : decode cX12_take 28 = .ok (.aload_n 0, 1) := by decide +kernel
theorem dX12_take_29 : decode cX12_take 29 = .ok (.aload_n 0, 1) := by decide +kernel
theorem dX12_take_30 : decode cX12_take 30 = .ok (.getfield 124, 3) := by decide +kernel
theorem dX12_take_33 : decode cX12_take 33 = .ok (.putfield 121, 3) := by decide +kernel
theorem dX12_take_36 : decode cX12_take 36 = .ok (.aload_n 0, 1) := by decide +kernel
theorem dX12_take_37 : decode cX12_take 37 = .ok (.getfield 121, 3) := by decide +kernel
theorem dX12_take_40 : decode cX12_take 40 = .ok (.ireturn, 1) := by decide +kernel
theorem dX12_spoil_0 : decode cX12_spoil 0 = .ok (.iload_n 1, 1) := by decide +kernel
theorem dX12_spoil_1 : decode cX12_spoil 1 = .ok (.i2l, 1) := by decide +kernel
theorem dX12_spoil_2 : decode cX12_spoil 2 = .ok (.lconst 0, 1) := by decide +kernel
theorem dX12_spoil_3 : decode cX12_spoil 3 = .ok (.aload_n 0, 1) := by decide +kernel
theorem dX12_spoil_4 : decode cX12_spoil 4 = .ok (.getfield 121, 3) := by decide +kernel
theorem dX12_spoil_7 : decode cX12_spoil 7 = .ok (.iconst 1, 1) := by decide +kernel
theorem dX12_spoil_8 : decode cX12_spoil 8 = .ok (.isub, 1) := by decide +kernel
theorem dX12_spoil_9 : decode cX12_spoil 9 = .ok (.i2l, 1) := by decide +kernel
theorem dX12_spoil_10 : decode cX12_spoil 10 = .ok (.invokestatic 117, 3) := by decide +kernel
theorem dX12_spoil_13 : decode cX12_spoil 13 = .ok (.ifCond .ne 6, 3) := by decide +kernel
theorem dX12_spoil_16 : decode cX12_spoil 16 = .ok (.bipush (-2), 2) := by decide +kernel
theorem dX12_spoil_18 : decode cX12_spoil 18 = .ok (.ireturn, 1) := by decide +kernel
theorem dX12_spoil_19 : decode cX12_spoil 19 = .ok (.aload_n 0, 1) := by decide +kernel
theorem dX12_spoil_20 : decode cX12_spoil 20 = .ok (.getfield 7, 3) := by decide +kernel
theorem dX12_spoil_23 : decode cX12_spoil 23 = .ok (.iload_n 1, 1) := by decide +kernel
theorem dX12_spoil_24 : decode cX12_spoil 24 = .ok (.aload_n 0, 1) := by decide +kernel
theorem dX12_spoil_25 : decode cX12_spoil 25 = .ok (.getfield 7, 3) := by decide +kernel
theorem dX12_spoil_28 : decode cX12_spoil 28 = .ok (.iload_n 1, 1) := by decide +kernel
theorem dX12_spoil_29 : decode cX12_spoil 29 = .ok (.baload, 1) := by decide +kernel
theorem dX12_spoil_30 : decode cX12_spoil 30 = .ok (.iload_n 2, 1) := by decide +kernel
theorem dX12_spoil_31 : decode cX12_spoil 31 = .ok (.ixor, 1) := by decide +kernel
theorem dX12_spoil_32 : decode cX12_spoil 32 = .ok (.i2b, 1) := by decide +kernel
theorem dX12_spoil_33 : decode cX12_spoil 33 = .ok (.bastore, 1) := by decide +kernel
theorem dX12_spoil_34 : decode cX12_spoil 34 = .ok (.aload_n 0, 1) := by decide +kernel
theorem dX12_spoil_35 : decode cX12_spoil 35 = .ok (.getfield 7, 3) := by decide +kernel
theorem dX12_spoil_38 : decode cX12_spoil 38 = .ok (.iload_n 1, 1) := by decide +kernel
theorem dX12_spoil_39 : decode cX12_spoil 39 = .ok (.baload, 1) := by decide +kernel
theorem dX12_spoil_40 : decode cX12_spoil 40 = .ok (.sipush 255, 3) := by decide +kernel
theorem dX12_spoil_43 : decode cX12_spoil 43 = .ok (.iand, 1) := by decide +kernel
theorem dX12_spoil_44 : decode cX12_spoil 44 = .ok (.ireturn, 1) := by decide +kernel
theorem dX12_cut_0 : decode cX12_cut 0 = .ok (.iload_n 1, 1) := by decide +kernel
theorem dX12_cut_1 : decode cX12_cut 1 = .ok (.i2l, 1) := by decide +kernel
theorem dX12_cut_2 : decode cX12_cut 2 = .ok (.lconst 0, 1) := by decide +kernel
theorem dX12_cut_3 : decode cX12_cut 3 = .ok (.aload_n 0, 1) := by decide +kernel
theorem dX12_cut_4 : decode cX12_cut 4 = .ok (.getfield 121, 3) := by decide +kernel
theorem dX12_cut_7 : decode cX12_cut 7 = .ok (.i2l, 1) := by decide +kernel
theorem dX12_cut_8 : decode cX12_cut 8 = .ok (.invokestatic 117, 3) := by decide +kernel
theorem dX12_cut_11 : decode cX12_cut 11 = .ok (.ifCond .ne 6, 3) := by decide +kernel
theorem dX12_cut_14 : decode cX12_cut 14 = .ok (.bipush (-2), 2) := by decide +kernel
theorem dX12_cut_16 : decode cX12_cut 16 = .ok (.ireturn, 1) := by decide +kernel
theorem dX12_cut_17 : decode cX12_cut 17 = .ok (.aload_n 0, 1) := by decide +kernel
theorem dX12_cut_18 : decode cX12_cut 18 = .ok (.getfield 121, 3) := by decide +kernel
theorem dX12_cut_21 : decode cX12_cut 21 = .ok (.istore_n 2, 1) := by decide +kernel
theorem dX12_cut_22 : decode cX12_cut 22 = .ok (.aload_n 0, 1) := by decide +kernel
theorem dX12_cut_23 : decode cX12_cut 23 = .ok (.iload_n 1, 1) := by decide +kernel
theorem dX12_cut_24 : decode cX12_cut 24 = .ok (.putfield 121, 3) := by decide +kernel
theorem dX12_cut_27 : decode cX12_cut 27 = .ok (.iload_n 2, 1) := by decide +kernel
theorem dX12_cut_28 : decode cX12_cut 28 = .ok (.ireturn, 1) := by decide +kernel
theorem dX12_size_0 : decode cX12_size 0 = .ok (.aload_n 0, 1) := by decide +kernel
theorem dX12_size_1 : decode cX12_size 1 = .ok (.getfield 124, 3) := by decide +kernel
theorem dX12_size_4 : decode cX12_size 4 = .ok (.ireturn, 1) := by decide +kernel
theorem dX12_out_0 : decode cX12_out 0 = .ok (.iload_n 1, 1) := by decide +kernel
theorem dX12_out_1 : decode cX12_out 1 = .ok (.i2l, 1) := by decide +kernel
theorem dX12_out_2 : decode cX12_out 2 = .ok (.lconst 0, 1) := by decide +kernel
theorem dX12_out_3 : decode cX12_out 3 = .ok (.aload_n 0, 1) := by decide +kernel
theorem dX12_out_4 : decode cX12_out 4 = .ok (.getfield 124, 3) := by decide +kernel
theorem dX12_out_7 : decode cX12_out 7 = .ok (.iconst 1, 1) := by decide +kernel
theorem dX12_out_8 : decode cX12_out 8 = .ok (.isub, 1) := by decide +kernel
theorem dX12_out_9 : decode cX12_out 9 = .ok (.i2l, 1) := by decide +kernel
theorem dX12_out_10 : decode cX12_out 10 = .ok (.invokestatic 117, 3) := by decide +kernel
theorem dX12_out_13 : decode cX12_out 13 = .ok (.ifCond .eq 16, 3) := by decide +kernel
theorem dX12_out_16 : decode cX12_out 16 = .ok (.aload_n 0, 1) := by decide +kernel
theorem dX12_out_17 : decode cX12_out 17 = .ok (.getfield 13, 3) := by decide +kernel
theorem dX12_out_20 : decode cX12_out 20 = .ok (.iload_n 1, 1) := by decide +kernel
theorem dX12_out_21 : decode cX12_out 21 = .ok (.baload, 1) := by decide +kernel
theorem dX12_out_22 : decode cX12_out 22 = .ok (.sipush 255, 3) := by decide +kernel
theorem dX12_out_25 : decode cX12_out 25 = .ok (.iand, 1) := by decide +kernel
theorem dX12_out_26 : decode cX12_out 26 = .ok (.goto 4, 3) := by decide +kernel
theorem dX12_out_29 : decode cX12_out 29 = .ok (.iconst (-1), 1) := by decide +kernel
theorem dX12_out_30 : decode cX12_out 30 = .ok (.ireturn, 1) := by decide +kernel
theorem dX12_beginHash_0 : decode cX12_beginHash 0 = .ok (.aload_n 0, 1) := by decide +kernel
theorem dX12_beginHash_1 : decode cX12_beginHash 1 = .ok (.ldc2_w 127, 3) := by decide +kernel
theorem dX12_beginHash_4 : decode cX12_beginHash 4 = .ok (.putfield 129, 3) := by decide +kernel
theorem dX12_beginHash_7 : decode cX12_beginHash 7 = .ok (.return_, 1) := by decide +kernel
theorem dX12_hashByte_0 : decode cX12_hashByte 0 = .ok (.aload_n 0, 1) := by decide +kernel
theorem dX12_hashByte_1 : decode cX12_hashByte 1 = .ok (.aload_n 0, 1) := by decide +kernel
theorem dX12_hashByte_2 : decode cX12_hashByte 2 = .ok (.getfield 129, 3) := by decide +kernel
theorem dX12_hashByte_5 : decode cX12_hashByte 5 = .ok (.iload_n 1, 1) := by decide +kernel
theorem dX12_hashByte_6 : decode cX12_hashByte 6 = .ok (.sipush 255, 3) := by decide +kernel
theorem dX12_hashByte_9 : decode cX12_hashByte 9 = .ok (.iand, 1) := by decide +kernel
theorem dX12_hashByte_10 : decode cX12_hashByte 10 = .ok (.i2l, 1) := by decide +kernel
theorem dX12_hashByte_11 : decode cX12_hashByte 11 = .ok (.lxor, 1) := by decide +kernel
theorem dX12_hashByte_12 : decode cX12_hashByte 12 = .ok (.ldc2_w 133, 3) := by decide +kernel
theorem dX12_hashByte_15 : decode cX12_hashByte 15 = .ok (.lmul, 1) := by decide +kernel
theorem dX12_hashByte_16 : decode cX12_hashByte 16 = .ok (.putfield 129, 3) := by decide +kernel
theorem dX12_hashByte_19 : decode cX12_hashByte 19 = .ok (.aload_n 0, 1) := by decide +kernel
theorem dX12_hashByte_20 : decode cX12_hashByte 20 = .ok (.aload_n 0, 1) := by decide +kernel
theorem dX12_hashByte_21 : decode cX12_hashByte 21 = .ok (.getfield 129, 3) := by decide +kernel
theorem dX12_hashByte_24 : decode cX12_hashByte 24 = .ok (.aload_n 0, 1) := by decide +kernel
theorem dX12_hashByte_25 : decode cX12_hashByte 25 = .ok (.getfield 129, 3) := by decide +kernel
theorem dX12_hashByte_28 : decode cX12_hashByte 28 = .ok (.bipush 29, 2) := by decide +kernel
theorem dX12_hashByte_30 : decode cX12_hashByte 30 = .ok (.lushr, 1) := by decide +kernel
theorem dX12_hashByte_31 : decode cX12_hashByte 31 = .ok (.lxor, 1) := by decide +kernel
theorem dX12_hashByte_32 : decode cX12_hashByte 32 = .ok (.putfield 129, 3) := by decide +kernel
theorem dX12_hashByte_35 : decode cX12_hashByte 35 = .ok (.return_, 1) := by decide +kernel
theorem dX12_hashLong_0 : decode cX12_hashLong 0 = .ok (.bipush 56, 2) := by decide +kernel
theorem dX12_hashLong_2 : decode cX12_hashLong 2 = .ok (.istore_n 3, 1) := by decide +kernel
theorem dX12_hashLong_3 : decode cX12_hashLong 3 = .ok (.iload_n 3, 1) := by decide +kernel
theorem dX12_hashLong_4 : decode cX12_hashLong 4 = .ok (.ifCond .lt 17, 3) := by decide +kernel
theorem dX12_hashLong_7 : decode cX12_hashLong 7 = .ok (.aload_n 0, 1) := by decide +kernel
theorem dX12_hashLong_8 : decode cX12_hashLong 8 = .ok (.lload_n 1, 1) := by decide +kernel
theorem dX12_hashLong_9 : decode cX12_hashLong 9 = .ok (.iload_n 3, 1) := by decide +kernel
theorem dX12_hashLong_10 : decode cX12_hashLong 10 = .ok (.lshr, 1) := by decide +kernel
theorem dX12_hashLong_11 : decode cX12_hashLong 11 = .ok (.l2i, 1) := by decide +kernel
theorem dX12_hashLong_12 : decode cX12_hashLong 12 = .ok (.invokevirtual 135, 3) := by decide +kernel
theorem dX12_hashLong_15 : decode cX12_hashLong 15 = .ok (.iinc 3 (-8), 3) := by decide +kernel
theorem dX12_hashLong_18 : decode cX12_hashLong 18 = .ok (.goto (-15), 3) := by decide +kernel
theorem dX12_hashLong_21 : decode cX12_hashLong 21 = .ok (.return_, 1) := by decide +kernel
theorem dX12_hashRow_0 : decode cX12_hashRow 0 = .ok (.iload_n 2, 1) := by decide +kernel
theorem dX12_hashRow_1 : decode cX12_hashRow 1 = .ok (.istore 4, 2) := by decide +kernel
theorem dX12_hashRow_3 : decode cX12_hashRow 3 = .ok (.iload 4, 2) := by decide +kernel
theorem dX12_hashRow_5 : decode cX12_hashRow 5 = .ok (.iload_n 3, 1) := by decide +kernel
theorem dX12_hashRow_6 : decode cX12_hashRow 6 = .ok (.if_icmp .ge 17, 3) := by decide +kernel
theorem dX12_hashRow_9 : decode cX12_hashRow 9 = .ok (.aload_n 0, 1) := by decide +kernel
theorem dX12_hashRow_10 : decode cX12_hashRow 10 = .ok (.aload_n 1, 1) := by decide +kernel
theorem dX12_hashRow_11 : decode cX12_hashRow 11 = .ok (.iload 4, 2) := by decide +kernel
theorem dX12_hashRow_13 : decode cX12_hashRow 13 = .ok (.baload, 1) := by decide +kernel
theorem dX12_hashRow_14 : decode cX12_hashRow 14 = .ok (.invokevirtual 135, 3) := by decide +kernel
theorem dX12_hashRow_17 : decode cX12_hashRow 17 = .ok (.iinc 4 1, 3) := by decide +kernel
theorem dX12_hashRow_20 : decode cX12_hashRow 20 = .ok (.goto (-17), 3) := by decide +kernel
theorem dX12_hashRow_23 : decode cX12_hashRow 23 = .ok (.return_, 1) := by decide +kernel
theorem dX12_endHash_0 : decode cX12_endHash 0 = .ok (.aload_n 0, 1) := by decide +kernel
theorem dX12_endHash_1 : decode cX12_endHash 1 = .ok (.getfield 129, 3) := by decide +kernel
theorem dX12_endHash_4 : decode cX12_endHash 4 = .ok (.ldc2_w 139, 3) := by decide +kernel
theorem dX12_endHash_7 : decode cX12_endHash 7 = .ok (.lmul, 1) := by decide +kernel
theorem dX12_endHash_8 : decode cX12_endHash 8 = .ok (.lstore_n 1, 1) := by decide +kernel
theorem dX12_endHash_9 : decode cX12_endHash 9 = .ok (.lload_n 1, 1) := by decide +kernel
theorem dX12_endHash_10 : decode cX12_endHash 10 = .ok (.lload_n 1, 1) := by decide +kernel
theorem dX12_endHash_11 : decode cX12_endHash 11 = .ok (.bipush 32, 2) := by decide +kernel
theorem dX12_endHash_13 : decode cX12_endHash 13 = .ok (.lushr, 1) := by decide +kernel
theorem dX12_endHash_14 : decode cX12_endHash 14 = .ok (.lxor, 1) := by decide +kernel
theorem dX12_endHash_15 : decode cX12_endHash 15 = .ok (.lreturn, 1) := by decide +kernel
theorem dX12_hashOf_0 : decode cX12_hashOf 0 = .ok (.aload_n 0, 1) := by decide +kernel
theorem dX12_hashOf_1 : decode cX12_hashOf 1 = .ok (.invokevirtual 141, 3) := by decide +kernel
theorem dX12_hashOf_4 : decode cX12_hashOf 4 = .ok (.aload_n 0, 1) := by decide +kernel
theorem dX12_hashOf_5 : decode cX12_hashOf 5 = .ok (.aload_n 1, 1) := by decide +kernel
theorem dX12_hashOf_6 : decode cX12_hashOf 6 = .ok (.iload_n 2, 1) := by decide +kernel
theorem dX12_hashOf_7 : decode cX12_hashOf 7 = .ok (.iload_n 3, 1) := by decide +kernel
theorem dX12_hashOf_8 : decode cX12_hashOf 8 = .ok (.invokevirtual 144, 3) := by decide +kernel
theorem dX12_hashOf_11 : decode cX12_hashOf 11 = .ok (.aload_n 0, 1) := by decide +kernel
theorem dX12_hashOf_12 : decode cX12_hashOf 12 = .ok (.invokevirtual 148, 3) := by decide +kernel
theorem dX12_hashOf_15 : decode cX12_hashOf 15 = .ok (.lreturn, 1) := by decide +kernel
theorem dX12_hashOfTwo_0 : decode cX12_hashOfTwo 0 = .ok (.aload_n 0, 1) := by decide +kernel
theorem dX12_hashOfTwo_1 : decode cX12_hashOfTwo 1 = .ok (.invokevirtual 141, 3) := by decide +kernel
theorem dX12_hashOfTwo_4 : decode cX12_hashOfTwo 4 = .ok (.aload_n 0, 1) := by decide +kernel
theorem dX12_hashOfTwo_5 : decode cX12_hashOfTwo 5 = .ok (.lload_n 1, 1) := by decide +kernel
theorem dX12_hashOfTwo_6 : decode cX12_hashOfTwo 6 = .ok (.invokevirtual 152, 3) := by decide +kernel
theorem dX12_hashOfTwo_9 : decode cX12_hashOfTwo 9 = .ok (.aload_n 0, 1) := by decide +kernel
theorem dX12_hashOfTwo_10 : decode cX12_hashOfTwo 10 = .ok (.lload_n 3, 1) := by decide +kernel
theorem dX12_hashOfTwo_11 : decode cX12_hashOfTwo 11 = .ok (.invokevirtual 152, 3) := by decide +kernel
theorem dX12_hashOfTwo_14 : decode cX12_hashOfTwo 14 = .ok (.aload_n 0, 1) := by decide +kernel
theorem dX12_hashOfTwo_15 : decode cX12_hashOfTwo 15 = .ok (.invokevirtual 148, 3) := by decide +kernel
theorem dX12_hashOfTwo_18 : decode cX12_hashOfTwo 18 = .ok (.lreturn, 1) := by decide +kernel
theorem dX12_hashOfKey_0 : decode cX12_hashOfKey 0 = .ok (.aload_n 0, 1) := by decide +kernel
theorem dX12_hashOfKey_1 : decode cX12_hashOfKey 1 = .ok (.invokevirtual 141, 3) := by decide +kernel
theorem dX12_hashOfKey_4 : decode cX12_hashOfKey 4 = .ok (.aload_n 0, 1) := by decide +kernel
theorem dX12_hashOfKey_5 : decode cX12_hashOfKey 5 = .ok (.lload_n 1, 1) := by decide +kernel
theorem dX12_hashOfKey_6 : decode cX12_hashOfKey 6 = .ok (.invokevirtual 152, 3) := by decide +kernel
theorem dX12_hashOfKey_9 : decode cX12_hashOfKey 9 = .ok (.aload_n 0, 1) := by decide +kernel
theorem dX12_hashOfKey_10 : decode cX12_hashOfKey 10 = .ok (.invokevirtual 148, 3) := by decide +kernel
theorem dX12_hashOfKey_13 : decode cX12_hashOfKey 13 = .ok (.lreturn, 1) := by decide +kernel
theorem dX12_rest_0 : decode cX12_rest 0 = .ok (.lload_n 0, 1) := by decide +kernel
theorem dX12_rest_1 : decode cX12_rest 1 = .ok (.iconst 1, 1) := by decide +kernel
theorem dX12_rest_2 : decode cX12_rest 2 = .ok (.lushr, 1) := by decide +kernel
theorem dX12_rest_3 : decode cX12_rest 3 = .ok (.lload_n 2, 1) := by decide +kernel
theorem dX12_rest_4 : decode cX12_rest 4 = .ok (.lrem, 1) := by decide +kernel
theorem dX12_rest_5 : decode cX12_rest 5 = .ok (.ldc2_w 156, 3) := by decide +kernel
theorem dX12_rest_8 : decode cX12_rest 8 = .ok (.lmul, 1) := by decide +kernel
theorem dX12_rest_9 : decode cX12_rest 9 = .ok (.lload_n 0, 1) := by decide +kernel
theorem dX12_rest_10 : decode cX12_rest 10 = .ok (.lconst 1, 1) := by decide +kernel
theorem dX12_rest_11 : decode cX12_rest 11 = .ok (.land, 1) := by decide +kernel
theorem dX12_rest_12 : decode cX12_rest 12 = .ok (.ladd, 1) := by decide +kernel
theorem dX12_rest_13 : decode cX12_rest 13 = .ok (.lload_n 2, 1) := by decide +kernel
theorem dX12_rest_14 : decode cX12_rest 14 = .ok (.lrem, 1) := by decide +kernel
theorem dX12_rest_15 : decode cX12_rest 15 = .ok (.lreturn, 1) := by decide +kernel
theorem dX12_power_0 : decode cX12_power 0 = .ok (.lconst 1, 1) := by decide +kernel
theorem dX12_power_1 : decode cX12_power 1 = .ok (.lstore 4, 2) := by decide +kernel
theorem dX12_power_3 : decode cX12_power 3 = .ok (.bipush 31, 2) := by decide +kernel
theorem dX12_power_5 : decode cX12_power 5 = .ok (.istore 6, 2) := by decide +kernel
theorem dX12_power_7 : decode cX12_power 7 = .ok (.iload 6, 2) := by decide +kernel
theorem dX12_power_9 : decode cX12_power 9 = .ok (.ifCond .lt 46, 3) := by decide +kernel
theorem dX12_power_12 : decode cX12_power 12 = .ok (.lload 4, 2) := by decide +kernel
theorem dX12_power_14 : decode cX12_power 14 = .ok (.lload 4, 2) := by decide +kernel
theorem dX12_power_16 : decode cX12_power 16 = .ok (.lmul, 1) := by decide +kernel
theorem dX12_power_17 : decode cX12_power 17 = .ok (.ldc2_w 158, 3) := by decide +kernel
theorem dX12_power_20 : decode cX12_power 20 = .ok (.lrem, 1) := by decide +kernel
theorem dX12_power_21 : decode cX12_power 21 = .ok (.lstore 4, 2) := by decide +kernel
theorem dX12_power_23 : decode cX12_power 23 = .ok (.lload_n 2, 1) := by decide +kernel
theorem dX12_power_24 : decode cX12_power 24 = .ok (.iload 6, 2) := by decide +kernel
theorem dX12_power_26 : decode cX12_power 26 = .ok (.lshr, 1) := by decide +kernel
theorem dX12_power_27 : decode cX12_power 27 = .ok (.lconst 1, 1) := by decide +kernel
theorem dX12_power_28 : decode cX12_power 28 = .ok (.land, 1) := by decide +kernel
theorem dX12_power_29 : decode cX12_power 29 = .ok (.lconst 1, 1) := by decide +kernel
theorem dX12_power_30 : decode cX12_power 30 = .ok (.lcmp, 1) := by decide +kernel
theorem dX12_power_31 : decode cX12_power 31 = .ok (.ifCond .ne 14, 3) := by decide +kernel
theorem dX12_power_34 : decode cX12_power 34 = .ok (.lload 4, 2) := by decide +kernel
theorem dX12_power_36 : decode cX12_power 36 = .ok (.lload_n 0, 1) := by decide +kernel
theorem dX12_power_37 : decode cX12_power 37 = .ok (.lmul, 1) := by decide +kernel
theorem dX12_power_38 : decode cX12_power 38 = .ok (.ldc2_w 158, 3) := by decide +kernel
theorem dX12_power_41 : decode cX12_power 41 = .ok (.lrem, 1) := by decide +kernel
theorem dX12_power_42 : decode cX12_power 42 = .ok (.goto 5, 3) := by decide +kernel
theorem dX12_power_45 : decode cX12_power 45 = .ok (.lload 4, 2) := by decide +kernel
theorem dX12_power_47 : decode cX12_power 47 = .ok (.lstore 4, 2) := by decide +kernel
theorem dX12_power_49 : decode cX12_power 49 = .ok (.iinc 6 (-1), 3) := by decide +kernel
theorem dX12_power_52 : decode cX12_power 52 = .ok (.goto (-45), 3) := by decide +kernel
theorem dX12_power_55 : decode cX12_power 55 = .ok (.lload 4, 2) := by decide +kernel
theorem dX12_power_57 : decode cX12_power 57 = .ok (.lreturn, 1) := by decide +kernel
theorem dX12_sign_0 : decode cX12_sign 0 = .ok (.aload_n 0, 1) := by decide +kernel
theorem dX12_sign_1 : decode cX12_sign 1 = .ok (.aload_n 3, 1) := by decide +kernel
theorem dX12_sign_2 : decode cX12_sign 2 = .ok (.iload 4, 2) := by decide +kernel
theorem dX12_sign_4 : decode cX12_sign 4 = .ok (.iload 5, 2) := by decide +kernel
theorem dX12_sign_6 : decode cX12_sign 6 = .ok (.invokevirtual 160, 3) := by decide +kernel
theorem dX12_sign_9 : decode cX12_sign 9 = .ok (.lstore 6, 2) := by decide +kernel
theorem dX12_sign_11 : decode cX12_sign 11 = .ok (.lconst 1, 1) := by decide +kernel
theorem dX12_sign_12 : decode cX12_sign 12 = .ok (.aload_n 0, 1) := by decide +kernel
theorem dX12_sign_13 : decode cX12_sign 13 = .ok (.lload_n 1, 1) := by decide +kernel
theorem dX12_sign_14 : decode cX12_sign 14 = .ok (.lload 6, 2) := by decide +kernel
theorem dX12_sign_16 : decode cX12_sign 16 = .ok (.invokevirtual 164, 3) := by decide +kernel
theorem dX12_sign_19 : decode cX12_sign 19 = .ok (.ldc2_w 168, 3) := by decide +kernel
theorem dX12_sign_22 : decode cX12_sign 22 = .ok (.invokestatic 170, 3) := by decide +kernel
theorem dX12_sign_25 : decode cX12_sign 25 = .ok (.ladd, 1) := by decide +kernel
theorem dX12_sign_26 : decode cX12_sign 26 = .ok (.lstore 8, 2) := by decide +kernel
theorem dX12_sign_28 : decode cX12_sign 28 = .ok (.aload_n 0, 1) := by decide +kernel
theorem dX12_sign_29 : decode cX12_sign 29 = .ok (.aload_n 0, 1) := by decide +kernel
theorem dX12_sign_30 : decode cX12_sign 30 = .ok (.ldc2_w 173, 3) := by decide +kernel
theorem dX12_sign_33 : decode cX12_sign 33 = .ok (.lload 8, 2) := by decide +kernel
theorem dX12_sign_35 : decode cX12_sign 35 = .ok (.invokestatic 175, 3) := by decide +kernel
theorem dX12_sign_38 : decode cX12_sign 38 = .ok (.lload 6, 2) := by decide +kernel
theorem dX12_sign_40 : decode cX12_sign 40 = .ok (.invokevirtual 164, 3) := by decide +kernel
theorem dX12_sign_43 : decode cX12_sign 43 = .ok (.ldc2_w 178, 3) := by decide +kernel
theorem dX12_sign_46 : decode cX12_sign 46 = .ok (.invokestatic 170, 3) := by decide +kernel
theorem dX12_sign_49 : decode cX12_sign 49 = .ok (.putfield 180, 3) := by decide +kernel
theorem dX12_sign_52 : decode cX12_sign 52 = .ok (.aload_n 0, 1) := by decide +kernel
theorem dX12_sign_53 : decode cX12_sign 53 = .ok (.lload 8, 2) := by decide +kernel
theorem dX12_sign_55 : decode cX12_sign 55 = .ok (.aload_n 0, 1) := by decide +kernel
theorem dX12_sign_56 : decode cX12_sign 56 = .ok (.getfield 180, 3) := by decide +kernel
theorem dX12_sign_59 : decode cX12_sign 59 = .ok (.lload_n 1, 1) := by decide +kernel
theorem dX12_sign_60 : decode cX12_sign 60 = .ok (.lmul, 1) := by decide +kernel
theorem dX12_sign_61 : decode cX12_sign 61 = .ok (.ldc2_w 178, 3) := by decide +kernel
theorem dX12_sign_64 : decode cX12_sign 64 = .ok (.lrem, 1) := by decide +kernel
theorem dX12_sign_65 : decode cX12_sign 65 = .ok (.ladd, 1) := by decide +kernel
theorem dX12_sign_66 : decode cX12_sign 66 = .ok (.ldc2_w 178, 3) := by decide +kernel
theorem dX12_sign_69 : decode cX12_sign 69 = .ok (.lrem, 1) := by decide +kernel
theorem dX12_sign_70 : decode cX12_sign 70 = .ok (.putfield 183, 3) := by decide +kernel
theorem dX12_sign_73 : decode cX12_sign 73 = .ok (.return_, 1) := by decide +kernel
theorem dX12_four_0 : decode cX12_four 0 = .ok (.aload_n 0, 1) := by decide +kernel
theorem dX12_four_1 : decode cX12_four 1 = .ok (.iload_n 1, 1) := by decide +kernel
theorem dX12_four_2 : decode cX12_four 2 = .ok (.baload, 1) := by decide +kernel
theorem dX12_four_3 : decode cX12_four 3 = .ok (.i2l, 1) := by decide +kernel
theorem dX12_four_4 : decode cX12_four 4 = .ok (.ldc2_w 186, 3) := by decide +kernel
theorem dX12_four_7 : decode cX12_four 7 = .ok (.land, 1) := by decide +kernel
theorem dX12_four_8 : decode cX12_four 8 = .ok (.bipush 24, 2) := by decide +kernel
theorem dX12_four_10 : decode cX12_four 10 = .ok (.lshl, 1) := by decide +kernel
theorem dX12_four_11 : decode cX12_four 11 = .ok (.aload_n 0, 1) := by decide +kernel
theorem dX12_four_12 : decode cX12_four 12 = .ok (.iload_n 1, 1) := by decide +kernel
theorem dX12_four_13 : decode cX12_four 13 = .ok (.iconst 1, 1) := by decide +kernel
theorem dX12_four_14 : decode cX12_four 14 = .ok (.iadd, 1) := by decide +kernel
theorem dX12_four_15 : decode cX12_four 15 = .ok (.baload, 1) := by decide +kernel
theorem dX12_four_16 : decode cX12_four 16 = .ok (.i2l, 1) := by decide +kernel
theorem dX12_four_17 : decode cX12_four 17 = .ok (.ldc2_w 186, 3) := by decide +kernel
theorem dX12_four_20 : decode cX12_four 20 = .ok (.land, 1) := by decide +kernel
theorem dX12_four_21 : decode cX12_four 21 = .ok (.bipush 16, 2) := by decide +kernel
theorem dX12_four_23 : decode cX12_four 23 = .ok (.lshl, 1) := by decide +kernel
theorem dX12_four_24 : decode cX12_four 24 = .ok (.lor, 1) := by decide +kernel
theorem dX12_four_25 : decode cX12_four 25 = .ok (.aload_n 0, 1) := by decide +kernel
theorem dX12_four_26 : decode cX12_four 26 = .ok (.iload_n 1, 1) := by decide +kernel
theorem dX12_four_27 : decode cX12_four 27 = .ok (.iconst 2, 1) := by decide +kernel
theorem dX12_four_28 : decode cX12_four 28 = .ok (.iadd, 1) := by decide +kernel
theorem dX12_four_29 : decode cX12_four 29 = .ok (.baload, 1) := by decide +kernel
theorem dX12_four_30 : decode cX12_four 30 = .ok (.i2l, 1) := by decide +kernel
theorem dX12_four_31 : decode cX12_four 31 = .ok (.ldc2_w 186, 3) := by decide +kernel
theorem dX12_four_34 : decode cX12_four 34 = .ok (.land, 1) := by decide +kernel
theorem dX12_four_35 : decode cX12_four 35 = .ok (.bipush 8, 2) := by decide +kernel
theorem dX12_four_37 : decode cX12_four 37 = .ok (.lshl, 1) := by decide +kernel
theorem dX12_four_38 : decode cX12_four 38 = .ok (.lor, 1) := by decide +kernel
theorem dX12_four_39 : decode cX12_four 39 = .ok (.aload_n 0, 1) := by decide +kernel
theorem dX12_four_40 : decode cX12_four 40 = .ok (.iload_n 1, 1) := by decide +kernel
theorem dX12_four_41 : decode cX12_four 41 = .ok (.iconst 3, 1) := by decide +kernel
theorem dX12_four_42 : decode cX12_four 42 = .ok (.iadd, 1) := by decide +kernel
theorem dX12_four_43 : decode cX12_four 43 = .ok (.baload, 1) := by decide +kernel
theorem dX12_four_44 : decode cX12_four 44 = .ok (.i2l, 1) := by decide +kernel
theorem dX12_four_45 : decode cX12_four 45 = .ok (.ldc2_w 186, 3) := by decide +kernel
theorem dX12_four_48 : decode cX12_four 48 = .ok (.land, 1) := by decide +kernel
theorem dX12_four_49 : decode cX12_four 49 = .ok (.lor, 1) := by decide +kernel
theorem dX12_four_50 : decode cX12_four 50 = .ok (.lreturn, 1) := by decide +kernel
theorem dX12_isRight_0 : decode cX12_isRight 0 = .ok (.aload_n 3, 1) := by decide +kernel
theorem dX12_isRight_1 : decode cX12_isRight 1 = .ok (.iload 6, 2) := by decide +kernel
theorem dX12_isRight_3 : decode cX12_isRight 3 = .ok (.invokestatic 188, 3) := by decide +kernel
theorem dX12_isRight_6 : decode cX12_isRight 6 = .ok (.lstore 7, 2) := by decide +kernel
theorem dX12_isRight_8 : decode cX12_isRight 8 = .ok (.aload_n 3, 1) := by decide +kernel
theorem dX12_isRight_9 : decode cX12_isRight 9 = .ok (.iload 6, 2) := by decide +kernel
theorem dX12_isRight_11 : decode cX12_isRight 11 = .ok (.iconst 4, 1) := by decide +kernel
theorem dX12_isRight_12 : decode cX12_isRight 12 = .ok (.iadd, 1) := by decide +kernel
theorem dX12_isRight_13 : decode cX12_isRight 13 = .ok (.invokestatic 188, 3) := by decide +kernel
theorem dX12_isRight_16 : decode cX12_isRight 16 = .ok (.lstore 9, 2) := by decide +kernel
theorem dX12_isRight_18 : decode cX12_isRight 18 = .ok (.lload 7, 2) := by decide +kernel
theorem dX12_isRight_20 : decode cX12_isRight 20 = .ok (.ldc2_w 178, 3) := by decide +kernel
theorem dX12_isRight_23 : decode cX12_isRight 23 = .ok (.lcmp, 1) := by decide +kernel
theorem dX12_isRight_24 : decode cX12_isRight 24 = .ok (.ifCond .ge 12, 3) := by decide +kernel
theorem dX12_isRight_27 : decode cX12_isRight 27 = .ok (.lload 9, 2) := by decide +kernel
theorem dX12_isRight_29 : decode cX12_isRight 29 = .ok (.ldc2_w 178, 3) := by decide +kernel
theorem dX12_isRight_32 : decode cX12_isRight 32 = .ok (.lcmp, 1) := by decide +kernel
theorem dX12_isRight_33 : decode cX12_isRight 33 = .ok (.ifCond .lt 5, 3) := by decide +kernel
theorem dX12_isRight_36 : decode cX12_isRight 36 = .ok (.iconst 0, 1) := by decide +kernel
theorem dX12_isRight_37 : decode cX12_isRight 37 = .ok (.ireturn, 1) := by decide +kernel
theorem dX12_isRight_38 : decode cX12_isRight 38 = .ok (.aload_n 0, 1) := by decide +kernel
theorem dX12_isRight_39 : decode cX12_isRight 39 = .ok (.aload_n 3, 1) := by decide +kernel
theorem dX12_isRight_40 : decode cX12_isRight 40 = .ok (.iload 4, 2) := by decide +kernel
theorem dX12_isRight_42 : decode cX12_isRight 42 = .ok (.iload 5, 2) := by decide +kernel
theorem dX12_isRight_44 : decode cX12_isRight 44 = .ok (.invokevirtual 160, 3) := by decide +kernel
theorem dX12_isRight_47 : decode cX12_isRight 47 = .ok (.lstore 11, 2) := by decide +kernel
theorem dX12_isRight_49 : decode cX12_isRight 49 = .ok (.ldc2_w 173, 3) := by decide +kernel
theorem dX12_isRight_52 : decode cX12_isRight 52 = .ok (.lload 9, 2) := by decide +kernel
theorem dX12_isRight_54 : decode cX12_isRight 54 = .ok (.invokestatic 175, 3) := by decide +kernel
theorem dX12_isRight_57 : decode cX12_isRight 57 = .ok (.lload_n 1, 1) := by decide +kernel
theorem dX12_isRight_58 : decode cX12_isRight 58 = .ok (.ldc2_w 178, 3) := by decide +kernel
theorem dX12_isRight_61 : decode cX12_isRight 61 = .ok (.lload 7, 2) := by decide +kernel
theorem dX12_isRight_63 : decode cX12_isRight 63 = .ok (.lsub, 1) := by decide +kernel
theorem dX12_isRight_64 : decode cX12_isRight 64 = .ok (.invokestatic 175, 3) := by decide +kernel
theorem dX12_isRight_67 : decode cX12_isRight 67 = .ok (.lmul, 1) := by decide +kernel
theorem dX12_isRight_68 : decode cX12_isRight 68 = .ok (.ldc2_w 158, 3) := by decide +kernel
theorem dX12_isRight_71 : decode cX12_isRight 71 = .ok (.lrem, 1) := by decide +kernel
theorem dX12_isRight_72 : decode cX12_isRight 72 = .ok (.lstore 13, 2) := by decide +kernel
theorem dX12_isRight_74 : decode cX12_isRight 74 = .ok (.aload_n 0, 1) := by decide +kernel
theorem dX12_isRight_75 : decode cX12_isRight 75 = .ok (.lload 13, 2) := by decide +kernel
theorem dX12_isRight_77 : decode cX12_isRight 77 = .ok (.lload 11, 2) := by decide +kernel
theorem dX12_isRight_79 : decode cX12_isRight 79 = .ok (.invokevirtual 164, 3) := by decide +kernel
theorem dX12_isRight_82 : decode cX12_isRight 82 = .ok (.ldc2_w 178, 3) := by decide +kernel
theorem dX12_isRight_85 : decode cX12_isRight 85 = .ok (.invokestatic 170, 3) := by decide +kernel
theorem dX12_isRight_88 : decode cX12_isRight 88 = .ok (.lload 7, 2) := by decide +kernel
theorem dX12_isRight_90 : decode cX12_isRight 90 = .ok (.lcmp, 1) := by decide +kernel
theorem dX12_isRight_91 : decode cX12_isRight 91 = .ok (.ifCond .ne 7, 3) := by decide +kernel
theorem dX12_isRight_94 : decode cX12_isRight 94 = .ok (.iconst 1, 1) := by decide +kernel
theorem dX12_isRight_95 : decode cX12_isRight 95 = .ok (.goto 4, 3) := by decide +kernel
theorem dX12_isRight_98 : decode cX12_isRight 98 = .ok (.iconst 0, 1) := by decide +kernel
theorem dX12_isRight_99 : decode cX12_isRight 99 = .ok (.ireturn, 1) := by decide +kernel
theorem dX12_daysOf_0 : decode cX12_daysOf 0 = .ok (.iload_n 1, 1) := by decide +kernel
theorem dX12_daysOf_1 : decode cX12_daysOf 1 = .ok (.iconst 2, 1) := by decide +kernel
theorem dX12_daysOf_2 : decode cX12_daysOf 2 = .ok (.if_icmp .ne 8, 3) := by decide +kernel
theorem dX12_daysOf_5 : decode cX12_daysOf 5 = .ok (.bipush 28, 2) := by decide +kernel
theorem dX12_daysOf_7 : decode cX12_daysOf 7 = .ok (.goto 33, 3) := by decide +kernel
theorem dX12_daysOf_10 : decode cX12_daysOf 10 = .ok (.iload_n 1, 1) := by decide +kernel
theorem dX12_daysOf_11 : decode cX12_daysOf 11 = .ok (.iconst 4, 1) := by decide +kernel
theorem dX12_daysOf_12 : decode cX12_daysOf 12 = .ok (.if_icmp .eq 21, 3) := by decide +kernel
theorem dX12_daysOf_15 : decode cX12_daysOf 15 = .ok (.iload_n 1, 1) := by decide +kernel
theorem dX12_daysOf_16 : decode cX12_daysOf 16 = .ok (.bipush 6, 2) := by decide +kernel
theorem dX12_daysOf_18 : decode cX12_daysOf 18 = .ok (.if_icmp .eq 15, 3) := by decide +kernel
theorem dX12_daysOf_21 : decode cX12_daysOf 21 = .ok (.iload_n 1, 1) := by decide +kernel
theorem dX12_daysOf_22 : decode cX12_daysOf 22 = .ok (.bipush 9, 2) := by decide +kernel
theorem dX12_daysOf_24 : decode cX12_daysOf 24 = .ok (.if_icmp .eq 9, 3) := by decide +kernel
theorem dX12_daysOf_27 : decode cX12_daysOf 27 = .ok (.iload_n 1, 1) := by decide +kernel
theorem dX12_daysOf_28 : decode cX12_daysOf 28 = .ok (.bipush 11, 2) := by decide +kernel
theorem dX12_daysOf_30 : decode cX12_daysOf 30 = .ok (.if_icmp .ne 8, 3) := by decide +kernel
theorem dX12_daysOf_33 : decode cX12_daysOf 33 = .ok (.bipush 30, 2) := by decide +kernel
theorem dX12_daysOf_35 : decode cX12_daysOf 35 = .ok (.goto 5, 3) := by decide +kernel
theorem dX12_daysOf_38 : decode cX12_daysOf 38 = .ok (.bipush 31, 2) := by decide +kernel
theorem dX12_daysOf_40 : decode cX12_daysOf 40 = .ok (.istore_n 2, 1) := by decide +kernel
theorem dX12_daysOf_41 : decode cX12_daysOf 41 = .ok (.iload_n 1, 1) := by decide +kernel
theorem dX12_daysOf_42 : decode cX12_daysOf 42 = .ok (.iconst 2, 1) := by decide +kernel
theorem dX12_daysOf_43 : decode cX12_daysOf 43 = .ok (.if_icmp .ne 14, 3) := by decide +kernel
theorem dX12_daysOf_46 : decode cX12_daysOf 46 = .ok (.iload_n 0, 1) := by decide +kernel
theorem dX12_daysOf_47 : decode cX12_daysOf 47 = .ok (.iconst 4, 1) := by decide +kernel
theorem dX12_daysOf_48 : decode cX12_daysOf 48 = .ok (.irem, 1) := by decide +kernel
theorem dX12_daysOf_49 : decode cX12_daysOf 49 = .ok (.ifCond .ne 8, 3) := by decide +kernel
theorem dX12_daysOf_52 : decode cX12_daysOf 52 = .ok (.bipush 29, 2) := by decide +kernel
theorem dX12_daysOf_54 : decode cX12_daysOf 54 = .ok (.goto 4, 3) := by decide +kernel
theorem dX12_daysOf_57 : decode cX12_daysOf 57 = .ok (.iload_n 2, 1) := by decide +kernel
theorem dX12_daysOf_58 : decode cX12_daysOf 58 = .ok (.ireturn, 1) := by decide +kernel
theorem dX12_show_0 : decode cX12_show 0 = .ok (.lload_n 1, 1) := by decide +kernel
theorem dX12_show_1 : decode cX12_show 1 = .ok (.ldc2_w 192, 3) := by decide +kernel
theorem dX12_show_4 : decode cX12_show 4 = .ok (.ldiv, 1) := by decide +kernel
theorem dX12_show_5 : decode cX12_show 5 = .ok (.l2i, 1) := by decide +kernel
theorem dX12_show_6 : decode cX12_show 6 = .ok (.istore_n 3, 1) := by decide +kernel
theorem dX12_show_7 : decode cX12_show 7 = .ok (.lload_n 1, 1) := by decide +kernel
theorem dX12_show_8 : decode cX12_show 8 = .ok (.ldc2_w 192, 3) := by decide +kernel
theorem dX12_show_11 : decode cX12_show 11 = .ok (.lrem, 1) := by decide +kernel
theorem dX12_show_12 : decode cX12_show 12 = .ok (.l2i, 1) := by decide +kernel
theorem dX12_show_13 : decode cX12_show 13 = .ok (.istore 4, 2) := by decide +kernel
theorem dX12_show_15 : decode cX12_show 15 = .ok (.sipush 2000, 3) := by decide +kernel
theorem dX12_show_18 : decode cX12_show 18 = .ok (.istore 5, 2) := by decide +kernel
theorem dX12_show_20 : decode cX12_show 20 = .ok (.iconst 1, 1) := by decide +kernel
theorem dX12_show_21 : decode cX12_show 21 = .ok (.istore 6, 2) := by decide +kernel
theorem dX12_show_23 : decode cX12_show 23 = .ok (.iload_n 3, 1) := by decide +kernel
theorem dX12_show_24 : decode cX12_show 24 = .ok (.iload 5, 2) := by decide +kernel
theorem dX12_show_26 : decode cX12_show 26 = .ok (.iload 6, 2) := by decide +kernel
theorem dX12_show_28 : decode cX12_show 28 = .ok (.invokestatic 194, 3) := by decide +kernel
theorem dX12_show_31 : decode cX12_show 31 = .ok (.if_icmp .lt 49, 3) := by decide +kernel
theorem dX12_show_34 : decode cX12_show 34 = .ok (.iload_n 3, 1) := by decide +kernel
theorem dX12_show_35 : decode cX12_show 35 = .ok (.iload 5, 2) := by decide +kernel
theorem dX12_show_37 : decode cX12_show 37 = .ok (.iload 6, 2) := by decide +kernel
theorem dX12_show_39 : decode cX12_show 39 = .ok (.invokestatic 194, 3) := by decide +kernel
theorem dX12_show_42 : decode cX12_show 42 = .ok (.isub, 1) := by decide +kernel
theorem dX12_show_43 : decode cX12_show 43 = .ok (.istore_n 3, 1) := by decide +kernel
theorem dX12_show_44 : decode cX12_show 44 = .ok (.iload 6, 2) := by decide +kernel
theorem dX12_show_46 : decode cX12_show 46 = .ok (.bipush 12, 2) := by decide +kernel
theorem dX12_show_48 : decode cX12_show 48 = .ok (.if_icmp .ne 7, 3) := by decide +kernel
theorem dX12_show_51 : decode cX12_show 51 = .ok (.iconst 1, 1) := by decide +kernel
theorem dX12_show_52 : decode cX12_show 52 = .ok (.goto 7, 3) := by decide +kernel
theorem dX12_show_55 : decode cX12_show 55 = .ok (.iload 6, 2) := by decide +kernel
theorem dX12_show_57 : decode cX12_show 57 = .ok (.iconst 1, 1) := by decide +kernel
theorem dX12_show_58 : decode cX12_show 58 = .ok (.iadd, 1) := by decide +kernel
theorem dX12_show_59 : decode cX12_show 59 = .ok (.istore 6, 2) := by decide +kernel
theorem dX12_show_61 : decode cX12_show 61 = .ok (.iload 5, 2) := by decide +kernel
theorem dX12_show_63 : decode cX12_show 63 = .ok (.iload 6, 2) := by decide +kernel
theorem dX12_show_65 : decode cX12_show 65 = .ok (.iconst 1, 1) := by decide +kernel
theorem dX12_show_66 : decode cX12_show 66 = .ok (.if_icmp .ne 7, 3) := by decide +kernel
theorem dX12_show_69 : decode cX12_show 69 = .ok (.iconst 1, 1) := by decide +kernel
theorem dX12_show_70 : decode cX12_show 70 = .ok (.goto 4, 3) := by decide +kernel
theorem dX12_show_73 : decode cX12_show 73 = .ok (.iconst 0, 1) := by decide +kernel
theorem dX12_show_74 : decode cX12_show 74 = .ok (.iadd, 1) := by decide +kernel
theorem dX12_show_75 : decode cX12_show 75 = .ok (.istore 5, 2) := by decide +kernel
theorem dX12_show_77 : decode cX12_show 77 = .ok (.goto (-54), 3) := by decide +kernel
theorem dX12_show_80 : decode cX12_show 80 = .ok (.aload_n 0, 1) := by decide +kernel
theorem dX12_show_81 : decode cX12_show 81 = .ok (.getfield 66, 3) := by decide +kernel
theorem dX12_show_84 : decode cX12_show 84 = .ok (.iconst 0, 1) := by decide +kernel
theorem dX12_show_85 : decode cX12_show 85 = .ok (.iload 5, 2) := by decide +kernel
theorem dX12_show_87 : decode cX12_show 87 = .ok (.iastore, 1) := by decide +kernel
theorem dX12_show_88 : decode cX12_show 88 = .ok (.aload_n 0, 1) := by decide +kernel
theorem dX12_show_89 : decode cX12_show 89 = .ok (.getfield 66, 3) := by decide +kernel
theorem dX12_show_92 : decode cX12_show 92 = .ok (.iconst 1, 1) := by decide +kernel
theorem dX12_show_93 : decode cX12_show 93 = .ok (.iload 6, 2) := by decide +kernel
theorem dX12_show_95 : decode cX12_show 95 = .ok (.iastore, 1) := by decide +kernel
theorem dX12_show_96 : decode cX12_show 96 = .ok (.aload_n 0, 1) := by decide +kernel
theorem dX12_show_97 : decode cX12_show 97 = .ok (.getfield 66, 3) := by decide +kernel
theorem dX12_show_100 : decode cX12_show 100 = .ok (.iconst 2, 1) := by decide +kernel
theorem dX12_show_101 : decode cX12_show 101 = .ok (.iload_n 3, 1) := by decide +kernel
theorem dX12_show_102 : decode cX12_show 102 = .ok (.iconst 1, 1) := by decide +kernel
theorem dX12_show_103 : decode cX12_show 103 = .ok (.iadd, 1) := by decide +kernel
theorem dX12_show_104 : decode cX12_show 104 = .ok (.iastore, 1) := by decide +kernel
theorem dX12_show_105 : decode cX12_show 105 = .ok (.aload_n 0, 1) := by decide +kernel
theorem dX12_show_106 : decode cX12_show 106 = .ok (.getfield 66, 3) := by decide +kernel
theorem dX12_show_109 : decode cX12_show 109 = .ok (.iconst 3, 1) := by decide +kernel
theorem dX12_show_110 : decode cX12_show 110 = .ok (.iload 4, 2) := by decide +kernel
theorem dX12_show_112 : decode cX12_show 112 = .ok (.sipush 3600, 3) := by decide +kernel
theorem dX12_show_115 : decode cX12_show 115 = .ok (.idiv, 1) := by decide +kernel
theorem dX12_show_116 : decode cX12_show 116 = .ok (.iastore, 1) := by decide +kernel
theorem dX12_show_117 : decode cX12_show 117 = .ok (.aload_n 0, 1) := by decide +kernel
theorem dX12_show_118 : decode cX12_show 118 = .ok (.getfield 66, 3) := by decide +kernel
theorem dX12_show_121 : decode cX12_show 121 = .ok (.iconst 4, 1) := by decide +kernel
theorem dX12_show_122 : decode cX12_show 122 = .ok (.iload 4, 2) := by decide +kernel
theorem dX12_show_124 : decode cX12_show 124 = .ok (.bipush 60, 2) := by decide +kernel
theorem dX12_show_126 : decode cX12_show 126 = .ok (.idiv, 1) := by decide +kernel
theorem dX12_show_127 : decode cX12_show 127 = .ok (.bipush 60, 2) := by decide +kernel
theorem dX12_show_129 : decode cX12_show 129 = .ok (.irem, 1) := by decide +kernel
theorem dX12_show_130 : decode cX12_show 130 = .ok (.iastore, 1) := by decide +kernel
theorem dX12_show_131 : decode cX12_show 131 = .ok (.aload_n 0, 1) := by decide +kernel
theorem dX12_show_132 : decode cX12_show 132 = .ok (.getfield 66, 3) := by decide +kernel
theorem dX12_show_135 : decode cX12_show 135 = .ok (.iconst 5, 1) := by decide +kernel
theorem dX12_show_136 : decode cX12_show 136 = .ok (.iload 4, 2) := by decide +kernel
theorem dX12_show_138 : decode cX12_show 138 = .ok (.bipush 60, 2) := by decide +kernel
theorem dX12_show_140 : decode cX12_show 140 = .ok (.irem, 1) := by decide +kernel
theorem dX12_show_141 : decode cX12_show 141 = .ok (.iastore, 1) := by decide +kernel
theorem dX12_show_142 : decode cX12_show 142 = .ok (.return_, 1) := by decide +kernel
theorem dX12_character_0 : decode cX12_character 0 = .ok (.iload_n 1, 1) := by decide +kernel
theorem dX12_character_1 : decode cX12_character 1 = .ok (.bipush 14, 2) := by decide +kernel
theorem dX12_character_3 : decode cX12_character 3 = .ok (.if_icmp .ne 6, 3) := by decide +kernel
theorem dX12_character_6 : decode cX12_character 6 = .ok (.bipush 90, 2) := by decide +kernel
theorem dX12_character_8 : decode cX12_character 8 = .ok (.ireturn, 1) := by decide +kernel
theorem dX12_character_9 : decode cX12_character 9 = .ok (.iload_n 1, 1) := by decide +kernel
theorem dX12_character_10 : decode cX12_character 10 = .ok (.iconst 4, 1) := by decide +kernel
theorem dX12_character_11 : decode cX12_character 11 = .ok (.if_icmp .ge 48, 3) := by decide +kernel
theorem dX12_character_14 : decode cX12_character 14 = .ok (.bipush 48, 2) := by decide +kernel
theorem dX12_character_16 : decode cX12_character 16 = .ok (.aload_n 0, 1) := by decide +kernel
theorem dX12_character_17 : decode cX12_character 17 = .ok (.getfield 66, 3) := by decide +kernel
theorem dX12_character_20 : decode cX12_character 20 = .ok (.iconst 0, 1) := by decide +kernel
theorem dX12_character_21 : decode cX12_character 21 = .ok (.iaload, 1) := by decide +kernel
theorem dX12_character_22 : decode cX12_character 22 = .ok (.iload_n 1, 1) := by decide +kernel
theorem dX12_character_23 : decode cX12_character 23 = .ok (.ifCond .ne 9, 3) := by decide +kernel
theorem dX12_character_26 : decode cX12_character 26 = .ok (.sipush 1000, 3) := by decide +kernel
theorem dX12_character_29 : decode cX12_character 29 = .ok (.goto 24, 3) := by decide +kernel
theorem dX12_character_32 : decode cX12_character 32 = .ok (.iload_n 1, 1) := by decide +kernel
theorem dX12_character_33 : decode cX12_character 33 = .ok (.iconst 1, 1) := by decide +kernel
theorem dX12_character_34 : decode cX12_character 34 = .ok (.if_icmp .ne 8, 3) := by decide +kernel
theorem dX12_character_37 : decode cX12_character 37 = .ok (.bipush 100, 2) := by decide +kernel
theorem dX12_character_39 : decode cX12_character 39 = .ok (.goto 14, 3) := by decide +kernel
theorem dX12_character_42 : decode cX12_character 42 = .ok (.iload_n 1, 1) := by decide +kernel
theorem dX12_character_43 : decode cX12_character 43 = .ok (.iconst 2, 1) := by decide +kernel
theorem dX12_character_44 : decode cX12_character 44 = .ok (.if_icmp .ne 8, 3) := by decide +kernel
theorem dX12_character_47 : decode cX12_character 47 = .ok (.bipush 10, 2) := by decide +kernel
theorem dX12_character_49 : decode cX12_character 49 = .ok (.goto 4, 3) := by decide +kernel
theorem dX12_character_52 : decode cX12_character 52 = .ok (.iconst 1, 1) := by decide +kernel
theorem dX12_character_53 : decode cX12_character 53 = .ok (.idiv, 1) := by decide +kernel
theorem dX12_character_54 : decode cX12_character 54 = .ok (.bipush 10, 2) := by decide +kernel
theorem dX12_character_56 : decode cX12_character 56 = .ok (.irem, 1) := by decide +kernel
theorem dX12_character_57 : decode cX12_character 57 = .ok (.iadd, 1) := by decide +kernel
theorem dX12_character_58 : decode cX12_character 58 = .ok (.ireturn, 1) := by decide +kernel
theorem dX12_character_59 : decode cX12_character 59 = .ok (.aload_n 0, 1) := by decide +kernel
theorem dX12_character_60 : decode cX12_character 60 = .ok (.getfield 66, 3) := by decide +kernel
theorem dX12_character_63 : decode cX12_character 63 = .ok (.iload_n 1, 1) := by decide +kernel
theorem dX12_character_64 : decode cX12_character 64 = .ok (.iconst 2, 1) := by decide +kernel
theorem dX12_character_65 : decode cX12_character 65 = .ok (.idiv, 1) := by decide +kernel
theorem dX12_character_66 : decode cX12_character 66 = .ok (.iconst 1, 1) := by decide +kernel
theorem dX12_character_67 : decode cX12_character 67 = .ok (.isub, 1) := by decide +kernel
theorem dX12_character_68 : decode cX12_character 68 = .ok (.iaload, 1) := by decide +kernel
theorem dX12_character_69 : decode cX12_character 69 = .ok (.istore_n 2, 1) := by decide +kernel
theorem dX12_character_70 : decode cX12_character 70 = .ok (.bipush 48, 2) := by decide +kernel
theorem dX12_character_72 : decode cX12_character 72 = .ok (.iload_n 1, 1) := by decide +kernel
theorem dX12_character_73 : decode cX12_character 73 = .ok (.iconst 2, 1) := by decide +kernel
theorem dX12_character_74 : decode cX12_character 74 = .ok (.irem, 1) := by decide +kernel
theorem dX12_character_75 : decode cX12_character 75 = .ok (.ifCond .ne 10, 3) := by decide +kernel
theorem dX12_character_78 : decode cX12_character 78 = .ok (.iload_n 2, 1) := by decide +kernel
theorem dX12_character_79 : decode cX12_character 79 = .ok (.bipush 10, 2) := by decide +kernel
theorem dX12_character_81 : decode cX12_character 81 = .ok (.idiv, 1) := by decide +kernel
theorem dX12_character_82 : decode cX12_character 82 = .ok (.goto 7, 3) := by decide +kernel
theorem dX12_character_85 : decode cX12_character 85 = .ok (.iload_n 2, 1) := by decide +kernel
theorem dX12_character_86 : decode cX12_character 86 = .ok (.bipush 10, 2) := by decide +kernel
theorem dX12_character_88 : decode cX12_character 88 = .ok (.irem, 1) := by decide +kernel
theorem dX12_character_89 : decode cX12_character 89 = .ok (.iadd, 1) := by decide +kernel
theorem dX12_character_90 : decode cX12_character 90 = .ok (.ireturn, 1) := by decide +kernel
theorem dX12_clock_0 : decode cX12_clock 0 = .ok (.lload_n 1, 1) := by decide +kernel
theorem dX12_clock_1 : decode cX12_clock 1 = .ok (.lconst 0, 1) := by decide +kernel
theorem dX12_clock_2 : decode cX12_clock 2 = .ok (.ldc2_w 198, 3) := by decide +kernel
theorem dX12_clock_5 : decode cX12_clock 5 = .ok (.invokestatic 117, 3) := by decide +kernel
theorem dX12_clock_8 : decode cX12_clock 8 = .ok (.ifCond .eq 15, 3) := by decide +kernel
theorem dX12_clock_11 : decode cX12_clock 11 = .ok (.iload_n 3, 1) := by decide +kernel
theorem dX12_clock_12 : decode cX12_clock 12 = .ok (.i2l, 1) := by decide +kernel
theorem dX12_clock_13 : decode cX12_clock 13 = .ok (.lconst 0, 1) := by decide +kernel
theorem dX12_clock_14 : decode cX12_clock 14 = .ok (.ldc2_w 200, 3) := by decide +kernel
theorem dX12_clock_17 : decode cX12_clock 17 = .ok (.invokestatic 117, 3) := by decide +kernel
theorem dX12_clock_20 : decode cX12_clock 20 = .ok (.ifCond .ne 6, 3) := by decide +kernel
theorem dX12_clock_23 : decode cX12_clock 23 = .ok (.bipush (-2), 2) := by decide +kernel
theorem dX12_clock_25 : decode cX12_clock 25 = .ok (.ireturn, 1) := by decide +kernel
theorem dX12_clock_26 : decode cX12_clock 26 = .ok (.aload_n 0, 1) := by decide +kernel
theorem dX12_clock_27 : decode cX12_clock 27 = .ok (.lload_n 1, 1) := by decide +kernel
theorem dX12_clock_28 : decode cX12_clock 28 = .ok (.invokevirtual 202, 3) := by decide +kernel
theorem dX12_clock_31 : decode cX12_clock 31 = .ok (.aload_n 0, 1) := by decide +kernel
theorem dX12_clock_32 : decode cX12_clock 32 = .ok (.iload_n 3, 1) := by decide +kernel
theorem dX12_clock_33 : decode cX12_clock 33 = .ok (.invokevirtual 205, 3) := by decide +kernel
theorem dX12_clock_36 : decode cX12_clock 36 = .ok (.ireturn, 1) := by decide +kernel
theorem dX12_two_0 : decode cX12_two 0 = .ok (.bipush 10, 2) := by decide +kernel
theorem dX12_two_2 : decode cX12_two 2 = .ok (.aload_n 0, 1) := by decide +kernel
theorem dX12_two_3 : decode cX12_two 3 = .ok (.iload_n 1, 1) := by decide +kernel
theorem dX12_two_4 : decode cX12_two 4 = .ok (.baload, 1) := by decide +kernel
theorem dX12_two_5 : decode cX12_two 5 = .ok (.bipush 48, 2) := by decide +kernel
theorem dX12_two_7 : decode cX12_two 7 = .ok (.isub, 1) := by decide +kernel
theorem dX12_two_8 : decode cX12_two 8 = .ok (.imul, 1) := by decide +kernel
theorem dX12_two_9 : decode cX12_two 9 = .ok (.aload_n 0, 1) := by decide +kernel
theorem dX12_two_10 : decode cX12_two 10 = .ok (.iload_n 1, 1) := by decide +kernel
theorem dX12_two_11 : decode cX12_two 11 = .ok (.iconst 1, 1) := by decide +kernel
theorem dX12_two_12 : decode cX12_two 12 = .ok (.iadd, 1) := by decide +kernel
theorem dX12_two_13 : decode cX12_two 13 = .ok (.baload, 1) := by decide +kernel
theorem dX12_two_14 : decode cX12_two 14 = .ok (.iadd, 1) := by decide +kernel
theorem dX12_two_15 : decode cX12_two 15 = .ok (.bipush 48, 2) := by decide +kernel
theorem dX12_two_17 : decode cX12_two 17 = .ok (.isub, 1) := by decide +kernel
theorem dX12_two_18 : decode cX12_two 18 = .ok (.ireturn, 1) := by decide +kernel
theorem dX12_timeOf_0 : decode cX12_timeOf 0 = .ok (.iconst 0, 1) := by decide +kernel
theorem dX12_timeOf_1 : decode cX12_timeOf 1 = .ok (.istore_n 2, 1) := by decide +kernel
theorem dX12_timeOf_2 : decode cX12_timeOf 2 = .ok (.iload_n 2, 1) := by decide +kernel
theorem dX12_timeOf_3 : decode cX12_timeOf 3 = .ok (.bipush 14, 2) := by decide +kernel
theorem dX12_timeOf_5 : decode cX12_timeOf 5 = .ok (.if_icmp .ge 31, 3) := by decide +kernel
theorem dX12_timeOf_8 : decode cX12_timeOf 8 = .ok (.aload_n 0, 1) := by decide +kernel
theorem dX12_timeOf_9 : decode cX12_timeOf 9 = .ok (.iload_n 1, 1) := by decide +kernel
theorem dX12_timeOf_10 : decode cX12_timeOf 10 = .ok (.iload_n 2, 1) := by decide +kernel
theorem dX12_timeOf_11 : decode cX12_timeOf 11 = .ok (.iadd, 1) := by decide +kernel
theorem dX12_timeOf_12 : decode cX12_timeOf 12 = .ok (.baload, 1) := by decide +kernel
theorem dX12_timeOf_13 : decode cX12_timeOf 13 = .ok (.i2l, 1) := by decide +kernel
theorem dX12_timeOf_14 : decode cX12_timeOf 14 = .ok (.ldc2_w 209, 3) := by decide +kernel
theorem dX12_timeOf_17 : decode cX12_timeOf 17 = .ok (.ldc2_w 211, 3) := by decide +kernel
theorem dX12_timeOf_20 : decode cX12_timeOf 20 = .ok (.invokestatic 117, 3) := by decide +kernel
theorem dX12_timeOf_23 : decode cX12_timeOf 23 = .ok (.ifCond .ne 7, 3) := by decide +kernel
theorem dX12_timeOf_26 : decode cX12_timeOf 26 = .ok (.ldc2_w 213, 3) := by decide +kernel
theorem dX12_timeOf_29 : decode cX12_timeOf 29 = .ok (.lreturn, 1) := by decide +kernel
theorem dX12_timeOf_30 : decode cX12_timeOf 30 = .ok (.iinc 2 1, 3) := by decide +kernel
theorem dX12_timeOf_33 : decode cX12_timeOf 33 = .ok (.goto (-31), 3) := by decide +kernel
theorem dX12_timeOf_36 : decode cX12_timeOf 36 = .ok (.aload_n 0, 1) := by decide +kernel
theorem dX12_timeOf_37 : decode cX12_timeOf 37 = .ok (.iload_n 1, 1) := by decide +kernel
theorem dX12_timeOf_38 : decode cX12_timeOf 38 = .ok (.iconst 2, 1) := by decide +kernel
theorem dX12_timeOf_39 : decode cX12_timeOf 39 = .ok (.iadd, 1) := by decide +kernel
theorem dX12_timeOf_40 : decode cX12_timeOf 40 = .ok (.invokestatic 215, 3) := by decide +kernel
theorem dX12_timeOf_43 : decode cX12_timeOf 43 = .ok (.istore_n 2, 1) := by decide +kernel
theorem dX12_timeOf_44 : decode cX12_timeOf 44 = .ok (.aload_n 0, 1) := by decide +kernel
theorem dX12_timeOf_45 : decode cX12_timeOf 45 = .ok (.iload_n 1, 1) := by decide +kernel
theorem dX12_timeOf_46 : decode cX12_timeOf 46 = .ok (.iconst 4, 1) := by decide +kernel
theorem dX12_timeOf_47 : decode cX12_timeOf 47 = .ok (.iadd, 1) := by decide +kernel
theorem dX12_timeOf_48 : decode cX12_timeOf 48 = .ok (.invokestatic 215, 3) := by decide +kernel
theorem dX12_timeOf_51 : decode cX12_timeOf 51 = .ok (.istore_n 3, 1) := by decide +kernel
theorem dX12_timeOf_52 : decode cX12_timeOf 52 = .ok (.aload_n 0, 1) := by decide +kernel
theorem dX12_timeOf_53 : decode cX12_timeOf 53 = .ok (.iload_n 1, 1) := by decide +kernel
theorem dX12_timeOf_54 : decode cX12_timeOf 54 = .ok (.bipush 6, 2) := by decide +kernel
theorem dX12_timeOf_56 : decode cX12_timeOf 56 = .ok (.iadd, 1) := by decide +kernel
theorem dX12_timeOf_57 : decode cX12_timeOf 57 = .ok (.invokestatic 215, 3) := by decide +kernel
theorem dX12_timeOf_60 : decode cX12_timeOf 60 = .ok (.istore 4, 2) := by decide +kernel
theorem dX12_timeOf_62 : decode cX12_timeOf 62 = .ok (.aload_n 0, 1) := by decide +kernel
theorem dX12_timeOf_63 : decode cX12_timeOf 63 = .ok (.iload_n 1, 1) := by decide +kernel
theorem dX12_timeOf_64 : decode cX12_timeOf 64 = .ok (.invokestatic 215, 3) := by decide +kernel
theorem dX12_timeOf_67 : decode cX12_timeOf 67 = .ok (.bipush 20, 2) := by decide +kernel
theorem dX12_timeOf_69 : decode cX12_timeOf 69 = .ok (.if_icmp .ne 81, 3) := by decide +kernel
theorem dX12_timeOf_72 : decode cX12_timeOf 72 = .ok (.aload_n 0, 1) := by decide +kernel
theorem dX12_timeOf_73 : decode cX12_timeOf 73 = .ok (.iload_n 1, 1) := by decide +kernel
theorem dX12_timeOf_74 : decode cX12_timeOf 74 = .ok (.bipush 14, 2) := by decide +kernel
theorem dX12_timeOf_76 : decode cX12_timeOf 76 = .ok (.iadd, 1) := by decide +kernel
theorem dX12_timeOf_77 : decode cX12_timeOf 77 = .ok (.baload, 1) := by decide +kernel
theorem dX12_timeOf_78 : decode cX12_timeOf 78 = .ok (.bipush 90, 2) := by decide +kernel
theorem dX12_timeOf_80 : decode cX12_timeOf 80 = .ok (.if_icmp .ne 70, 3) := by decide +kernel
theorem dX12_timeOf_83 : decode cX12_timeOf 83 = .ok (.iload_n 3, 1) := by decide +kernel
theorem dX12_timeOf_84 : decode cX12_timeOf 84 = .ok (.i2l, 1) := by decide +kernel
theorem dX12_timeOf_85 : decode cX12_timeOf 85 = .ok (.lconst 1, 1) := by decide +kernel
theorem dX12_timeOf_86 : decode cX12_timeOf 86 = .ok (.ldc2_w 219, 3) := by decide +kernel
theorem dX12_timeOf_89 : decode cX12_timeOf 89 = .ok (.invokestatic 117, 3) := by decide +kernel
theorem dX12_timeOf_92 : decode cX12_timeOf 92 = .ok (.ifCond .eq 58, 3) := by decide +kernel
theorem dX12_timeOf_95 : decode cX12_timeOf 95 = .ok (.iload 4, 2) := by decide +kernel
theorem dX12_timeOf_97 : decode cX12_timeOf 97 = .ok (.iconst 1, 1) := by decide +kernel
theorem dX12_timeOf_98 : decode cX12_timeOf 98 = .ok (.if_icmp .lt 52, 3) := by decide +kernel
theorem dX12_timeOf_101 : decode cX12_timeOf 101 = .ok (.iload 4, 2) := by decide +kernel
theorem dX12_timeOf_103 : decode cX12_timeOf 103 = .ok (.iload_n 2, 1) := by decide +kernel
theorem dX12_timeOf_104 : decode cX12_timeOf 104 = .ok (.iload_n 3, 1) := by decide +kernel
theorem dX12_timeOf_105 : decode cX12_timeOf 105 = .ok (.invokestatic 194, 3) := by decide +kernel
theorem dX12_timeOf_108 : decode cX12_timeOf 108 = .ok (.if_icmp .gt 42, 3) := by decide +kernel
theorem dX12_timeOf_111 : decode cX12_timeOf 111 = .ok (.aload_n 0, 1) := by decide +kernel
theorem dX12_timeOf_112 : decode cX12_timeOf 112 = .ok (.iload_n 1, 1) := by decide +kernel
theorem dX12_timeOf_113 : decode cX12_timeOf 113 = .ok (.bipush 8, 2) := by decide +kernel
theorem dX12_timeOf_115 : decode cX12_timeOf 115 = .ok (.iadd, 1) := by decide +kernel
theorem dX12_timeOf_116 : decode cX12_timeOf 116 = .ok (.invokestatic 215, 3) := by decide +kernel
theorem dX12_timeOf_119 : decode cX12_timeOf 119 = .ok (.bipush 23, 2) := by decide +kernel
theorem dX12_timeOf_121 : decode cX12_timeOf 121 = .ok (.if_icmp .gt 29, 3) := by decide +kernel
theorem dX12_timeOf_124 : decode cX12_timeOf 124 = .ok (.aload_n 0, 1) := by decide +kernel
theorem dX12_timeOf_125 : decode cX12_timeOf 125 = .ok (.iload_n 1, 1) := by decide +kernel
theorem dX12_timeOf_126 : decode cX12_timeOf 126 = .ok (.bipush 10, 2) := by decide +kernel
theorem dX12_timeOf_128 : decode cX12_timeOf 128 = .ok (.iadd, 1) := by decide +kernel
theorem dX12_timeOf_129 : decode cX12_timeOf 129 = .ok (.invokestatic 215, 3) := by decide +kernel
theorem dX12_timeOf_132 : decode cX12_timeOf 132 = .ok (.bipush 59, 2) := by decide +kernel
theorem dX12_timeOf_134 : decode cX12_timeOf 134 = .ok (.if_icmp .gt 16, 3) := by decide +kernel
theorem dX12_timeOf_137 : decode cX12_timeOf 137 = .ok (.aload_n 0, 1) := by decide +kernel
theorem dX12_timeOf_138 : decode cX12_timeOf 138 = .ok (.iload_n 1, 1) := by decide +kernel
theorem dX12_timeOf_139 : decode cX12_timeOf 139 = .ok (.bipush 12, 2) := by decide +kernel
theorem dX12_timeOf_141 : decode cX12_timeOf 141 = .ok (.iadd, 1) := by decide +kernel
theorem dX12_timeOf_142 : decode cX12_timeOf 142 = .ok (.invokestatic 215, 3) := by decide +kernel
theorem dX12_timeOf_145 : decode cX12_timeOf 145 = .ok (.bipush 59, 2) := by decide +kernel
theorem dX12_timeOf_147 : decode cX12_timeOf 147 = .ok (.if_icmp .le 7, 3) := by decide +kernel
theorem dX12_timeOf_150 : decode cX12_timeOf 150 = .ok (.ldc2_w 213, 3) := by decide +kernel
theorem dX12_timeOf_153 : decode cX12_timeOf 153 = .ok (.lreturn, 1) := by decide +kernel
theorem dX12_timeOf_154 : decode cX12_timeOf 154 = .ok (.lconst 0, 1) := by decide +kernel
theorem dX12_timeOf_155 : decode cX12_timeOf 155 = .ok (.lstore 5, 2) := by decide +kernel
theorem dX12_timeOf_157 : decode cX12_timeOf 157 = .ok (.iconst 0, 1) := by decide +kernel
theorem dX12_timeOf_158 : decode cX12_timeOf 158 = .ok (.istore 7, 2) := by decide +kernel
theorem dX12_timeOf_160 : decode cX12_timeOf 160 = .ok (.iload 7, 2) := by decide +kernel
theorem dX12_timeOf_162 : decode cX12_timeOf 162 = .ok (.iload_n 2, 1) := by decide +kernel
theorem dX12_timeOf_163 : decode cX12_timeOf 163 = .ok (.if_icmp .ge 30, 3) := by decide +kernel
theorem dX12_timeOf_166 : decode cX12_timeOf 166 = .ok (.lload 5, 2) := by decide +kernel
theorem dX12_timeOf_168 : decode cX12_timeOf 168 = .ok (.iload 7, 2) := by decide +kernel
theorem dX12_timeOf_170 : decode cX12_timeOf 170 = .ok (.iconst 4, 1) := by decide +kernel
theorem dX12_timeOf_171 : decode cX12_timeOf 171 = .ok (.irem, 1) := by decide +kernel
theorem dX12_timeOf_172 : decode cX12_timeOf 172 = .ok (.ifCond .ne 9, 3) := by decide +kernel
theorem dX12_timeOf_175 : decode cX12_timeOf 175 = .ok (.ldc2_w 221, 3) := by decide +kernel
theorem dX12_timeOf_178 : decode cX12_timeOf 178 = .ok (.goto 6, 3) := by decide +kernel
theorem dX12_timeOf_181 : decode cX12_timeOf 181 = .ok (.ldc2_w 223, 3) := by decide +kernel
theorem dX12_timeOf_184 : decode cX12_timeOf 184 = .ok (.ladd, 1) := by decide +kernel
theorem dX12_timeOf_185 : decode cX12_timeOf 185 = .ok (.lstore 5, 2) := by decide +kernel
theorem dX12_timeOf_187 : decode cX12_timeOf 187 = .ok (.iinc 7 1, 3) := by decide +kernel
theorem dX12_timeOf_190 : decode cX12_timeOf 190 = .ok (.goto (-30), 3) := by decide +kernel
theorem dX12_timeOf_193 : decode cX12_timeOf 193 = .ok (.iconst 1, 1) := by decide +kernel
theorem dX12_timeOf_194 : decode cX12_timeOf 194 = .ok (.istore 7, 2) := by decide +kernel
theorem dX12_timeOf_196 : decode cX12_timeOf 196 = .ok (.iload 7, 2) := by decide +kernel
theorem dX12_timeOf_198 : decode cX12_timeOf 198 = .ok (.iload_n 3, 1) := by decide +kernel
theorem dX12_timeOf_199 : decode cX12_timeOf 199 = .ok (.if_icmp .ge 21, 3) := by decide +kernel
theorem dX12_timeOf_202 : decode cX12_timeOf 202 = .ok (.lload 5, 2) := by decide +kernel
theorem dX12_timeOf_204 : decode cX12_timeOf 204 = .ok (.iload_n 2, 1) := by decide +kernel
theorem dX12_timeOf_205 : decode cX12_timeOf 205 = .ok (.iload 7, 2) := by decide +kernel
theorem dX12_timeOf_207 : decode cX12_timeOf 207 = .ok (.invokestatic 194, 3) := by decide +kernel
theorem dX12_timeOf_210 : decode cX12_timeOf 210 = .ok (.i2l, 1) := by decide +kernel
theorem dX12_timeOf_211 : decode cX12_timeOf 211 = .ok (.ladd, 1) := by decide +kernel
theorem dX12_timeOf_212 : decode cX12_timeOf 212 = .ok (.lstore 5, 2) := by decide +kernel
theorem dX12_timeOf_214 : decode cX12_timeOf 214 = .ok (.iinc 7 1, 3) := by decide +kernel
theorem dX12_timeOf_217 : decode cX12_timeOf 217 = .ok (.goto (-21), 3) := by decide +kernel
theorem dX12_timeOf_220 : decode cX12_timeOf 220 = .ok (.lload 5, 2) := by decide +kernel
theorem dX12_timeOf_222 : decode cX12_timeOf 222 = .ok (.iload 4, 2) := by decide +kernel
theorem dX12_timeOf_224 : decode cX12_timeOf 224 = .ok (.iconst 1, 1) := by decide +kernel
theorem dX12_timeOf_225 : decode cX12_timeOf 225 = .ok (.isub, 1) := by decide +kernel
theorem dX12_timeOf_226 : decode cX12_timeOf 226 = .ok (.i2l, 1) := by decide +kernel
theorem dX12_timeOf_227 : decode cX12_timeOf 227 = .ok (.ladd, 1) := by decide +kernel
theorem dX12_timeOf_228 : decode cX12_timeOf 228 = .ok (.lstore 5, 2) := by decide +kernel
theorem dX12_timeOf_230 : decode cX12_timeOf 230 = .ok (.ldc2_w 192, 3) := by decide +kernel
theorem dX12_timeOf_233 : decode cX12_timeOf 233 = .ok (.lload 5, 2) := by decide +kernel
theorem dX12_timeOf_235 : decode cX12_timeOf 235 = .ok (.lmul, 1) := by decide +kernel
theorem dX12_timeOf_236 : decode cX12_timeOf 236 = .ok (.ldc2_w 225, 3) := by decide +kernel
theorem dX12_timeOf_239 : decode cX12_timeOf 239 = .ok (.aload_n 0, 1) := by decide +kernel
theorem dX12_timeOf_240 : decode cX12_timeOf 240 = .ok (.iload_n 1, 1) := by decide +kernel
theorem dX12_timeOf_241 : decode cX12_timeOf 241 = .ok (.bipush 8, 2) := by decide +kernel
theorem dX12_timeOf_243 : decode cX12_timeOf 243 = .ok (.iadd, 1) := by decide +kernel
theorem dX12_timeOf_244 : decode cX12_timeOf 244 = .ok (.invokestatic 215, 3) := by decide +kernel
theorem dX12_timeOf_247 : decode cX12_timeOf 247 = .ok (.i2l, 1) := by decide +kernel
theorem dX12_timeOf_248 : decode cX12_timeOf 248 = .ok (.lmul, 1) := by decide +kernel
theorem dX12_timeOf_249 : decode cX12_timeOf 249 = .ok (.ladd, 1) := by decide +kernel
theorem dX12_timeOf_250 : decode cX12_timeOf 250 = .ok (.ldc2_w 227, 3) := by decide +kernel
theorem dX12_timeOf_253 : decode cX12_timeOf 253 = .ok (.aload_n 0, 1) := by decide +kernel
theorem dX12_timeOf_254 : decode cX12_timeOf 254 = .ok (.iload_n 1, 1) := by decide +kernel
theorem dX12_timeOf_255 : decode cX12_timeOf 255 = .ok (.bipush 10, 2) := by decide +kernel
theorem dX12_timeOf_257 : decode cX12_timeOf 257 = .ok (.iadd, 1) := by decide +kernel
theorem dX12_timeOf_258 : decode cX12_timeOf 258 = .ok (.invokestatic 215, 3) := by decide +kernel
theorem dX12_timeOf_261 : decode cX12_timeOf 261 = .ok (.i2l, 1) := by decide +kernel
theorem dX12_timeOf_262 : decode cX12_timeOf 262 = .ok (.lmul, 1) := by decide +kernel
theorem dX12_timeOf_263 : decode cX12_timeOf 263 = .ok (.ladd, 1) := by decide +kernel
theorem dX12_timeOf_264 : decode cX12_timeOf 264 = .ok (.aload_n 0, 1) := by decide +kernel
theorem dX12_timeOf_265 : decode cX12_timeOf 265 = .ok (.iload_n 1, 1) := by decide +kernel
theorem dX12_timeOf_266 : decode cX12_timeOf 266 = .ok (.bipush 12, 2) := by decide +kernel
theorem dX12_timeOf_268 : decode cX12_timeOf 268 = .ok (.iadd, 1) := by decide +kernel
theorem dX12_timeOf_269 : decode cX12_timeOf 269 = .ok (.invokestatic 215, 3) := by decide +kernel
theorem dX12_timeOf_272 : decode cX12_timeOf 272 = .ok (.i2l, 1) := by decide +kernel
theorem dX12_timeOf_273 : decode cX12_timeOf 273 = .ok (.ladd, 1) := by decide +kernel
theorem dX12_timeOf_274 : decode cX12_timeOf 274 = .ok (.lreturn, 1) := by decide +kernel
theorem dX12_lay_0 : decode cX12_lay 0 = .ok (.aload_n 0, 1) := by decide +kernel
theorem dX12_lay_1 : decode cX12_lay 1 = .ok (.getfield 69, 3) := by decide +kernel
theorem dX12_lay_4 : decode cX12_lay 4 = .ok (.aload_n 0, 1) := by decide +kernel
theorem dX12_lay_5 : decode cX12_lay 5 = .ok (.getfield 229, 3) := by decide +kernel
theorem dX12_lay_8 : decode cX12_lay 8 = .ok (.iload_n 1, 1) := by decide +kernel
theorem dX12_lay_9 : decode cX12_lay 9 = .ok (.i2b, 1) := by decide +kernel
theorem dX12_lay_10 : decode cX12_lay 10 = .ok (.bastore, 1) := by decide +kernel
theorem dX12_lay_11 : decode cX12_lay 11 = .ok (.aload_n 0, 1) := by decide +kernel
theorem dX12_lay_12 : decode cX12_lay 12 = .ok (.dup, 1) := by decide +kernel
theorem dX12_lay_13 : decode cX12_lay 13 = .ok (.getfield 229, 3) := by decide +kernel
theorem dX12_lay_16 : decode cX12_lay 16 = .ok (.iconst 1, 1) := by decide +kernel
theorem dX12_lay_17 : decode cX12_lay 17 = .ok (.iadd, 1) := by decide +kernel
theorem dX12_lay_18 : decode cX12_lay 18 = .ok (.putfield 229, 3) := by decide +kernel
theorem dX12_lay_21 : decode cX12_lay 21 = .ok (.return_, 1) := by decide +kernel
theorem dX12_layRow_0 : decode cX12_layRow 0 = .ok (.iload_n 2, 1) := by decide +kernel
theorem dX12_layRow_1 : decode cX12_layRow 1 = .ok (.istore 4, 2) := by decide +kernel
theorem dX12_layRow_3 : decode cX12_layRow 3 = .ok (.iload 4, 2) := by decide +kernel
theorem dX12_layRow_5 : decode cX12_layRow 5 = .ok (.iload_n 3, 1) := by decide +kernel
theorem dX12_layRow_6 : decode cX12_layRow 6 = .ok (.if_icmp .ge 17, 3) := by decide +kernel
theorem dX12_layRow_9 : decode cX12_layRow 9 = .ok (.aload_n 0, 1) := by decide +kernel
theorem dX12_layRow_10 : decode cX12_layRow 10 = .ok (.aload_n 1, 1) := by decide +kernel
theorem dX12_layRow_11 : decode cX12_layRow 11 = .ok (.iload 4, 2) := by decide +kernel
theorem dX12_layRow_13 : decode cX12_layRow 13 = .ok (.baload, 1) := by decide +kernel
theorem dX12_layRow_14 : decode cX12_layRow 14 = .ok (.invokevirtual 232, 3) := by decide +kernel
theorem dX12_layRow_17 : decode cX12_layRow 17 = .ok (.iinc 4 1, 3) := by decide +kernel
theorem dX12_layRow_20 : decode cX12_layRow 20 = .ok (.goto (-17), 3) := by decide +kernel
theorem dX12_layRow_23 : decode cX12_layRow 23 = .ok (.return_, 1) := by decide +kernel
theorem dX12_layLong_0 : decode cX12_layLong 0 = .ok (.bipush 56, 2) := by decide +kernel
theorem dX12_layLong_2 : decode cX12_layLong 2 = .ok (.istore_n 3, 1) := by decide +kernel
theorem dX12_layLong_3 : decode cX12_layLong 3 = .ok (.iload_n 3, 1) := by decide +kernel
theorem dX12_layLong_4 : decode cX12_layLong 4 = .ok (.ifCond .lt 17, 3) := by decide +kernel
theorem dX12_layLong_7 : decode cX12_layLong 7 = .ok (.aload_n 0, 1) := by decide +kernel
theorem dX12_layLong_8 : decode cX12_layLong 8 = .ok (.lload_n 1, 1) := by decide +kernel
theorem dX12_layLong_9 : decode cX12_layLong 9 = .ok (.iload_n 3, 1) := by decide +kernel
theorem dX12_layLong_10 : decode cX12_layLong 10 = .ok (.lshr, 1) := by decide +kernel
theorem dX12_layLong_11 : decode cX12_layLong 11 = .ok (.l2i, 1) := by decide +kernel
theorem dX12_layLong_12 : decode cX12_layLong 12 = .ok (.invokevirtual 232, 3) := by decide +kernel
theorem dX12_layLong_15 : decode cX12_layLong 15 = .ok (.iinc 3 (-8), 3) := by decide +kernel
theorem dX12_layLong_18 : decode cX12_layLong 18 = .ok (.goto (-15), 3) := by decide +kernel
theorem dX12_layLong_21 : decode cX12_layLong 21 = .ok (.return_, 1) := by decide +kernel
theorem dX12_wrap_0 : decode cX12_wrap 0 = .ok (.aload_n 0, 1) := by decide +kernel
theorem dX12_wrap_1 : decode cX12_wrap 1 = .ok (.getfield 229, 3) := by decide +kernel
theorem dX12_wrap_4 : decode cX12_wrap 4 = .ok (.iload_n 1, 1) := by decide +kernel
theorem dX12_wrap_5 : decode cX12_wrap 5 = .ok (.isub, 1) := by decide +kernel
theorem dX12_wrap_6 : decode cX12_wrap 6 = .ok (.istore_n 3, 1) := by decide +kernel
theorem dX12_wrap_7 : decode cX12_wrap 7 = .ok (.iload_n 3, 1) := by decide +kernel
theorem dX12_wrap_8 : decode cX12_wrap 8 = .ok (.sipush 128, 3) := by decide +kernel
theorem dX12_wrap_11 : decode cX12_wrap 11 = .ok (.if_icmp .ge 7, 3) := by decide +kernel
theorem dX12_wrap_14 : decode cX12_wrap 14 = .ok (.iconst 2, 1) := by decide +kernel
theorem dX12_wrap_15 : decode cX12_wrap 15 = .ok (.goto 15, 3) := by decide +kernel
theorem dX12_wrap_18 : decode cX12_wrap 18 = .ok (.iload_n 3, 1) := by decide +kernel
theorem dX12_wrap_19 : decode cX12_wrap 19 = .ok (.sipush 256, 3) := by decide +kernel
theorem dX12_wrap_22 : decode cX12_wrap 22 = .ok (.if_icmp .ge 7, 3) := by decide +kernel
theorem dX12_wrap_25 : decode cX12_wrap 25 = .ok (.iconst 3, 1) := by decide +kernel
theorem dX12_wrap_26 : decode cX12_wrap 26 = .ok (.goto 4, 3) := by decide +kernel
theorem dX12_wrap_29 : decode cX12_wrap 29 = .ok (.iconst 4, 1) := by decide +kernel
theorem dX12_wrap_30 : decode cX12_wrap 30 = .ok (.istore 4, 2) := by decide +kernel
theorem dX12_wrap_32 : decode cX12_wrap 32 = .ok (.aload_n 0, 1) := by decide +kernel
theorem dX12_wrap_33 : decode cX12_wrap 33 = .ok (.getfield 229, 3) := by decide +kernel
theorem dX12_wrap_36 : decode cX12_wrap 36 = .ok (.iconst 1, 1) := by decide +kernel
theorem dX12_wrap_37 : decode cX12_wrap 37 = .ok (.isub, 1) := by decide +kernel
theorem dX12_wrap_38 : decode cX12_wrap 38 = .ok (.istore 5, 2) := by decide +kernel
theorem dX12_wrap_40 : decode cX12_wrap 40 = .ok (.iload 5, 2) := by decide +kernel
theorem dX12_wrap_42 : decode cX12_wrap 42 = .ok (.iload_n 1, 1) := by decide +kernel
theorem dX12_wrap_43 : decode cX12_wrap 43 = .ok (.if_icmp .lt 26, 3) := by decide +kernel
theorem dX12_wrap_46 : decode cX12_wrap 46 = .ok (.aload_n 0, 1) := by decide +kernel
theorem dX12_wrap_47 : decode cX12_wrap 47 = .ok (.getfield 69, 3) := by decide +kernel
theorem dX12_wrap_50 : decode cX12_wrap 50 = .ok (.iload 5, 2) := by decide +kernel
theorem dX12_wrap_52 : decode cX12_wrap 52 = .ok (.iload 4, 2) := by decide +kernel
theorem dX12_wrap_54 : decode cX12_wrap 54 = .ok (.iadd, 1) := by decide +kernel
theorem dX12_wrap_55 : decode cX12_wrap 55 = .ok (.aload_n 0, 1) := by decide +kernel
theorem dX12_wrap_56 : decode cX12_wrap 56 = .ok (.getfield 69, 3) := by decide +kernel
theorem dX12_wrap_59 : decode cX12_wrap 59 = .ok (.iload 5, 2) := by decide +kernel
theorem dX12_wrap_61 : decode cX12_wrap 61 = .ok (.baload, 1) := by decide +kernel
theorem dX12_wrap_62 : decode cX12_wrap 62 = .ok (.bastore, 1) := by decide +kernel
theorem dX12_wrap_63 : decode cX12_wrap 63 = .ok (.iinc 5 (-1), 3) := by decide +kernel
theorem dX12_wrap_66 : decode cX12_wrap 66 = .ok (.goto (-26), 3) := by decide +kernel
theorem dX12_wrap_69 : decode cX12_wrap 69 = .ok (.aload_n 0, 1) := by decide +kernel
theorem dX12_wrap_70 : decode cX12_wrap 70 = .ok (.getfield 69, 3) := by decide +kernel
theorem dX12_wrap_73 : decode cX12_wrap 73 = .ok (.iload_n 1, 1) := by decide +kernel
theorem dX12_wrap_74 : decode cX12_wrap 74 = .ok (.iload_n 2, 1) := by decide +kernel
theorem dX12_wrap_75 : decode cX12_wrap 75 = .ok (.i2b, 1) := by decide +kernel
theorem dX12_wrap_76 : decode cX12_wrap 76 = .ok (.bastore, 1) := by decide +kernel
theorem dX12_wrap_77 : decode cX12_wrap 77 = .ok (.iload 4, 2) := by decide +kernel
theorem dX12_wrap_79 : decode cX12_wrap 79 = .ok (.iconst 2, 1) := by decide +kernel
theorem dX12_wrap_80 : decode cX12_wrap 80 = .ok (.if_icmp .ne 16, 3) := by decide +kernel
theorem dX12_wrap_83 : decode cX12_wrap 83 = .ok (.aload_n 0, 1) := by decide +kernel
theorem dX12_wrap_84 : decode cX12_wrap 84 = .ok (.getfield 69, 3) := by decide +kernel
theorem dX12_wrap_87 : decode cX12_wrap 87 = .ok (.iload_n 1, 1) := by decide +kernel
theorem dX12_wrap_88 : decode cX12_wrap 88 = .ok (.iconst 1, 1) := by decide +kernel
theorem dX12_wrap_89 : decode cX12_wrap 89 = .ok (.iadd, 1) := by decide +kernel
theorem dX12_wrap_90 : decode cX12_wrap 90 = .ok (.iload_n 3, 1) := by decide +kernel
theorem dX12_wrap_91 : decode cX12_wrap 91 = .ok (.i2b, 1) := by decide +kernel
theorem dX12_wrap_92 : decode cX12_wrap 92 = .ok (.bastore, 1) := by decide +kernel
theorem dX12_wrap_93 : decode cX12_wrap 93 = .ok (.goto 65, 3) := by decide +kernel
theorem dX12_wrap_96 : decode cX12_wrap 96 = .ok (.iload 4, 2) := by decide +kernel
theorem dX12_wrap_98 : decode cX12_wrap 98 = .ok (.iconst 3, 1) := by decide +kernel
theorem dX12_wrap_99 : decode cX12_wrap 99 = .ok (.if_icmp .ne 26, 3) := by decide +kernel
theorem dX12_wrap_102 : decode cX12_wrap 102 = .ok (.aload_n 0, 1) := by decide +kernel
theorem dX12_wrap_103 : decode cX12_wrap 103 = .ok (.getfield 69, 3) := by decide +kernel
theorem dX12_wrap_106 : decode cX12_wrap 106 = .ok (.iload_n 1, 1) := by decide +kernel
theorem dX12_wrap_107 : decode cX12_wrap 107 = .ok (.iconst 1, 1) := by decide +kernel
theorem dX12_wrap_108 : decode cX12_wrap 108 = .ok (.iadd, 1) := by decide +kernel
theorem dX12_wrap_109 : decode cX12_wrap 109 = .ok (.bipush (-127), 2) := by decide +kernel
theorem dX12_wrap_111 : decode cX12_wrap 111 = .ok (.bastore, 1) := by decide +kernel
theorem dX12_wrap_112 : decode cX12_wrap 112 = .ok (.aload_n 0, 1) := by decide +kernel
theorem dX12_wrap_113 : decode cX12_wrap 113 = .ok (.getfield 69, 3) := by decide +kernel
theorem dX12_wrap_116 : decode cX12_wrap 116 = .ok (.iload_n 1, 1) := by decide +kernel
theorem dX12_wrap_117 : decode cX12_wrap 117 = .ok (.iconst 2, 1) := by decide +kernel
theorem dX12_wrap_118 : decode cX12_wrap 118 = .ok (.iadd, 1) := by decide +kernel
theorem dX12_wrap_119 : decode cX12_wrap 119 = .ok (.iload_n 3, 1) := by decide +kernel
theorem dX12_wrap_120 : decode cX12_wrap 120 = .ok (.i2b, 1) := by decide +kernel
theorem dX12_wrap_121 : decode cX12_wrap 121 = .ok (.bastore, 1) := by decide +kernel
theorem dX12_wrap_122 : decode cX12_wrap 122 = .ok (.goto 36, 3) := by decide +kernel
theorem dX12_wrap_125 : decode cX12_wrap 125 = .ok (.aload_n 0, 1) := by decide +kernel
theorem dX12_wrap_126 : decode cX12_wrap 126 = .ok (.getfield 69, 3) := by decide +kernel
theorem dX12_wrap_129 : decode cX12_wrap 129 = .ok (.iload_n 1, 1) := by decide +kernel
theorem dX12_wrap_130 : decode cX12_wrap 130 = .ok (.iconst 1, 1) := by decide +kernel
theorem dX12_wrap_131 : decode cX12_wrap 131 = .ok (.iadd, 1) := by decide +kernel
theorem dX12_wrap_132 : decode cX12_wrap 132 = .ok (.bipush (-126), 2) := by decide +kernel
theorem dX12_wrap_134 : decode cX12_wrap 134 = .ok (.bastore, 1) := by decide +kernel
theorem dX12_wrap_135 : decode cX12_wrap 135 = .ok (.aload_n 0, 1) := by decide +kernel
theorem dX12_wrap_136 : decode cX12_wrap 136 = .ok (.getfield 69, 3) := by decide +kernel
theorem dX12_wrap_139 : decode cX12_wrap 139 = .ok (.iload_n 1, 1) := by decide +kernel
theorem dX12_wrap_140 : decode cX12_wrap 140 = .ok (.iconst 2, 1) := by decide +kernel
theorem dX12_wrap_141 : decode cX12_wrap 141 = .ok (.iadd, 1) := by decide +kernel
theorem dX12_wrap_142 : decode cX12_wrap 142 = .ok (.iload_n 3, 1) := by decide +kernel
theorem dX12_wrap_143 : decode cX12_wrap 143 = .ok (.bipush 8, 2) := by decide +kernel
theorem dX12_wrap_145 : decode cX12_wrap 145 = .ok (.ishr, 1) := by decide +kernel
theorem dX12_wrap_146 : decode cX12_wrap 146 = .ok (.i2b, 1) := by decide +kernel
theorem dX12_wrap_147 : decode cX12_wrap 147 = .ok (.bastore, 1) := by decide +kernel
theorem dX12_wrap_148 : decode cX12_wrap 148 = .ok (.aload_n 0, 1) := by decide +kernel
theorem dX12_wrap_149 : decode cX12_wrap 149 = .ok (.getfield 69, 3) := by decide +kernel
theorem dX12_wrap_152 : decode cX12_wrap 152 = .ok (.iload_n 1, 1) := by decide +kernel
theorem dX12_wrap_153 : decode cX12_wrap 153 = .ok (.iconst 3, 1) := by decide +kernel
theorem dX12_wrap_154 : decode cX12_wrap 154 = .ok (.iadd, 1) := by decide +kernel
theorem dX12_wrap_155 : decode cX12_wrap 155 = .ok (.iload_n 3, 1) := by decide +kernel
theorem dX12_wrap_156 : decode cX12_wrap 156 = .ok (.i2b, 1) := by decide +kernel
theorem dX12_wrap_157 : decode cX12_wrap 157 = .ok (.bastore, 1) := by decide +kernel
theorem dX12_wrap_158 : decode cX12_wrap 158 = .ok (.aload_n 0, 1) := by decide +kernel
theorem dX12_wrap_159 : decode cX12_wrap 159 = .ok (.dup, 1) := by decide +kernel
theorem dX12_wrap_160 : decode cX12_wrap 160 = .ok (.getfield 229, 3) := by decide +kernel
theorem dX12_wrap_163 : decode cX12_wrap 163 = .ok (.iload 4, 2) := by decide +kernel
theorem dX12_wrap_165 : decode cX12_wrap 165 = .ok (.iadd, 1) := by decide +kernel
theorem dX12_wrap_166 : decode cX12_wrap 166 = .ok (.putfield 229, 3) := by decide +kernel
theorem dX12_wrap_169 : decode cX12_wrap 169 = .ok (.return_, 1) := by decide +kernel
theorem dX12_layInteger_0 : decode cX12_layInteger 0 = .ok (.aload_n 0, 1) := by decide +kernel
theorem dX12_layInteger_1 : decode cX12_layInteger 1 = .ok (.getfield 229, 3) := by decide +kernel
theorem dX12_layInteger_4 : decode cX12_layInteger 4 = .ok (.istore_n 3, 1) := by decide +kernel
theorem dX12_layInteger_5 : decode cX12_layInteger 5 = .ok (.iconst 1, 1) := by decide +kernel
theorem dX12_layInteger_6 : decode cX12_layInteger 6 = .ok (.istore 4, 2) := by decide +kernel
theorem dX12_layInteger_8 : decode cX12_layInteger 8 = .ok (.iload 4, 2) := by decide +kernel
theorem dX12_layInteger_10 : decode cX12_layInteger 10 = .ok (.bipush 8, 2) := by decide +kernel
theorem dX12_layInteger_12 : decode cX12_layInteger 12 = .ok (.if_icmp .ge 23, 3) := by decide +kernel
theorem dX12_layInteger_15 : decode cX12_layInteger 15 = .ok (.lload_n 1, 1) := by decide +kernel
theorem dX12_layInteger_16 : decode cX12_layInteger 16 = .ok (.bipush 8, 2) := by decide +kernel
theorem dX12_layInteger_18 : decode cX12_layInteger 18 = .ok (.iload 4, 2) := by decide +kernel
theorem dX12_layInteger_20 : decode cX12_layInteger 20 = .ok (.imul, 1) := by decide +kernel
theorem dX12_layInteger_21 : decode cX12_layInteger 21 = .ok (.iconst 1, 1) := by decide +kernel
theorem dX12_layInteger_22 : decode cX12_layInteger 22 = .ok (.isub, 1) := by decide +kernel
theorem dX12_layInteger_23 : decode cX12_layInteger 23 = .ok (.lshr, 1) := by decide +kernel
theorem dX12_layInteger_24 : decode cX12_layInteger 24 = .ok (.lconst 0, 1) := by decide +kernel
theorem dX12_layInteger_25 : decode cX12_layInteger 25 = .ok (.lcmp, 1) := by decide +kernel
theorem dX12_layInteger_26 : decode cX12_layInteger 26 = .ok (.ifCond .le 9, 3) := by decide +kernel
theorem dX12_layInteger_29 : decode cX12_layInteger 29 = .ok (.iinc 4 1, 3) := by decide +kernel
theorem dX12_layInteger_32 : decode cX12_layInteger 32 = .ok (.goto (-24), 3) := by decide +kernel
theorem dX12_layInteger_35 : decode cX12_layInteger 35 = .ok (.iload 4, 2) := by decide +kernel
theorem dX12_layInteger_37 : decode cX12_layInteger 37 = .ok (.iconst 1, 1) := by decide +kernel
theorem dX12_layInteger_38 : decode cX12_layInteger 38 = .ok (.isub, 1) := by decide +kernel
theorem dX12_layInteger_39 : decode cX12_layInteger 39 = .ok (.istore 5, 2) := by decide +kernel
theorem dX12_layInteger_41 : decode cX12_layInteger 41 = .ok (.iload 5, 2) := by decide +kernel
theorem dX12_layInteger_43 : decode cX12_layInteger 43 = .ok (.ifCond .lt 21, 3) := by decide +kernel
theorem dX12_layInteger_46 : decode cX12_layInteger 46 = .ok (.aload_n 0, 1) := by decide +kernel
theorem dX12_layInteger_47 : decode cX12_layInteger 47 = .ok (.lload_n 1, 1) := by decide +kernel
theorem dX12_layInteger_48 : decode cX12_layInteger 48 = .ok (.bipush 8, 2) := by decide +kernel
theorem dX12_layInteger_50 : decode cX12_layInteger 50 = .ok (.iload 5, 2) := by decide +kernel
theorem dX12_layInteger_52 : decode cX12_layInteger 52 = .ok (.imul, 1) := by decide +kernel
theorem dX12_layInteger_53 : decode cX12_layInteger 53 = .ok (.lshr, 1) := by decide +kernel
theorem dX12_layInteger_54 : decode cX12_layInteger 54 = .ok (.l2i, 1) := by decide +kernel
theorem dX12_layInteger_55 : decode cX12_layInteger 55 = .ok (.invokevirtual 232, 3) := by decide +kernel
theorem dX12_layInteger_58 : decode cX12_layInteger 58 = .ok (.iinc 5 (-1), 3) := by decide +kernel
theorem dX12_layInteger_61 : decode cX12_layInteger 61 = .ok (.goto (-20), 3) := by decide +kernel
theorem dX12_layInteger_64 : decode cX12_layInteger 64 = .ok (.aload_n 0, 1) := by decide +kernel
theorem dX12_layInteger_65 : decode cX12_layInteger 65 = .ok (.iload_n 3, 1) := by decide +kernel
theorem dX12_layInteger_66 : decode cX12_layInteger 66 = .ok (.iconst 2, 1) := by decide +kernel
theorem dX12_layInteger_67 : decode cX12_layInteger 67 = .ok (.invokevirtual 235, 3) := by decide +kernel
theorem dX12_layInteger_70 : decode cX12_layInteger 70 = .ok (.return_, 1) := by decide +kernel
theorem dX12_layTime_0 : decode cX12_layTime 0 = .ok (.aload_n 0, 1) := by decide +kernel
theorem dX12_layTime_1 : decode cX12_layTime 1 = .ok (.getfield 229, 3) := by decide +kernel
theorem dX12_layTime_4 : decode cX12_layTime 4 = .ok (.istore_n 3, 1) := by decide +kernel
theorem dX12_layTime_5 : decode cX12_layTime 5 = .ok (.aload_n 0, 1) := by decide +kernel
theorem dX12_layTime_6 : decode cX12_layTime 6 = .ok (.lload_n 1, 1) := by decide +kernel
theorem dX12_layTime_7 : decode cX12_layTime 7 = .ok (.invokevirtual 202, 3) := by decide +kernel
theorem dX12_layTime_10 : decode cX12_layTime 10 = .ok (.iconst 0, 1) := by decide +kernel
theorem dX12_layTime_11 : decode cX12_layTime 11 = .ok (.istore 4, 2) := by decide +kernel
theorem dX12_layTime_13 : decode cX12_layTime 13 = .ok (.iload 4, 2) := by decide +kernel
theorem dX12_layTime_15 : decode cX12_layTime 15 = .ok (.bipush 15, 2) := by decide +kernel
theorem dX12_layTime_17 : decode cX12_layTime 17 = .ok (.if_icmp .ge 19, 3) := by decide +kernel
theorem dX12_layTime_20 : decode cX12_layTime 20 = .ok (.aload_n 0, 1) := by decide +kernel
theorem dX12_layTime_21 : decode cX12_layTime 21 = .ok (.aload_n 0, 1) := by decide +kernel
theorem dX12_layTime_22 : decode cX12_layTime 22 = .ok (.iload 4, 2) := by decide +kernel
theorem dX12_layTime_24 : decode cX12_layTime 24 = .ok (.invokevirtual 205, 3) := by decide +kernel
theorem dX12_layTime_27 : decode cX12_layTime 27 = .ok (.invokevirtual 232, 3) := by decide +kernel
theorem dX12_layTime_30 : decode cX12_layTime 30 = .ok (.iinc 4 1, 3) := by decide +kernel
theorem dX12_layTime_33 : decode cX12_layTime 33 = .ok (.goto (-20), 3) := by decide +kernel
theorem dX12_layTime_36 : decode cX12_layTime 36 = .ok (.aload_n 0, 1) := by decide +kernel
theorem dX12_layTime_37 : decode cX12_layTime 37 = .ok (.iload_n 3, 1) := by decide +kernel
theorem dX12_layTime_38 : decode cX12_layTime 38 = .ok (.bipush 24, 2) := by decide +kernel
theorem dX12_layTime_40 : decode cX12_layTime 40 = .ok (.invokevirtual 235, 3) := by decide +kernel
theorem dX12_layTime_43 : decode cX12_layTime 43 = .ok (.return_, 1) := by decide +kernel
theorem dX12_layCode_0 : decode cX12_layCode 0 = .ok (.aload_n 0, 1) := by decide +kernel
theorem dX12_layCode_1 : decode cX12_layCode 1 = .ok (.getfield 229, 3) := by decide +kernel
theorem dX12_layCode_4 : decode cX12_layCode 4 = .ok (.istore_n 2, 1) := by decide +kernel
theorem dX12_layCode_5 : decode cX12_layCode 5 = .ok (.aload_n 0, 1) := by decide +kernel
theorem dX12_layCode_6 : decode cX12_layCode 6 = .ok (.iload_n 1, 1) := by decide +kernel
theorem dX12_layCode_7 : decode cX12_layCode 7 = .ok (.invokevirtual 232, 3) := by decide +kernel
theorem dX12_layCode_10 : decode cX12_layCode 10 = .ok (.aload_n 0, 1) := by decide +kernel
theorem dX12_layCode_11 : decode cX12_layCode 11 = .ok (.iload_n 2, 1) := by decide +kernel
theorem dX12_layCode_12 : decode cX12_layCode 12 = .ok (.bipush 10, 2) := by decide +kernel
theorem dX12_layCode_14 : decode cX12_layCode 14 = .ok (.invokevirtual 235, 3) := by decide +kernel
theorem dX12_layCode_17 : decode cX12_layCode 17 = .ok (.return_, 1) := by decide +kernel
theorem dX12_layHash_0 : decode cX12_layHash 0 = .ok (.aload_n 0, 1) := by decide +kernel
theorem dX12_layHash_1 : decode cX12_layHash 1 = .ok (.getfield 229, 3) := by decide +kernel
theorem dX12_layHash_4 : decode cX12_layHash 4 = .ok (.istore_n 3, 1) := by decide +kernel
theorem dX12_layHash_5 : decode cX12_layHash 5 = .ok (.aload_n 0, 1) := by decide +kernel
theorem dX12_layHash_6 : decode cX12_layHash 6 = .ok (.lload_n 1, 1) := by decide +kernel
theorem dX12_layHash_7 : decode cX12_layHash 7 = .ok (.invokevirtual 239, 3) := by decide +kernel
theorem dX12_layHash_10 : decode cX12_layHash 10 = .ok (.aload_n 0, 1) := by decide +kernel
theorem dX12_layHash_11 : decode cX12_layHash 11 = .ok (.iload_n 3, 1) := by decide +kernel
theorem dX12_layHash_12 : decode cX12_layHash 12 = .ok (.iconst 4, 1) := by decide +kernel
theorem dX12_layHash_13 : decode cX12_layHash 13 = .ok (.invokevirtual 235, 3) := by decide +kernel
theorem dX12_layHash_16 : decode cX12_layHash 16 = .ok (.return_, 1) := by decide +kernel
theorem dX12_laySignature_0 : decode cX12_laySignature 0 = .ok (.aload_n 0, 1) := by decide +kernel
theorem dX12_laySignature_1 : decode cX12_laySignature 1 = .ok (.lload_n 1, 1) := by decide +kernel
theorem dX12_laySignature_2 : decode cX12_laySignature 2 = .ok (.aload_n 0, 1) := by decide +kernel
theorem dX12_laySignature_3 : decode cX12_laySignature 3 = .ok (.getfield 69, 3) := by decide +kernel
theorem dX12_laySignature_6 : decode cX12_laySignature 6 = .ok (.iload_n 3, 1) := by decide +kernel
theorem dX12_laySignature_7 : decode cX12_laySignature 7 = .ok (.iload 4, 2) := by decide +kernel
theorem dX12_laySignature_9 : decode cX12_laySignature 9 = .ok (.invokevirtual 242, 3) := by decide +kernel
theorem dX12_laySignature_12 : decode cX12_laySignature 12 = .ok (.aload_n 0, 1) := by decide +kernel
theorem dX12_laySignature_13 : decode cX12_laySignature 13 = .ok (.getfield 229, 3) := by decide +kernel
theorem dX12_laySignature_16 : decode cX12_laySignature 16 = .ok (.istore 5, 2) := by decide +kernel
theorem dX12_laySignature_18 : decode cX12_laySignature 18 = .ok (.aload_n 0, 1) := by decide +kernel
theorem dX12_laySignature_19 : decode cX12_laySignature 19 = .ok (.iconst 0, 1) := by decide +kernel
theorem dX12_laySignature_20 : decode cX12_laySignature 20 = .ok (.invokevirtual 232, 3) := by decide +kernel
theorem dX12_laySignature_23 : decode cX12_laySignature 23 = .ok (.bipush 24, 2) := by decide +kernel
theorem dX12_laySignature_25 : decode cX12_laySignature 25 = .ok (.istore 6, 2) := by decide +kernel
theorem dX12_laySignature_27 : decode cX12_laySignature 27 = .ok (.iload 6, 2) := by decide +kernel
theorem dX12_laySignature_29 : decode cX12_laySignature 29 = .ok (.ifCond .lt 21, 3) := by decide +kernel
theorem dX12_laySignature_32 : decode cX12_laySignature 32 = .ok (.aload_n 0, 1) := by decide +kernel
theorem dX12_laySignature_33 : decode cX12_laySignature 33 = .ok (.aload_n 0, 1) := by decide +kernel
theorem dX12_laySignature_34 : decode cX12_laySignature 34 = .ok (.getfield 180, 3) := by decide +kernel
theorem dX12_laySignature_37 : decode cX12_laySignature 37 = .ok (.iload 6, 2) := by decide +kernel
theorem dX12_laySignature_39 : decode cX12_laySignature 39 = .ok (.lshr, 1) := by decide +kernel
theorem dX12_laySignature_40 : decode cX12_laySignature 40 = .ok (.l2i, 1) := by decide +kernel
theorem dX12_laySignature_41 : decode cX12_laySignature 41 = .ok (.invokevirtual 232, 3) := by decide +kernel
theorem dX12_laySignature_44 : decode cX12_laySignature 44 = .ok (.iinc 6 (-8), 3) := by decide +kernel
theorem dX12_laySignature_47 : decode cX12_laySignature 47 = .ok (.goto (-20), 3) := by decide +kernel
theorem dX12_laySignature_50 : decode cX12_laySignature 50 = .ok (.bipush 24, 2) := by decide +kernel
theorem dX12_laySignature_52 : decode cX12_laySignature 52 = .ok (.istore 6, 2) := by decide +kernel
theorem dX12_laySignature_54 : decode cX12_laySignature 54 = .ok (.iload 6, 2) := by decide +kernel
theorem dX12_laySignature_56 : decode cX12_laySignature 56 = .ok (.ifCond .lt 21, 3) := by decide +kernel
theorem dX12_laySignature_59 : decode cX12_laySignature 59 = .ok (.aload_n 0, 1) := by decide +kernel
theorem dX12_laySignature_60 : decode cX12_laySignature 60 = .ok (.aload_n 0, 1) := by decide +kernel
theorem dX12_laySignature_61 : decode cX12_laySignature 61 = .ok (.getfield 183, 3) := by decide +kernel
theorem dX12_laySignature_64 : decode cX12_laySignature 64 = .ok (.iload 6, 2) := by decide +kernel
theorem dX12_laySignature_66 : decode cX12_laySignature 66 = .ok (.lshr, 1) := by decide +kernel
theorem dX12_laySignature_67 : decode cX12_laySignature 67 = .ok (.l2i, 1) := by decide +kernel
theorem dX12_laySignature_68 : decode cX12_laySignature 68 = .ok (.invokevirtual 232, 3) := by decide +kernel
theorem dX12_laySignature_71 : decode cX12_laySignature 71 = .ok (.iinc 6 (-8), 3) := by decide +kernel
theorem dX12_laySignature_74 : decode cX12_laySignature 74 = .ok (.goto (-20), 3) := by decide +kernel
theorem dX12_laySignature_77 : decode cX12_laySignature 77 = .ok (.aload_n 0, 1) := by decide +kernel
theorem dX12_laySignature_78 : decode cX12_laySignature 78 = .ok (.iload 5, 2) := by decide +kernel
theorem dX12_laySignature_80 : decode cX12_laySignature 80 = .ok (.iconst 3, 1) := by decide +kernel
theorem dX12_laySignature_81 : decode cX12_laySignature 81 = .ok (.invokevirtual 235, 3) := by decide +kernel
theorem dX12_laySignature_84 : decode cX12_laySignature 84 = .ok (.return_, 1) := by decide +kernel
theorem dX12_layId_0 : decode cX12_layId 0 = .ok (.aload_n 0, 1) := by decide +kernel
theorem dX12_layId_1 : decode cX12_layId 1 = .ok (.getfield 229, 3) := by decide +kernel
theorem dX12_layId_4 : decode cX12_layId 4 = .ok (.istore 4, 2) := by decide +kernel
theorem dX12_layId_6 : decode cX12_layId 6 = .ok (.aload_n 0, 1) := by decide +kernel
theorem dX12_layId_7 : decode cX12_layId 7 = .ok (.aload_n 0, 1) := by decide +kernel
theorem dX12_layId_8 : decode cX12_layId 8 = .ok (.aload_n 0, 1) := by decide +kernel
theorem dX12_layId_9 : decode cX12_layId 9 = .ok (.getfield 16, 3) := by decide +kernel
theorem dX12_layId_12 : decode cX12_layId 12 = .ok (.bipush 16, 2) := by decide +kernel
theorem dX12_layId_14 : decode cX12_layId 14 = .ok (.iload_n 1, 1) := by decide +kernel
theorem dX12_layId_15 : decode cX12_layId 15 = .ok (.imul, 1) := by decide +kernel
theorem dX12_layId_16 : decode cX12_layId 16 = .ok (.bipush 16, 2) := by decide +kernel
theorem dX12_layId_18 : decode cX12_layId 18 = .ok (.iload_n 1, 1) := by decide +kernel
theorem dX12_layId_19 : decode cX12_layId 19 = .ok (.imul, 1) := by decide +kernel
theorem dX12_layId_20 : decode cX12_layId 20 = .ok (.aload_n 0, 1) := by decide +kernel
theorem dX12_layId_21 : decode cX12_layId 21 = .ok (.getfield 19, 3) := by decide +kernel
theorem dX12_layId_24 : decode cX12_layId 24 = .ok (.iload_n 1, 1) := by decide +kernel
theorem dX12_layId_25 : decode cX12_layId 25 = .ok (.iaload, 1) := by decide +kernel
theorem dX12_layId_26 : decode cX12_layId 26 = .ok (.iadd, 1) := by decide +kernel
theorem dX12_layId_27 : decode cX12_layId 27 = .ok (.invokevirtual 160, 3) := by decide +kernel
theorem dX12_layId_30 : decode cX12_layId 30 = .ok (.invokevirtual 246, 3) := by decide +kernel
theorem dX12_layId_33 : decode cX12_layId 33 = .ok (.aload_n 0, 1) := by decide +kernel
theorem dX12_layId_34 : decode cX12_layId 34 = .ok (.aload_n 0, 1) := by decide +kernel
theorem dX12_layId_35 : decode cX12_layId 35 = .ok (.aload_n 0, 1) := by decide +kernel
theorem dX12_layId_36 : decode cX12_layId 36 = .ok (.getfield 27, 3) := by decide +kernel
theorem dX12_layId_39 : decode cX12_layId 39 = .ok (.iload_n 1, 1) := by decide +kernel
theorem dX12_layId_40 : decode cX12_layId 40 = .ok (.laload, 1) := by decide +kernel
theorem dX12_layId_41 : decode cX12_layId 41 = .ok (.invokevirtual 249, 3) := by decide +kernel
theorem dX12_layId_44 : decode cX12_layId 44 = .ok (.invokevirtual 246, 3) := by decide +kernel
theorem dX12_layId_47 : decode cX12_layId 47 = .ok (.aload_n 0, 1) := by decide +kernel
theorem dX12_layId_48 : decode cX12_layId 48 = .ok (.lload_n 2, 1) := by decide +kernel
theorem dX12_layId_49 : decode cX12_layId 49 = .ok (.invokevirtual 253, 3) := by decide +kernel
theorem dX12_layId_52 : decode cX12_layId 52 = .ok (.aload_n 0, 1) := by decide +kernel
theorem dX12_layId_53 : decode cX12_layId 53 = .ok (.iload 4, 2) := by decide +kernel
theorem dX12_layId_55 : decode cX12_layId 55 = .ok (.bipush 48, 2) := by decide +kernel
theorem dX12_layId_57 : decode cX12_layId 57 = .ok (.invokevirtual 235, 3) := by decide +kernel
theorem dX12_layId_60 : decode cX12_layId 60 = .ok (.return_, 1) := by decide +kernel
theorem dX12_tellDraft_0 : decode cX12_tellDraft 0 = .ok (.iconst 0, 1) := by decide +kernel
theorem dX12_tellDraft_1 : decode cX12_tellDraft 1 = .ok (.istore_n 1, 1) := by decide +kernel
theorem dX12_tellDraft_2 : decode cX12_tellDraft 2 = .ok (.iload_n 1, 1) := by decide +kernel
theorem dX12_tellDraft_3 : decode cX12_tellDraft 3 = .ok (.aload_n 0, 1) := by decide +kernel
theorem dX12_tellDraft_4 : decode cX12_tellDraft 4 = .ok (.getfield 229, 3) := by decide +kernel
theorem dX12_tellDraft_7 : decode cX12_tellDraft 7 = .ok (.if_icmp .ge 21, 3) := by decide +kernel
theorem dX12_tellDraft_10 : decode cX12_tellDraft 10 = .ok (.aload_n 0, 1) := by decide +kernel
theorem dX12_tellDraft_11 : decode cX12_tellDraft 11 = .ok (.getfield 13, 3) := by decide +kernel
theorem dX12_tellDraft_14 : decode cX12_tellDraft 14 = .ok (.iload_n 1, 1) := by decide +kernel
theorem dX12_tellDraft_15 : decode cX12_tellDraft 15 = .ok (.aload_n 0, 1) := by decide +kernel
theorem dX12_tellDraft_16 : decode cX12_tellDraft 16 = .ok (.getfield 69, 3) := by decide +kernel
theorem dX12_tellDraft_19 : decode cX12_tellDraft 19 = .ok (.iload_n 1, 1) := by decide +kernel
theorem dX12_tellDraft_20 : decode cX12_tellDraft 20 = .ok (.baload, 1) := by decide +kernel
theorem dX12_tellDraft_21 : decode cX12_tellDraft 21 = .ok (.bastore, 1) := by decide +kernel
theorem dX12_tellDraft_22 : decode cX12_tellDraft 22 = .ok (.iinc 1 1, 3) := by decide +kernel
theorem dX12_tellDraft_25 : decode cX12_tellDraft 25 = .ok (.goto (-23), 3) := by decide +kernel
theorem dX12_tellDraft_28 : decode cX12_tellDraft 28 = .ok (.aload_n 0, 1) := by decide +kernel
theorem dX12_tellDraft_29 : decode cX12_tellDraft 29 = .ok (.aload_n 0, 1) := by decide +kernel
theorem dX12_tellDraft_30 : decode cX12_tellDraft 30 = .ok (.getfield 229, 3) := by decide +kernel
theorem dX12_tellDraft_33 : decode cX12_tellDraft 33 = .ok (.putfield 124, 3) := by decide +kernel
theorem dX12_tellDraft_36 : decode cX12_tellDraft 36 = .ok (.aload_n 0, 1) := by decide +kernel
theorem dX12_tellDraft_37 : decode cX12_tellDraft 37 = .ok (.getfield 124, 3) := by decide +kernel
theorem dX12_tellDraft_40 : decode cX12_tellDraft 40 = .ok (.ireturn, 1) := by decide +kernel
theorem dX12_wrong_0 : decode cX12_wrong 0 = .ok (.aload_n 0, 1) := by decide +kernel
theorem dX12_wrong_1 : decode cX12_wrong 1 = .ok (.iload_n 1, 1) := by decide +kernel
theorem dX12_wrong_2 : decode cX12_wrong 2 = .ok (.putfield 256, 3) := by decide +kernel
theorem dX12_wrong_5 : decode cX12_wrong 5 = .ok (.iconst 0, 1) := by decide +kernel
theorem dX12_wrong_6 : decode cX12_wrong 6 = .ok (.ireturn, 1) := by decide +kernel
theorem dX12_item_0 : decode cX12_item 0 = .ok (.aload_n 0, 1) := by decide +kernel
theorem dX12_item_1 : decode cX12_item 1 = .ok (.aload_n 0, 1) := by decide +kernel
theorem dX12_item_2 : decode cX12_item 2 = .ok (.getfield 259, 3) := by decide +kernel
theorem dX12_item_5 : decode cX12_item 5 = .ok (.putfield 262, 3) := by decide +kernel
theorem dX12_item_8 : decode cX12_item 8 = .ok (.aload_n 0, 1) := by decide +kernel
theorem dX12_item_9 : decode cX12_item 9 = .ok (.getfield 259, 3) := by decide +kernel
theorem dX12_item_12 : decode cX12_item 12 = .ok (.iload_n 1, 1) := by decide +kernel
theorem dX12_item_13 : decode cX12_item 13 = .ok (.if_icmp .lt 9, 3) := by decide +kernel
theorem dX12_item_16 : decode cX12_item 16 = .ok (.aload_n 0, 1) := by decide +kernel
theorem dX12_item_17 : decode cX12_item 17 = .ok (.iload_n 1, 1) := by decide +kernel
theorem dX12_item_18 : decode cX12_item 18 = .ok (.invokevirtual 265, 3) := by decide +kernel
theorem dX12_item_21 : decode cX12_item 21 = .ok (.ireturn, 1) := by decide +kernel
theorem dX12_item_22 : decode cX12_item 22 = .ok (.aload_n 0, 1) := by decide +kernel
theorem dX12_item_23 : decode cX12_item 23 = .ok (.aload_n 0, 1) := by decide +kernel
theorem dX12_item_24 : decode cX12_item 24 = .ok (.getfield 7, 3) := by decide +kernel
theorem dX12_item_27 : decode cX12_item 27 = .ok (.aload_n 0, 1) := by decide +kernel
theorem dX12_item_28 : decode cX12_item 28 = .ok (.getfield 259, 3) := by decide +kernel
theorem dX12_item_31 : decode cX12_item 31 = .ok (.baload, 1) := by decide +kernel
theorem dX12_item_32 : decode cX12_item 32 = .ok (.sipush 255, 3) := by decide +kernel
theorem dX12_item_35 : decode cX12_item 35 = .ok (.iand, 1) := by decide +kernel
theorem dX12_item_36 : decode cX12_item 36 = .ok (.putfield 269, 3) := by decide +kernel
theorem dX12_item_39 : decode cX12_item 39 = .ok (.iconst 2, 1) := by decide +kernel
theorem dX12_item_40 : decode cX12_item 40 = .ok (.istore_n 2, 1) := by decide +kernel
theorem dX12_item_41 : decode cX12_item 41 = .ok (.aload_n 0, 1) := by decide +kernel
theorem dX12_item_42 : decode cX12_item 42 = .ok (.getfield 259, 3) := by decide +kernel
theorem dX12_item_45 : decode cX12_item 45 = .ok (.iconst 1, 1) := by decide +kernel
theorem dX12_item_46 : decode cX12_item 46 = .ok (.iadd, 1) := by decide +kernel
theorem dX12_item_47 : decode cX12_item 47 = .ok (.iload_n 1, 1) := by decide +kernel
theorem dX12_item_48 : decode cX12_item 48 = .ok (.if_icmp .ge 21, 3) := by decide +kernel
theorem dX12_item_51 : decode cX12_item 51 = .ok (.aload_n 0, 1) := by decide +kernel
theorem dX12_item_52 : decode cX12_item 52 = .ok (.getfield 7, 3) := by decide +kernel
theorem dX12_item_55 : decode cX12_item 55 = .ok (.aload_n 0, 1) := by decide +kernel
theorem dX12_item_56 : decode cX12_item 56 = .ok (.getfield 259, 3) := by decide +kernel
theorem dX12_item_59 : decode cX12_item 59 = .ok (.iconst 1, 1) := by decide +kernel
theorem dX12_item_60 : decode cX12_item 60 = .ok (.iadd, 1) := by decide +kernel
theorem dX12_item_61 : decode cX12_item 61 = .ok (.baload, 1) := by decide +kernel
theorem dX12_item_62 : decode cX12_item 62 = .ok (.sipush 255, 3) := by decide +kernel
theorem dX12_item_65 : decode cX12_item 65 = .ok (.iand, 1) := by decide +kernel
theorem dX12_item_66 : decode cX12_item 66 = .ok (.goto 6, 3) := by decide +kernel
theorem dX12_item_69 : decode cX12_item 69 = .ok (.sipush 255, 3) := by decide +kernel
theorem dX12_item_72 : decode cX12_item 72 = .ok (.istore_n 3, 1) := by decide +kernel
theorem dX12_item_73 : decode cX12_item 73 = .ok (.iload_n 3, 1) := by decide +kernel
theorem dX12_item_74 : decode cX12_item 74 = .ok (.sipush 129, 3) := by decide +kernel
theorem dX12_item_77 : decode cX12_item 77 = .ok (.if_icmp .ne 53, 3) := by decide +kernel
theorem dX12_item_80 : decode cX12_item 80 = .ok (.iconst 3, 1) := by decide +kernel
theorem dX12_item_81 : decode cX12_item 81 = .ok (.istore_n 2, 1) := by decide +kernel
theorem dX12_item_82 : decode cX12_item 82 = .ok (.aload_n 0, 1) := by decide +kernel
theorem dX12_item_83 : decode cX12_item 83 = .ok (.getfield 259, 3) := by decide +kernel
theorem dX12_item_86 : decode cX12_item 86 = .ok (.iconst 2, 1) := by decide +kernel
theorem dX12_item_87 : decode cX12_item 87 = .ok (.iadd, 1) := by decide +kernel
theorem dX12_item_88 : decode cX12_item 88 = .ok (.iload_n 1, 1) := by decide +kernel
theorem dX12_item_89 : decode cX12_item 89 = .ok (.if_icmp .ge 21, 3) := by decide +kernel
theorem dX12_item_92 : decode cX12_item 92 = .ok (.aload_n 0, 1) := by decide +kernel
theorem dX12_item_93 : decode cX12_item 93 = .ok (.getfield 7, 3) := by decide +kernel
theorem dX12_item_96 : decode cX12_item 96 = .ok (.aload_n 0, 1) := by decide +kernel
theorem dX12_item_97 : decode cX12_item 97 = .ok (.getfield 259, 3) := by decide +kernel
theorem dX12_item_100 : decode cX12_item 100 = .ok (.iconst 2, 1) := by decide +kernel
theorem dX12_item_101 : decode cX12_item 101 = .ok (.iadd, 1) := by decide +kernel
theorem dX12_item_102 : decode cX12_item 102 = .ok (.baload, 1) := by decide +kernel
theorem dX12_item_103 : decode cX12_item 103 = .ok (.sipush 255, 3) := by decide +kernel
theorem dX12_item_106 : decode cX12_item 106 = .ok (.iand, 1) := by decide +kernel
theorem dX12_item_107 : decode cX12_item 107 = .ok (.goto 4, 3) := by decide +kernel
theorem dX12_item_110 : decode cX12_item 110 = .ok (.iconst 0, 1) := by decide +kernel
theorem dX12_item_111 : decode cX12_item 111 = .ok (.istore_n 3, 1) := by decide +kernel
theorem dX12_item_112 : decode cX12_item 112 = .ok (.iload_n 3, 1) := by decide +kernel
theorem dX12_item_113 : decode cX12_item 113 = .ok (.sipush 128, 3) := by decide +kernel
theorem dX12_item_116 : decode cX12_item 116 = .ok (.if_icmp .ge 9, 3) := by decide +kernel
theorem dX12_item_119 : decode cX12_item 119 = .ok (.sipush 5000, 3) := by decide +kernel
theorem dX12_item_122 : decode cX12_item 122 = .ok (.goto 4, 3) := by decide +kernel
theorem dX12_item_125 : decode cX12_item 125 = .ok (.iload_n 3, 1) := by decide +kernel
theorem dX12_item_126 : decode cX12_item 126 = .ok (.istore_n 3, 1) := by decide +kernel
theorem dX12_item_127 : decode cX12_item 127 = .ok (.goto 89, 3) := by decide +kernel
theorem dX12_item_130 : decode cX12_item 130 = .ok (.iload_n 3, 1) := by decide +kernel
theorem dX12_item_131 : decode cX12_item 131 = .ok (.sipush 130, 3) := by decide +kernel
theorem dX12_item_134 : decode cX12_item 134 = .ok (.if_icmp .ne 72, 3) := by decide +kernel
theorem dX12_item_137 : decode cX12_item 137 = .ok (.iconst 4, 1) := by decide +kernel
theorem dX12_item_138 : decode cX12_item 138 = .ok (.istore_n 2, 1) := by decide +kernel
theorem dX12_item_139 : decode cX12_item 139 = .ok (.aload_n 0, 1) := by decide +kernel
theorem dX12_item_140 : decode cX12_item 140 = .ok (.getfield 259, 3) := by decide +kernel
theorem dX12_item_143 : decode cX12_item 143 = .ok (.iconst 3, 1) := by decide +kernel
theorem dX12_item_144 : decode cX12_item 144 = .ok (.iadd, 1) := by decide +kernel
theorem dX12_item_145 : decode cX12_item 145 = .ok (.iload_n 1, 1) := by decide +kernel
theorem dX12_item_146 : decode cX12_item 146 = .ok (.if_icmp .ge 40, 3) := by decide +kernel
theorem dX12_item_149 : decode cX12_item 149 = .ok (.aload_n 0, 1) := by decide +kernel
theorem dX12_item_150 : decode cX12_item 150 = .ok (.getfield 7, 3) := by decide +kernel
theorem dX12_item_153 : decode cX12_item 153 = .ok (.aload_n 0, 1) := by decide +kernel
theorem dX12_item_154 : decode cX12_item 154 = .ok (.getfield 259, 3) := by decide +kernel
theorem dX12_item_157 : decode cX12_item 157 = .ok (.iconst 2, 1) := by decide +kernel
theorem dX12_item_158 : decode cX12_item 158 = .ok (.iadd, 1) := by decide +kernel
theorem dX12_item_159 : decode cX12_item 159 = .ok (.baload, 1) := by decide +kernel
theorem dX12_item_160 : decode cX12_item 160 = .ok (.sipush 255, 3) := by decide +kernel
theorem dX12_item_163 : decode cX12_item 163 = .ok (.iand, 1) := by decide +kernel
theorem dX12_item_164 : decode cX12_item 164 = .ok (.bipush 8, 2) := by decide +kernel
theorem dX12_item_166 : decode cX12_item 166 = .ok (.ishl, 1) := by decide +kernel
theorem dX12_item_167 : decode cX12_item 167 = .ok (.aload_n 0, 1) := by decide +kernel
theorem dX12_item_168 : decode cX12_item 168 = .ok (.getfield 7, 3) := by decide +kernel
theorem dX12_item_171 : decode cX12_item 171 = .ok (.aload_n 0, 1) := by decide +kernel
theorem dX12_item_172 : decode cX12_item 172 = .ok (.getfield 259, 3) := by decide +kernel
theorem dX12_item_175 : decode cX12_item 175 = .ok (.iconst 3, 1) := by decide +kernel
theorem dX12_item_176 : decode cX12_item 176 = .ok (.iadd, 1) := by decide +kernel
theorem dX12_item_177 : decode cX12_item 177 = .ok (.baload, 1) := by decide +kernel
theorem dX12_item_178 : decode cX12_item 178 = .ok (.sipush 255, 3) := by decide +kernel
theorem dX12_item_181 : decode cX12_item 181 = .ok (.iand, 1) := by decide +kernel
theorem dX12_item_182 : decode cX12_item 182 = .ok (.ior, 1) := by decide +kernel
theorem dX12_item_183 : decode cX12_item 183 = .ok (.goto 4, 3) := by decide +kernel
theorem dX12_item_186 : decode cX12_item 186 = .ok (.iconst 0, 1) := by decide +kernel
theorem dX12_item_187 : decode cX12_item 187 = .ok (.istore_n 3, 1) := by decide +kernel
theorem dX12_item_188 : decode cX12_item 188 = .ok (.iload_n 3, 1) := by decide +kernel
theorem dX12_item_189 : decode cX12_item 189 = .ok (.sipush 256, 3) := by decide +kernel
theorem dX12_item_192 : decode cX12_item 192 = .ok (.if_icmp .ge 9, 3) := by decide +kernel
theorem dX12_item_195 : decode cX12_item 195 = .ok (.ldc_w 272, 3) := by decide +kernel
theorem dX12_item_198 : decode cX12_item 198 = .ok (.goto 4, 3) := by decide +kernel
theorem dX12_item_201 : decode cX12_item 201 = .ok (.iload_n 3, 1) := by decide +kernel
theorem dX12_item_202 : decode cX12_item 202 = .ok (.istore_n 3, 1) := by decide +kernel
theorem dX12_item_203 : decode cX12_item 203 = .ok (.goto 13, 3) := by decide +kernel
theorem dX12_item_206 : decode cX12_item 206 = .ok (.iload_n 3, 1) := by decide +kernel
theorem dX12_item_207 : decode cX12_item 207 = .ok (.bipush 127, 2) := by decide +kernel
theorem dX12_item_209 : decode cX12_item 209 = .ok (.if_icmp .le 7, 3) := by decide +kernel
theorem dX12_item_212 : decode cX12_item 212 = .ok (.ldc_w 272, 3) := by decide +kernel
theorem dX12_item_215 : decode cX12_item 215 = .ok (.istore_n 3, 1) := by decide +kernel
theorem dX12_item_216 : decode cX12_item 216 = .ok (.aload_n 0, 1) := by decide +kernel
theorem dX12_item_217 : decode cX12_item 217 = .ok (.aload_n 0, 1) := by decide +kernel
theorem dX12_item_218 : decode cX12_item 218 = .ok (.getfield 259, 3) := by decide +kernel
theorem dX12_item_221 : decode cX12_item 221 = .ok (.iload_n 2, 1) := by decide +kernel
theorem dX12_item_222 : decode cX12_item 222 = .ok (.iadd, 1) := by decide +kernel
theorem dX12_item_223 : decode cX12_item 223 = .ok (.putfield 273, 3) := by decide +kernel
theorem dX12_item_226 : decode cX12_item 226 = .ok (.aload_n 0, 1) := by decide +kernel
theorem dX12_item_227 : decode cX12_item 227 = .ok (.aload_n 0, 1) := by decide +kernel
theorem dX12_item_228 : decode cX12_item 228 = .ok (.getfield 273, 3) := by decide +kernel
theorem dX12_item_231 : decode cX12_item 231 = .ok (.iload_n 3, 1) := by decide +kernel
theorem dX12_item_232 : decode cX12_item 232 = .ok (.iadd, 1) := by decide +kernel
theorem dX12_item_233 : decode cX12_item 233 = .ok (.putfield 276, 3) := by decide +kernel
theorem dX12_item_236 : decode cX12_item 236 = .ok (.aload_n 0, 1) := by decide +kernel
theorem dX12_item_237 : decode cX12_item 237 = .ok (.getfield 276, 3) := by decide +kernel
theorem dX12_item_240 : decode cX12_item 240 = .ok (.iload_n 1, 1) := by decide +kernel
theorem dX12_item_241 : decode cX12_item 241 = .ok (.if_icmp .le 12, 3) := by decide +kernel
theorem dX12_item_244 : decode cX12_item 244 = .ok (.aload_n 0, 1) := by decide +kernel
theorem dX12_item_245 : decode cX12_item 245 = .ok (.aload_n 0, 1) := by decide +kernel
theorem dX12_item_246 : decode cX12_item 246 = .ok (.getfield 262, 3) := by decide +kernel
theorem dX12_item_249 : decode cX12_item 249 = .ok (.invokevirtual 265, 3) := by decide +kernel
theorem dX12_item_252 : decode cX12_item 252 = .ok (.ireturn, 1) := by decide +kernel
theorem dX12_item_253 : decode cX12_item 253 = .ok (.aload_n 0, 1) := by decide +kernel
theorem dX12_item_254 : decode cX12_item 254 = .ok (.aload_n 0, 1) := by decide +kernel
theorem dX12_item_255 : decode cX12_item 255 = .ok (.getfield 273, 3) := by decide +kernel
theorem dX12_item_258 : decode cX12_item 258 = .ok (.putfield 259, 3) := by decide +kernel
theorem dX12_item_261 : decode cX12_item 261 = .ok (.aload_n 0, 1) := by decide +kernel
theorem dX12_item_262 : decode cX12_item 262 = .ok (.dup, 1) := by decide +kernel
theorem dX12_item_263 : decode cX12_item 263 = .ok (.getfield 279, 3) := by decide +kernel
theorem dX12_item_266 : decode cX12_item 266 = .ok (.iconst 1, 1) := by decide +kernel
theorem dX12_item_267 : decode cX12_item 267 = .ok (.iadd, 1) := by decide +kernel
theorem dX12_item_268 : decode cX12_item 268 = .ok (.putfield 279, 3) := by decide +kernel
theorem dX12_item_271 : decode cX12_item 271 = .ok (.iconst 1, 1) := by decide +kernel
theorem dX12_item_272 : decode cX12_item 272 = .ok (.ireturn, 1) := by decide +kernel
theorem dX12_of_0 : decode cX12_of 0 = .ok (.aload_n 0, 1) := by decide +kernel
theorem dX12_of_1 : decode cX12_of 1 = .ok (.iload_n 2, 1) := by decide +kernel
theorem dX12_of_2 : decode cX12_of 2 = .ok (.invokevirtual 282, 3) := by decide +kernel
theorem dX12_of_5 : decode cX12_of 5 = .ok (.ifCond .eq 26, 3) := by decide +kernel
theorem dX12_of_8 : decode cX12_of 8 = .ok (.aload_n 0, 1) := by decide +kernel
theorem dX12_of_9 : decode cX12_of 9 = .ok (.getfield 269, 3) := by decide +kernel
theorem dX12_of_12 : decode cX12_of 12 = .ok (.iload_n 1, 1) := by decide +kernel
theorem dX12_of_13 : decode cX12_of 13 = .ok (.if_icmp .eq 14, 3) := by decide +kernel
theorem dX12_of_16 : decode cX12_of 16 = .ok (.aload_n 0, 1) := by decide +kernel
theorem dX12_of_17 : decode cX12_of 17 = .ok (.aload_n 0, 1) := by decide +kernel
theorem dX12_of_18 : decode cX12_of 18 = .ok (.getfield 262, 3) := by decide +kernel
theorem dX12_of_21 : decode cX12_of 21 = .ok (.invokevirtual 265, 3) := by decide +kernel
theorem dX12_of_24 : decode cX12_of 24 = .ok (.ifCond .eq 7, 3) := by decide +kernel
theorem dX12_of_27 : decode cX12_of 27 = .ok (.iconst 1, 1) := by decide +kernel
theorem dX12_of_28 : decode cX12_of 28 = .ok (.goto 4, 3) := by decide +kernel
theorem dX12_of_31 : decode cX12_of 31 = .ok (.iconst 0, 1) := by decide +kernel
theorem dX12_of_32 : decode cX12_of 32 = .ok (.ireturn, 1) := by decide +kernel
theorem dX12_bytes_0 : decode cX12_bytes 0 = .ok (.aload_n 0, 1) := by decide +kernel
theorem dX12_bytes_1 : decode cX12_bytes 1 = .ok (.iconst 4, 1) := by decide +kernel
theorem dX12_bytes_2 : decode cX12_bytes 2 = .ok (.iload_n 3, 1) := by decide +kernel
theorem dX12_bytes_3 : decode cX12_bytes 3 = .ok (.invokevirtual 285, 3) := by decide +kernel
theorem dX12_bytes_6 : decode cX12_bytes 6 = .ok (.ifCond .eq 34, 3) := by decide +kernel
theorem dX12_bytes_9 : decode cX12_bytes 9 = .ok (.aload_n 0, 1) := by decide +kernel
theorem dX12_bytes_10 : decode cX12_bytes 10 = .ok (.getfield 276, 3) := by decide +kernel
theorem dX12_bytes_13 : decode cX12_bytes 13 = .ok (.aload_n 0, 1) := by decide +kernel
theorem dX12_bytes_14 : decode cX12_bytes 14 = .ok (.getfield 273, 3) := by decide +kernel
theorem dX12_bytes_17 : decode cX12_bytes 17 = .ok (.isub, 1) := by decide +kernel
theorem dX12_bytes_18 : decode cX12_bytes 18 = .ok (.i2l, 1) := by decide +kernel
theorem dX12_bytes_19 : decode cX12_bytes 19 = .ok (.iload_n 1, 1) := by decide +kernel
theorem dX12_bytes_20 : decode cX12_bytes 20 = .ok (.i2l, 1) := by decide +kernel
theorem dX12_bytes_21 : decode cX12_bytes 21 = .ok (.iload_n 2, 1) := by decide +kernel
theorem dX12_bytes_22 : decode cX12_bytes 22 = .ok (.i2l, 1) := by decide +kernel
theorem dX12_bytes_23 : decode cX12_bytes 23 = .ok (.invokestatic 117, 3) := by decide +kernel
theorem dX12_bytes_26 : decode cX12_bytes 26 = .ok (.ifCond .ne 16, 3) := by decide +kernel
theorem dX12_bytes_29 : decode cX12_bytes 29 = .ok (.aload_n 0, 1) := by decide +kernel
theorem dX12_bytes_30 : decode cX12_bytes 30 = .ok (.aload_n 0, 1) := by decide +kernel
theorem dX12_bytes_31 : decode cX12_bytes 31 = .ok (.getfield 262, 3) := by decide +kernel
theorem dX12_bytes_34 : decode cX12_bytes 34 = .ok (.invokevirtual 265, 3) := by decide +kernel
theorem dX12_bytes_37 : decode cX12_bytes 37 = .ok (.ifCond .ne 5, 3) := by decide +kernel
theorem dX12_bytes_40 : decode cX12_bytes 40 = .ok (.iconst 0, 1) := by decide +kernel
theorem dX12_bytes_41 : decode cX12_bytes 41 = .ok (.ireturn, 1) := by decide +kernel
theorem dX12_bytes_42 : decode cX12_bytes 42 = .ok (.aload_n 0, 1) := by decide +kernel
theorem dX12_bytes_43 : decode cX12_bytes 43 = .ok (.aload_n 0, 1) := by decide +kernel
theorem dX12_bytes_44 : decode cX12_bytes 44 = .ok (.getfield 276, 3) := by decide +kernel
theorem dX12_bytes_47 : decode cX12_bytes 47 = .ok (.putfield 259, 3) := by decide +kernel
theorem dX12_bytes_50 : decode cX12_bytes 50 = .ok (.iconst 1, 1) := by decide +kernel
theorem dX12_bytes_51 : decode cX12_bytes 51 = .ok (.ireturn, 1) := by decide +kernel
theorem dX12_integer_0 : decode cX12_integer 0 = .ok (.aload_n 0, 1) := by decide +kernel
theorem dX12_integer_1 : decode cX12_integer 1 = .ok (.iconst 2, 1) := by decide +kernel
theorem dX12_integer_2 : decode cX12_integer 2 = .ok (.iload 5, 2) := by decide +kernel
theorem dX12_integer_4 : decode cX12_integer 4 = .ok (.invokevirtual 285, 3) := by decide +kernel
theorem dX12_integer_7 : decode cX12_integer 7 = .ok (.ifCond .ne 5, 3) := by decide +kernel
theorem dX12_integer_10 : decode cX12_integer 10 = .ok (.iconst 0, 1) := by decide +kernel
theorem dX12_integer_11 : decode cX12_integer 11 = .ok (.ireturn, 1) := by decide +kernel
theorem dX12_integer_12 : decode cX12_integer 12 = .ok (.aload_n 0, 1) := by decide +kernel
theorem dX12_integer_13 : decode cX12_integer 13 = .ok (.getfield 276, 3) := by decide +kernel
theorem dX12_integer_16 : decode cX12_integer 16 = .ok (.aload_n 0, 1) := by decide +kernel
theorem dX12_integer_17 : decode cX12_integer 17 = .ok (.getfield 273, 3) := by decide +kernel
theorem dX12_integer_20 : decode cX12_integer 20 = .ok (.isub, 1) := by decide +kernel
theorem dX12_integer_21 : decode cX12_integer 21 = .ok (.istore 6, 2) := by decide +kernel
theorem dX12_integer_23 : decode cX12_integer 23 = .ok (.iload 6, 2) := by decide +kernel
theorem dX12_integer_25 : decode cX12_integer 25 = .ok (.iconst 1, 1) := by decide +kernel
theorem dX12_integer_26 : decode cX12_integer 26 = .ok (.if_icmp .lt 54, 3) := by decide +kernel
theorem dX12_integer_29 : decode cX12_integer 29 = .ok (.iload 6, 2) := by decide +kernel
theorem dX12_integer_31 : decode cX12_integer 31 = .ok (.bipush 8, 2) := by decide +kernel
theorem dX12_integer_33 : decode cX12_integer 33 = .ok (.if_icmp .gt 47, 3) := by decide +kernel
theorem dX12_integer_36 : decode cX12_integer 36 = .ok (.aload_n 0, 1) := by decide +kernel
theorem dX12_integer_37 : decode cX12_integer 37 = .ok (.getfield 7, 3) := by decide +kernel
theorem dX12_integer_40 : decode cX12_integer 40 = .ok (.aload_n 0, 1) := by decide +kernel
theorem dX12_integer_41 : decode cX12_integer 41 = .ok (.getfield 273, 3) := by decide +kernel
theorem dX12_integer_44 : decode cX12_integer 44 = .ok (.baload, 1) := by decide +kernel
theorem dX12_integer_45 : decode cX12_integer 45 = .ok (.ifCond .lt 35, 3) := by decide +kernel
theorem dX12_integer_48 : decode cX12_integer 48 = .ok (.iload 6, 2) := by decide +kernel
theorem dX12_integer_50 : decode cX12_integer 50 = .ok (.iconst 1, 1) := by decide +kernel
theorem dX12_integer_51 : decode cX12_integer 51 = .ok (.if_icmp .le 38, 3) := by decide +kernel
theorem dX12_integer_54 : decode cX12_integer 54 = .ok (.aload_n 0, 1) := by decide +kernel
theorem dX12_integer_55 : decode cX12_integer 55 = .ok (.getfield 7, 3) := by decide +kernel
theorem dX12_integer_58 : decode cX12_integer 58 = .ok (.aload_n 0, 1) := by decide +kernel
theorem dX12_integer_59 : decode cX12_integer 59 = .ok (.getfield 273, 3) := by decide +kernel
theorem dX12_integer_62 : decode cX12_integer 62 = .ok (.baload, 1) := by decide +kernel
theorem dX12_integer_63 : decode cX12_integer 63 = .ok (.ifCond .ne 26, 3) := by decide +kernel
theorem dX12_integer_66 : decode cX12_integer 66 = .ok (.aload_n 0, 1) := by decide +kernel
theorem dX12_integer_67 : decode cX12_integer 67 = .ok (.getfield 7, 3) := by decide +kernel
theorem dX12_integer_70 : decode cX12_integer 70 = .ok (.aload_n 0, 1) := by decide +kernel
theorem dX12_integer_71 : decode cX12_integer 71 = .ok (.getfield 273, 3) := by decide +kernel
theorem dX12_integer_74 : decode cX12_integer 74 = .ok (.iconst 1, 1) := by decide +kernel
theorem dX12_integer_75 : decode cX12_integer 75 = .ok (.iadd, 1) := by decide +kernel
theorem dX12_integer_76 : decode cX12_integer 76 = .ok (.baload, 1) := by decide +kernel
theorem dX12_integer_77 : decode cX12_integer 77 = .ok (.ifCond .lt 12, 3) := by decide +kernel
theorem dX12_integer_80 : decode cX12_integer 80 = .ok (.aload_n 0, 1) := by decide +kernel
theorem dX12_integer_81 : decode cX12_integer 81 = .ok (.aload_n 0, 1) := by decide +kernel
theorem dX12_integer_82 : decode cX12_integer 82 = .ok (.getfield 262, 3) := by decide +kernel
theorem dX12_integer_85 : decode cX12_integer 85 = .ok (.invokevirtual 265, 3) := by decide +kernel
theorem dX12_integer_88 : decode cX12_integer 88 = .ok (.ireturn, 1) := by decide +kernel
theorem dX12_integer_89 : decode cX12_integer 89 = .ok (.aload_n 0, 1) := by decide +kernel
theorem dX12_integer_90 : decode cX12_integer 90 = .ok (.lconst 0, 1) := by decide +kernel
theorem dX12_integer_91 : decode cX12_integer 91 = .ok (.putfield 289, 3) := by decide +kernel
theorem dX12_integer_94 : decode cX12_integer 94 = .ok (.aload_n 0, 1) := by decide +kernel
theorem dX12_integer_95 : decode cX12_integer 95 = .ok (.getfield 273, 3) := by decide +kernel
theorem dX12_integer_98 : decode cX12_integer 98 = .ok (.istore 7, 2) := by decide +kernel
theorem dX12_integer_100 : decode cX12_integer 100 = .ok (.iload 7, 2) := by decide +kernel
theorem dX12_integer_102 : decode cX12_integer 102 = .ok (.aload_n 0, 1) := by decide +kernel
theorem dX12_integer_103 : decode cX12_integer 103 = .ok (.getfield 276, 3) := by decide +kernel
theorem dX12_integer_106 : decode cX12_integer 106 = .ok (.if_icmp .ge 33, 3) := by decide +kernel
theorem dX12_integer_109 : decode cX12_integer 109 = .ok (.aload_n 0, 1) := by decide +kernel
theorem dX12_integer_110 : decode cX12_integer 110 = .ok (.aload_n 0, 1) := by decide +kernel
theorem dX12_integer_111 : decode cX12_integer 111 = .ok (.getfield 289, 3) := by decide +kernel
theorem dX12_integer_114 : decode cX12_integer 114 = .ok (.bipush 8, 2) := by decide +kernel
theorem dX12_integer_116 : decode cX12_integer 116 = .ok (.lshl, 1) := by decide +kernel
theorem dX12_integer_117 : decode cX12_integer 117 = .ok (.aload_n 0, 1) := by decide +kernel
theorem dX12_integer_118 : decode cX12_integer 118 = .ok (.getfield 7, 3) := by decide +kernel
theorem dX12_integer_121 : decode cX12_integer 121 = .ok (.iload 7, 2) := by decide +kernel
theorem dX12_integer_123 : decode cX12_integer 123 = .ok (.baload, 1) := by decide +kernel
theorem dX12_integer_124 : decode cX12_integer 124 = .ok (.i2l, 1) := by decide +kernel
theorem dX12_integer_125 : decode cX12_integer 125 = .ok (.ldc2_w 186, 3) := by decide +kernel
theorem dX12_integer_128 : decode cX12_integer 128 = .ok (.land, 1) := by decide +kernel
theorem dX12_integer_129 : decode cX12_integer 129 = .ok (.lor, 1) := by decide +kernel
theorem dX12_integer_130 : decode cX12_integer 130 = .ok (.putfield 289, 3) := by decide +kernel
theorem dX12_integer_133 : decode cX12_integer 133 = .ok (.iinc 7 1, 3) := by decide +kernel
theorem dX12_integer_136 : decode cX12_integer 136 = .ok (.goto (-36), 3) := by decide +kernel
theorem dX12_integer_139 : decode cX12_integer 139 = .ok (.aload_n 0, 1) := by decide +kernel
theorem dX12_integer_140 : decode cX12_integer 140 = .ok (.aload_n 0, 1) := by decide +kernel
theorem dX12_integer_141 : decode cX12_integer 141 = .ok (.getfield 276, 3) := by decide +kernel
theorem dX12_integer_144 : decode cX12_integer 144 = .ok (.putfield 259, 3) := by decide +kernel
theorem dX12_integer_147 : decode cX12_integer 147 = .ok (.aload_n 0, 1) := by decide +kernel
theorem dX12_integer_148 : decode cX12_integer 148 = .ok (.getfield 289, 3) := by decide +kernel
theorem dX12_integer_151 : decode cX12_integer 151 = .ok (.lload_n 1, 1) := by decide +kernel
theorem dX12_integer_152 : decode cX12_integer 152 = .ok (.lload_n 3, 1) := by decide +kernel
theorem dX12_integer_153 : decode cX12_integer 153 = .ok (.invokestatic 117, 3) := by decide +kernel
theorem dX12_integer_156 : decode cX12_integer 156 = .ok (.ifCond .ne 14, 3) := by decide +kernel
theorem dX12_integer_159 : decode cX12_integer 159 = .ok (.aload_n 0, 1) := by decide +kernel
theorem dX12_integer_160 : decode cX12_integer 160 = .ok (.aload_n 0, 1) := by decide +kernel
theorem dX12_integer_161 : decode cX12_integer 161 = .ok (.getfield 262, 3) := by decide +kernel
theorem dX12_integer_164 : decode cX12_integer 164 = .ok (.invokevirtual 265, 3) := by decide +kernel
theorem dX12_integer_167 : decode cX12_integer 167 = .ok (.ifCond .eq 7, 3) := by decide +kernel
theorem dX12_integer_170 : decode cX12_integer 170 = .ok (.iconst 1, 1) := by decide +kernel
theorem dX12_integer_171 : decode cX12_integer 171 = .ok (.goto 4, 3) := by decide +kernel
theorem dX12_integer_174 : decode cX12_integer 174 = .ok (.iconst 0, 1) := by decide +kernel
theorem dX12_integer_175 : decode cX12_integer 175 = .ok (.ireturn, 1) := by decide +kernel
theorem dX12_code_0 : decode cX12_code 0 = .ok (.aload_n 0, 1) := by decide +kernel
theorem dX12_code_1 : decode cX12_code 1 = .ok (.bipush 10, 2) := by decide +kernel
theorem dX12_code_3 : decode cX12_code 3 = .ok (.iload_n 1, 1) := by decide +kernel
theorem dX12_code_4 : decode cX12_code 4 = .ok (.invokevirtual 285, 3) := by decide +kernel
theorem dX12_code_7 : decode cX12_code 7 = .ok (.ifCond .ne 5, 3) := by decide +kernel
theorem dX12_code_10 : decode cX12_code 10 = .ok (.iconst 0, 1) := by decide +kernel
theorem dX12_code_11 : decode cX12_code 11 = .ok (.ireturn, 1) := by decide +kernel
theorem dX12_code_12 : decode cX12_code 12 = .ok (.aload_n 0, 1) := by decide +kernel
theorem dX12_code_13 : decode cX12_code 13 = .ok (.getfield 276, 3) := by decide +kernel
theorem dX12_code_16 : decode cX12_code 16 = .ok (.aload_n 0, 1) := by decide +kernel
theorem dX12_code_17 : decode cX12_code 17 = .ok (.getfield 273, 3) := by decide +kernel
theorem dX12_code_20 : decode cX12_code 20 = .ok (.isub, 1) := by decide +kernel
theorem dX12_code_21 : decode cX12_code 21 = .ok (.iconst 1, 1) := by decide +kernel
theorem dX12_code_22 : decode cX12_code 22 = .ok (.if_icmp .ne 23, 3) := by decide +kernel
theorem dX12_code_25 : decode cX12_code 25 = .ok (.aload_n 0, 1) := by decide +kernel
theorem dX12_code_26 : decode cX12_code 26 = .ok (.getfield 7, 3) := by decide +kernel
theorem dX12_code_29 : decode cX12_code 29 = .ok (.aload_n 0, 1) := by decide +kernel
theorem dX12_code_30 : decode cX12_code 30 = .ok (.getfield 273, 3) := by decide +kernel
theorem dX12_code_33 : decode cX12_code 33 = .ok (.baload, 1) := by decide +kernel
theorem dX12_code_34 : decode cX12_code 34 = .ok (.i2l, 1) := by decide +kernel
theorem dX12_code_35 : decode cX12_code 35 = .ok (.lconst 0, 1) := by decide +kernel
theorem dX12_code_36 : decode cX12_code 36 = .ok (.ldc2_w 292, 3) := by decide +kernel
theorem dX12_code_39 : decode cX12_code 39 = .ok (.invokestatic 117, 3) := by decide +kernel
theorem dX12_code_42 : decode cX12_code 42 = .ok (.ifCond .ne 12, 3) := by decide +kernel
theorem dX12_code_45 : decode cX12_code 45 = .ok (.aload_n 0, 1) := by decide +kernel
theorem dX12_code_46 : decode cX12_code 46 = .ok (.aload_n 0, 1) := by decide +kernel
theorem dX12_code_47 : decode cX12_code 47 = .ok (.getfield 262, 3) := by decide +kernel
theorem dX12_code_50 : decode cX12_code 50 = .ok (.invokevirtual 265, 3) := by decide +kernel
theorem dX12_code_53 : decode cX12_code 53 = .ok (.ireturn, 1) := by decide +kernel
theorem dX12_code_54 : decode cX12_code 54 = .ok (.aload_n 0, 1) := by decide +kernel
theorem dX12_code_55 : decode cX12_code 55 = .ok (.aload_n 0, 1) := by decide +kernel
theorem dX12_code_56 : decode cX12_code 56 = .ok (.getfield 7, 3) := by decide +kernel
theorem dX12_code_59 : decode cX12_code 59 = .ok (.aload_n 0, 1) := by decide +kernel
theorem dX12_code_60 : decode cX12_code 60 = .ok (.getfield 273, 3) := by decide +kernel
theorem dX12_code_63 : decode cX12_code 63 = .ok (.baload, 1) := by decide +kernel
theorem dX12_code_64 : decode cX12_code 64 = .ok (.i2l, 1) := by decide +kernel
theorem dX12_code_65 : decode cX12_code 65 = .ok (.putfield 289, 3) := by decide +kernel
theorem dX12_code_68 : decode cX12_code 68 = .ok (.aload_n 0, 1) := by decide +kernel
theorem dX12_code_69 : decode cX12_code 69 = .ok (.aload_n 0, 1) := by decide +kernel
theorem dX12_code_70 : decode cX12_code 70 = .ok (.getfield 276, 3) := by decide +kernel
theorem dX12_code_73 : decode cX12_code 73 = .ok (.putfield 259, 3) := by decide +kernel
theorem dX12_code_76 : decode cX12_code 76 = .ok (.iconst 1, 1) := by decide +kernel
theorem dX12_code_77 : decode cX12_code 77 = .ok (.ireturn, 1) := by decide +kernel
theorem dX12_time_0 : decode cX12_time 0 = .ok (.aload_n 0, 1) := by decide +kernel
theorem dX12_time_1 : decode cX12_time 1 = .ok (.bipush 24, 2) := by decide +kernel
theorem dX12_time_3 : decode cX12_time 3 = .ok (.iload_n 1, 1) := by decide +kernel
theorem dX12_time_4 : decode cX12_time 4 = .ok (.invokevirtual 285, 3) := by decide +kernel
theorem dX12_time_7 : decode cX12_time 7 = .ok (.ifCond .ne 5, 3) := by decide +kernel
theorem dX12_time_10 : decode cX12_time 10 = .ok (.iconst 0, 1) := by decide +kernel
theorem dX12_time_11 : decode cX12_time 11 = .ok (.ireturn, 1) := by decide +kernel
theorem dX12_time_12 : decode cX12_time 12 = .ok (.aload_n 0, 1) := by decide +kernel
theorem dX12_time_13 : decode cX12_time 13 = .ok (.aload_n 0, 1) := by decide +kernel
theorem dX12_time_14 : decode cX12_time 14 = .ok (.getfield 276, 3) := by decide +kernel
theorem dX12_time_17 : decode cX12_time 17 = .ok (.aload_n 0, 1) := by decide +kernel
theorem dX12_time_18 : decode cX12_time 18 = .ok (.getfield 273, 3) := by decide +kernel
theorem dX12_time_21 : decode cX12_time 21 = .ok (.isub, 1) := by decide +kernel
theorem dX12_time_22 : decode cX12_time 22 = .ok (.bipush 15, 2) := by decide +kernel
theorem dX12_time_24 : decode cX12_time 24 = .ok (.if_icmp .ne 17, 3) := by decide +kernel
theorem dX12_time_27 : decode cX12_time 27 = .ok (.aload_n 0, 1) := by decide +kernel
theorem dX12_time_28 : decode cX12_time 28 = .ok (.getfield 7, 3) := by decide +kernel
theorem dX12_time_31 : decode cX12_time 31 = .ok (.aload_n 0, 1) := by decide +kernel
theorem dX12_time_32 : decode cX12_time 32 = .ok (.getfield 273, 3) := by decide +kernel
theorem dX12_time_35 : decode cX12_time 35 = .ok (.invokestatic 294, 3) := by decide +kernel
theorem dX12_time_38 : decode cX12_time 38 = .ok (.goto 6, 3) := by decide +kernel
theorem dX12_time_41 : decode cX12_time 41 = .ok (.ldc2_w 213, 3) := by decide +kernel
theorem dX12_time_44 : decode cX12_time 44 = .ok (.putfield 289, 3) := by decide +kernel
theorem dX12_time_47 : decode cX12_time 47 = .ok (.aload_n 0, 1) := by decide +kernel
theorem dX12_time_48 : decode cX12_time 48 = .ok (.aload_n 0, 1) := by decide +kernel
theorem dX12_time_49 : decode cX12_time 49 = .ok (.getfield 276, 3) := by decide +kernel
theorem dX12_time_52 : decode cX12_time 52 = .ok (.putfield 259, 3) := by decide +kernel
theorem dX12_time_55 : decode cX12_time 55 = .ok (.aload_n 0, 1) := by decide +kernel
theorem dX12_time_56 : decode cX12_time 56 = .ok (.getfield 289, 3) := by decide +kernel
theorem dX12_time_59 : decode cX12_time 59 = .ok (.ldc2_w 213, 3) := by decide +kernel
theorem dX12_time_62 : decode cX12_time 62 = .ok (.lcmp, 1) := by decide +kernel
theorem dX12_time_63 : decode cX12_time 63 = .ok (.ifCond .ne 14, 3) := by decide +kernel
theorem dX12_time_66 : decode cX12_time 66 = .ok (.aload_n 0, 1) := by decide +kernel
theorem dX12_time_67 : decode cX12_time 67 = .ok (.aload_n 0, 1) := by decide +kernel
theorem dX12_time_68 : decode cX12_time 68 = .ok (.getfield 262, 3) := by decide +kernel
theorem dX12_time_71 : decode cX12_time 71 = .ok (.invokevirtual 265, 3) := by decide +kernel
theorem dX12_time_74 : decode cX12_time 74 = .ok (.ifCond .eq 7, 3) := by decide +kernel
theorem dX12_time_77 : decode cX12_time 77 = .ok (.iconst 1, 1) := by decide +kernel
theorem dX12_time_78 : decode cX12_time 78 = .ok (.goto 4, 3) := by decide +kernel
theorem dX12_time_81 : decode cX12_time 81 = .ok (.iconst 0, 1) := by decide +kernel
theorem dX12_time_82 : decode cX12_time 82 = .ok (.ireturn, 1) := by decide +kernel
theorem dX12_signature_0 : decode cX12_signature 0 = .ok (.aload_n 0, 1) := by decide +kernel
theorem dX12_signature_1 : decode cX12_signature 1 = .ok (.iconst 3, 1) := by decide +kernel
theorem dX12_signature_2 : decode cX12_signature 2 = .ok (.iload_n 1, 1) := by decide +kernel
theorem dX12_signature_3 : decode cX12_signature 3 = .ok (.invokevirtual 285, 3) := by decide +kernel
theorem dX12_signature_6 : decode cX12_signature 6 = .ok (.ifCond .ne 5, 3) := by decide +kernel
theorem dX12_signature_9 : decode cX12_signature 9 = .ok (.iconst 0, 1) := by decide +kernel
theorem dX12_signature_10 : decode cX12_signature 10 = .ok (.ireturn, 1) := by decide +kernel
theorem dX12_signature_11 : decode cX12_signature 11 = .ok (.aload_n 0, 1) := by decide +kernel
theorem dX12_signature_12 : decode cX12_signature 12 = .ok (.getfield 276, 3) := by decide +kernel
theorem dX12_signature_15 : decode cX12_signature 15 = .ok (.aload_n 0, 1) := by decide +kernel
theorem dX12_signature_16 : decode cX12_signature 16 = .ok (.getfield 273, 3) := by decide +kernel
theorem dX12_signature_19 : decode cX12_signature 19 = .ok (.isub, 1) := by decide +kernel
theorem dX12_signature_20 : decode cX12_signature 20 = .ok (.bipush 9, 2) := by decide +kernel
theorem dX12_signature_22 : decode cX12_signature 22 = .ok (.if_icmp .ne 15, 3) := by decide +kernel
theorem dX12_signature_25 : decode cX12_signature 25 = .ok (.aload_n 0, 1) := by decide +kernel
theorem dX12_signature_26 : decode cX12_signature 26 = .ok (.getfield 7, 3) := by decide +kernel
theorem dX12_signature_29 : decode cX12_signature 29 = .ok (.aload_n 0, 1) := by decide +kernel
theorem dX12_signature_30 : decode cX12_signature 30 = .ok (.getfield 273, 3) := by decide +kernel
theorem dX12_signature_33 : decode cX12_signature 33 = .ok (.baload, 1) := by decide +kernel
theorem dX12_signature_34 : decode cX12_signature 34 = .ok (.ifCond .eq 12, 3) := by decide +kernel
theorem dX12_signature_37 : decode cX12_signature 37 = .ok (.aload_n 0, 1) := by decide +kernel
theorem dX12_signature_38 : decode cX12_signature 38 = .ok (.aload_n 0, 1) := by decide +kernel
theorem dX12_signature_39 : decode cX12_signature 39 = .ok (.getfield 262, 3) := by decide +kernel
theorem dX12_signature_42 : decode cX12_signature 42 = .ok (.invokevirtual 265, 3) := by decide +kernel
theorem dX12_signature_45 : decode cX12_signature 45 = .ok (.ireturn, 1) := by decide +kernel
theorem dX12_signature_46 : decode cX12_signature 46 = .ok (.aload_n 0, 1) := by decide +kernel
theorem dX12_signature_47 : decode cX12_signature 47 = .ok (.aload_n 0, 1) := by decide +kernel
theorem dX12_signature_48 : decode cX12_signature 48 = .ok (.getfield 273, 3) := by decide +kernel
theorem dX12_signature_51 : decode cX12_signature 51 = .ok (.iconst 1, 1) := by decide +kernel
theorem dX12_signature_52 : decode cX12_signature 52 = .ok (.iadd, 1) := by decide +kernel
theorem dX12_signature_53 : decode cX12_signature 53 = .ok (.putfield 297, 3) := by decide +kernel
theorem dX12_signature_56 : decode cX12_signature 56 = .ok (.aload_n 0, 1) := by decide +kernel
theorem dX12_signature_57 : decode cX12_signature 57 = .ok (.aload_n 0, 1) := by decide +kernel
theorem dX12_signature_58 : decode cX12_signature 58 = .ok (.getfield 276, 3) := by decide +kernel
theorem dX12_signature_61 : decode cX12_signature 61 = .ok (.putfield 259, 3) := by decide +kernel
theorem dX12_signature_64 : decode cX12_signature 64 = .ok (.iconst 1, 1) := by decide +kernel
theorem dX12_signature_65 : decode cX12_signature 65 = .ok (.ireturn, 1) := by decide +kernel
theorem dX12_ends_0 : decode cX12_ends 0 = .ok (.aload_n 0, 1) := by decide +kernel
theorem dX12_ends_1 : decode cX12_ends 1 = .ok (.getfield 259, 3) := by decide +kernel
theorem dX12_ends_4 : decode cX12_ends 4 = .ok (.iload_n 1, 1) := by decide +kernel
theorem dX12_ends_5 : decode cX12_ends 5 = .ok (.if_icmp .eq 14, 3) := by decide +kernel
theorem dX12_ends_8 : decode cX12_ends 8 = .ok (.aload_n 0, 1) := by decide +kernel
theorem dX12_ends_9 : decode cX12_ends 9 = .ok (.aload_n 0, 1) := by decide +kernel
theorem dX12_ends_10 : decode cX12_ends 10 = .ok (.getfield 259, 3) := by decide +kernel
theorem dX12_ends_13 : decode cX12_ends 13 = .ok (.invokevirtual 265, 3) := by decide +kernel
theorem dX12_ends_16 : decode cX12_ends 16 = .ok (.ifCond .eq 7, 3) := by decide +kernel
theorem dX12_ends_19 : decode cX12_ends 19 = .ok (.iconst 1, 1) := by decide +kernel
theorem dX12_ends_20 : decode cX12_ends 20 = .ok (.goto 4, 3) := by decide +kernel
theorem dX12_ends_23 : decode cX12_ends 23 = .ok (.iconst 0, 1) := by decide +kernel
theorem dX12_ends_24 : decode cX12_ends 24 = .ok (.ireturn, 1) := by decide +kernel
theorem dX12_readCert_0 : decode cX12_readCert 0 = .ok (.aload_n 0, 1) := by decide +kernel
theorem dX12_readCert_1 : decode cX12_readCert 1 = .ok (.bipush 48, 2) := by decide +kernel
theorem dX12_readCert_3 : decode cX12_readCert 3 = .ok (.iload_n 1, 1) := by decide +kernel
theorem dX12_readCert_4 : decode cX12_readCert 4 = .ok (.invokevirtual 285, 3) := by decide +kernel
theorem dX12_readCert_7 : decode cX12_readCert 7 = .ok (.ifCond .ne 5, 3) := by decide +kernel
theorem dX12_readCert_10 : decode cX12_readCert 10 = .ok (.iconst 0, 1) := by decide +kernel
theorem dX12_readCert_11 : decode cX12_readCert 11 = .ok (.ireturn, 1) := by decide +kernel
theorem dX12_readCert_12 : decode cX12_readCert 12 = .ok (.aload_n 0, 1) := by decide +kernel
theorem dX12_readCert_13 : decode cX12_readCert 13 = .ok (.getfield 276, 3) := by decide +kernel
theorem dX12_readCert_16 : decode cX12_readCert 16 = .ok (.istore_n 2, 1) := by decide +kernel
theorem dX12_readCert_17 : decode cX12_readCert 17 = .ok (.aload_n 0, 1) := by decide +kernel
theorem dX12_readCert_18 : decode cX12_readCert 18 = .ok (.bipush 48, 2) := by decide +kernel
theorem dX12_readCert_20 : decode cX12_readCert 20 = .ok (.iload_n 2, 1) := by decide +kernel
theorem dX12_readCert_21 : decode cX12_readCert 21 = .ok (.invokevirtual 285, 3) := by decide +kernel
theorem dX12_readCert_24 : decode cX12_readCert 24 = .ok (.ifCond .ne 5, 3) := by decide +kernel
theorem dX12_readCert_27 : decode cX12_readCert 27 = .ok (.iconst 0, 1) := by decide +kernel
theorem dX12_readCert_28 : decode cX12_readCert 28 = .ok (.ireturn, 1) := by decide +kernel
theorem dX12_readCert_29 : decode cX12_readCert 29 = .ok (.aload_n 0, 1) := by decide +kernel
theorem dX12_readCert_30 : decode cX12_readCert 30 = .ok (.aload_n 0, 1) := by decide +kernel
theorem dX12_readCert_31 : decode cX12_readCert 31 = .ok (.getfield 262, 3) := by decide +kernel
theorem dX12_readCert_34 : decode cX12_readCert 34 = .ok (.putfield 300, 3) := by decide +kernel
theorem dX12_readCert_37 : decode cX12_readCert 37 = .ok (.aload_n 0, 1) := by decide +kernel
theorem dX12_readCert_38 : decode cX12_readCert 38 = .ok (.aload_n 0, 1) := by decide +kernel
theorem dX12_readCert_39 : decode cX12_readCert 39 = .ok (.getfield 276, 3) := by decide +kernel
theorem dX12_readCert_42 : decode cX12_readCert 42 = .ok (.putfield 303, 3) := by decide +kernel
theorem dX12_readCert_45 : decode cX12_readCert 45 = .ok (.aload_n 0, 1) := by decide +kernel
theorem dX12_readCert_46 : decode cX12_readCert 46 = .ok (.lconst 0, 1) := by decide +kernel
theorem dX12_readCert_47 : decode cX12_readCert 47 = .ok (.ldc2_w 306, 3) := by decide +kernel
theorem dX12_readCert_50 : decode cX12_readCert 50 = .ok (.aload_n 0, 1) := by decide +kernel
theorem dX12_readCert_51 : decode cX12_readCert 51 = .ok (.getfield 303, 3) := by decide +kernel
theorem dX12_readCert_54 : decode cX12_readCert 54 = .ok (.invokevirtual 308, 3) := by decide +kernel
theorem dX12_readCert_57 : decode cX12_readCert 57 = .ok (.ifCond .ne 5, 3) := by decide +kernel
theorem dX12_readCert_60 : decode cX12_readCert 60 = .ok (.iconst 0, 1) := by decide +kernel
theorem dX12_readCert_61 : decode cX12_readCert 61 = .ok (.ireturn, 1) := by decide +kernel
theorem dX12_readCert_62 : decode cX12_readCert 62 = .ok (.aload_n 0, 1) := by decide +kernel
theorem dX12_readCert_63 : decode cX12_readCert 63 = .ok (.aload_n 0, 1) := by decide +kernel
theorem dX12_readCert_64 : decode cX12_readCert 64 = .ok (.getfield 289, 3) := by decide +kernel
theorem dX12_readCert_67 : decode cX12_readCert 67 = .ok (.putfield 312, 3) := by decide +kernel
theorem dX12_readCert_70 : decode cX12_readCert 70 = .ok (.aload_n 0, 1) := by decide +kernel
theorem dX12_readCert_71 : decode cX12_readCert 71 = .ok (.iconst 1, 1) := by decide +kernel
theorem dX12_readCert_72 : decode cX12_readCert 72 = .ok (.bipush 16, 2) := by decide +kernel
theorem dX12_readCert_74 : decode cX12_readCert 74 = .ok (.aload_n 0, 1) := by decide +kernel
theorem dX12_readCert_75 : decode cX12_readCert 75 = .ok (.getfield 303, 3) := by decide +kernel
theorem dX12_readCert_78 : decode cX12_readCert 78 = .ok (.invokevirtual 315, 3) := by decide +kernel
theorem dX12_readCert_81 : decode cX12_readCert 81 = .ok (.ifCond .ne 5, 3) := by decide +kernel
theorem dX12_readCert_84 : decode cX12_readCert 84 = .ok (.iconst 0, 1) := by decide +kernel
theorem dX12_readCert_85 : decode cX12_readCert 85 = .ok (.ireturn, 1) := by decide +kernel
theorem dX12_readCert_86 : decode cX12_readCert 86 = .ok (.aload_n 0, 1) := by decide +kernel
theorem dX12_readCert_87 : decode cX12_readCert 87 = .ok (.aload_n 0, 1) := by decide +kernel
theorem dX12_readCert_88 : decode cX12_readCert 88 = .ok (.getfield 273, 3) := by decide +kernel
theorem dX12_readCert_91 : decode cX12_readCert 91 = .ok (.putfield 319, 3) := by decide +kernel
theorem dX12_readCert_94 : decode cX12_readCert 94 = .ok (.aload_n 0, 1) := by decide +kernel
theorem dX12_readCert_95 : decode cX12_readCert 95 = .ok (.aload_n 0, 1) := by decide +kernel
theorem dX12_readCert_96 : decode cX12_readCert 96 = .ok (.getfield 276, 3) := by decide +kernel
theorem dX12_readCert_99 : decode cX12_readCert 99 = .ok (.putfield 322, 3) := by decide +kernel
theorem dX12_readCert_102 : decode cX12_readCert 102 = .ok (.aload_n 0, 1) := by decide +kernel
theorem dX12_readCert_103 : decode cX12_readCert 103 = .ok (.iconst 1, 1) := by decide +kernel
theorem dX12_readCert_104 : decode cX12_readCert 104 = .ok (.bipush 16, 2) := by decide +kernel
theorem dX12_readCert_106 : decode cX12_readCert 106 = .ok (.aload_n 0, 1) := by decide +kernel
theorem dX12_readCert_107 : decode cX12_readCert 107 = .ok (.getfield 303, 3) := by decide +kernel
theorem dX12_readCert_110 : decode cX12_readCert 110 = .ok (.invokevirtual 315, 3) := by decide +kernel
theorem dX12_readCert_113 : decode cX12_readCert 113 = .ok (.ifCond .ne 5, 3) := by decide +kernel
theorem dX12_readCert_116 : decode cX12_readCert 116 = .ok (.iconst 0, 1) := by decide +kernel
theorem dX12_readCert_117 : decode cX12_readCert 117 = .ok (.ireturn, 1) := by decide +kernel
theorem dX12_readCert_118 : decode cX12_readCert 118 = .ok (.aload_n 0, 1) := by decide +kernel
theorem dX12_readCert_119 : decode cX12_readCert 119 = .ok (.aload_n 0, 1) := by decide +kernel
theorem dX12_readCert_120 : decode cX12_readCert 120 = .ok (.getfield 273, 3) := by decide +kernel
theorem dX12_readCert_123 : decode cX12_readCert 123 = .ok (.putfield 325, 3) := by decide +kernel
theorem dX12_readCert_126 : decode cX12_readCert 126 = .ok (.aload_n 0, 1) := by decide +kernel
theorem dX12_readCert_127 : decode cX12_readCert 127 = .ok (.aload_n 0, 1) := by decide +kernel
theorem dX12_readCert_128 : decode cX12_readCert 128 = .ok (.getfield 276, 3) := by decide +kernel
theorem dX12_readCert_131 : decode cX12_readCert 131 = .ok (.putfield 328, 3) := by decide +kernel
theorem dX12_readCert_134 : decode cX12_readCert 134 = .ok (.aload_n 0, 1) := by decide +kernel
theorem dX12_readCert_135 : decode cX12_readCert 135 = .ok (.aload_n 0, 1) := by decide +kernel
theorem dX12_readCert_136 : decode cX12_readCert 136 = .ok (.getfield 303, 3) := by decide +kernel
theorem dX12_readCert_139 : decode cX12_readCert 139 = .ok (.invokevirtual 331, 3) := by decide +kernel
theorem dX12_readCert_142 : decode cX12_readCert 142 = .ok (.ifCond .ne 5, 3) := by decide +kernel
theorem dX12_readCert_145 : decode cX12_readCert 145 = .ok (.iconst 0, 1) := by decide +kernel
theorem dX12_readCert_146 : decode cX12_readCert 146 = .ok (.ireturn, 1) := by decide +kernel
theorem dX12_readCert_147 : decode cX12_readCert 147 = .ok (.aload_n 0, 1) := by decide +kernel
theorem dX12_readCert_148 : decode cX12_readCert 148 = .ok (.aload_n 0, 1) := by decide +kernel
theorem dX12_readCert_149 : decode cX12_readCert 149 = .ok (.getfield 289, 3) := by decide +kernel
theorem dX12_readCert_152 : decode cX12_readCert 152 = .ok (.putfield 334, 3) := by decide +kernel
theorem dX12_readCert_155 : decode cX12_readCert 155 = .ok (.aload_n 0, 1) := by decide +kernel
theorem dX12_readCert_156 : decode cX12_readCert 156 = .ok (.aload_n 0, 1) := by decide +kernel
theorem dX12_readCert_157 : decode cX12_readCert 157 = .ok (.getfield 303, 3) := by decide +kernel
theorem dX12_readCert_160 : decode cX12_readCert 160 = .ok (.invokevirtual 331, 3) := by decide +kernel
theorem dX12_readCert_163 : decode cX12_readCert 163 = .ok (.ifCond .ne 5, 3) := by decide +kernel
theorem dX12_readCert_166 : decode cX12_readCert 166 = .ok (.iconst 0, 1) := by decide +kernel
theorem dX12_readCert_167 : decode cX12_readCert 167 = .ok (.ireturn, 1) := by decide +kernel
theorem dX12_readCert_168 : decode cX12_readCert 168 = .ok (.aload_n 0, 1) := by decide +kernel
theorem dX12_readCert_169 : decode cX12_readCert 169 = .ok (.aload_n 0, 1) := by decide +kernel
theorem dX12_readCert_170 : decode cX12_readCert 170 = .ok (.getfield 289, 3) := by decide +kernel
theorem dX12_readCert_173 : decode cX12_readCert 173 = .ok (.putfield 337, 3) := by decide +kernel
theorem dX12_readCert_176 : decode cX12_readCert 176 = .ok (.aload_n 0, 1) := by decide +kernel
theorem dX12_readCert_177 : decode cX12_readCert 177 = .ok (.ldc2_w 156, 3) := by decide +kernel
theorem dX12_readCert_180 : decode cX12_readCert 180 = .ok (.ldc2_w 340, 3) := by decide +kernel
theorem dX12_readCert_183 : decode cX12_readCert 183 = .ok (.aload_n 0, 1) := by decide +kernel
theorem dX12_readCert_184 : decode cX12_readCert 184 = .ok (.getfield 303, 3) := by decide +kernel
theorem dX12_readCert_187 : decode cX12_readCert 187 = .ok (.invokevirtual 308, 3) := by decide +kernel
theorem dX12_readCert_190 : decode cX12_readCert 190 = .ok (.ifCond .ne 5, 3) := by decide +kernel
theorem dX12_readCert_193 : decode cX12_readCert 193 = .ok (.iconst 0, 1) := by decide +kernel
theorem dX12_readCert_194 : decode cX12_readCert 194 = .ok (.ireturn, 1) := by decide +kernel
theorem dX12_readCert_195 : decode cX12_readCert 195 = .ok (.aload_n 0, 1) := by decide +kernel
theorem dX12_readCert_196 : decode cX12_readCert 196 = .ok (.aload_n 0, 1) := by decide +kernel
theorem dX12_readCert_197 : decode cX12_readCert 197 = .ok (.getfield 289, 3) := by decide +kernel
theorem dX12_readCert_200 : decode cX12_readCert 200 = .ok (.putfield 342, 3) := by decide +kernel
theorem dX12_readCert_203 : decode cX12_readCert 203 = .ok (.aload_n 0, 1) := by decide +kernel
theorem dX12_readCert_204 : decode cX12_readCert 204 = .ok (.lconst 0, 1) := by decide +kernel
theorem dX12_readCert_205 : decode cX12_readCert 205 = .ok (.ldc2_w 345, 3) := by decide +kernel
theorem dX12_readCert_208 : decode cX12_readCert 208 = .ok (.aload_n 0, 1) := by decide +kernel
theorem dX12_readCert_209 : decode cX12_readCert 209 = .ok (.getfield 303, 3) := by decide +kernel
theorem dX12_readCert_212 : decode cX12_readCert 212 = .ok (.invokevirtual 308, 3) := by decide +kernel
theorem dX12_readCert_215 : decode cX12_readCert 215 = .ok (.ifCond .ne 5, 3) := by decide +kernel
theorem dX12_readCert_218 : decode cX12_readCert 218 = .ok (.iconst 0, 1) := by decide +kernel
theorem dX12_readCert_219 : decode cX12_readCert 219 = .ok (.ireturn, 1) := by decide +kernel
theorem dX12_readCert_220 : decode cX12_readCert 220 = .ok (.aload_n 0, 1) := by decide +kernel
theorem dX12_readCert_221 : decode cX12_readCert 221 = .ok (.aload_n 0, 1) := by decide +kernel
theorem dX12_readCert_222 : decode cX12_readCert 222 = .ok (.getfield 289, 3) := by decide +kernel
theorem dX12_readCert_225 : decode cX12_readCert 225 = .ok (.l2i, 1) := by decide +kernel
theorem dX12_readCert_226 : decode cX12_readCert 226 = .ok (.putfield 347, 3) := by decide +kernel
theorem dX12_readCert_229 : decode cX12_readCert 229 = .ok (.aload_n 0, 1) := by decide +kernel
theorem dX12_readCert_230 : decode cX12_readCert 230 = .ok (.aload_n 0, 1) := by decide +kernel
theorem dX12_readCert_231 : decode cX12_readCert 231 = .ok (.getfield 303, 3) := by decide +kernel
theorem dX12_readCert_234 : decode cX12_readCert 234 = .ok (.invokevirtual 350, 3) := by decide +kernel
theorem dX12_readCert_237 : decode cX12_readCert 237 = .ok (.ifCond .eq 11, 3) := by decide +kernel
theorem dX12_readCert_240 : decode cX12_readCert 240 = .ok (.aload_n 0, 1) := by decide +kernel
theorem dX12_readCert_241 : decode cX12_readCert 241 = .ok (.iload_n 2, 1) := by decide +kernel
theorem dX12_readCert_242 : decode cX12_readCert 242 = .ok (.invokevirtual 353, 3) := by decide +kernel
theorem dX12_readCert_245 : decode cX12_readCert 245 = .ok (.ifCond .ne 5, 3) := by decide +kernel
theorem dX12_readCert_248 : decode cX12_readCert 248 = .ok (.iconst 0, 1) := by decide +kernel
theorem dX12_readCert_249 : decode cX12_readCert 249 = .ok (.ireturn, 1) := by decide +kernel
theorem dX12_readCert_250 : decode cX12_readCert 250 = .ok (.aload_n 0, 1) := by decide +kernel
theorem dX12_readCert_251 : decode cX12_readCert 251 = .ok (.aload_n 0, 1) := by decide +kernel
theorem dX12_readCert_252 : decode cX12_readCert 252 = .ok (.getfield 297, 3) := by decide +kernel
theorem dX12_readCert_255 : decode cX12_readCert 255 = .ok (.putfield 356, 3) := by decide +kernel
theorem dX12_readCert_258 : decode cX12_readCert 258 = .ok (.aload_n 0, 1) := by decide +kernel
theorem dX12_readCert_259 : decode cX12_readCert 259 = .ok (.iload_n 2, 1) := by decide +kernel
theorem dX12_readCert_260 : decode cX12_readCert 260 = .ok (.invokevirtual 350, 3) := by decide +kernel
theorem dX12_readCert_263 : decode cX12_readCert 263 = .ok (.ireturn, 1) := by decide +kernel
theorem dX12_readId_0 : decode cX12_readId 0 = .ok (.aload_n 0, 1) := by decide +kernel
theorem dX12_readId_1 : decode cX12_readId 1 = .ok (.getfield 359, 3) := by decide +kernel
theorem dX12_readId_4 : decode cX12_readId 4 = .ok (.bipush 8, 2) := by decide +kernel
theorem dX12_readId_6 : decode cX12_readId 6 = .ok (.if_icmp .ne 12, 3) := by decide +kernel
theorem dX12_readId_9 : decode cX12_readId 9 = .ok (.aload_n 0, 1) := by decide +kernel
theorem dX12_readId_10 : decode cX12_readId 10 = .ok (.aload_n 0, 1) := by decide +kernel
theorem dX12_readId_11 : decode cX12_readId 11 = .ok (.getfield 259, 3) := by decide +kernel
theorem dX12_readId_14 : decode cX12_readId 14 = .ok (.invokevirtual 265, 3) := by decide +kernel
theorem dX12_readId_17 : decode cX12_readId 17 = .ok (.ireturn, 1) := by decide +kernel
theorem dX12_readId_18 : decode cX12_readId 18 = .ok (.aload_n 0, 1) := by decide +kernel
theorem dX12_readId_19 : decode cX12_readId 19 = .ok (.bipush 48, 2) := by decide +kernel
theorem dX12_readId_21 : decode cX12_readId 21 = .ok (.iload_n 1, 1) := by decide +kernel
theorem dX12_readId_22 : decode cX12_readId 22 = .ok (.invokevirtual 285, 3) := by decide +kernel
theorem dX12_readId_25 : decode cX12_readId 25 = .ok (.ifCond .ne 5, 3) := by decide +kernel
theorem dX12_readId_28 : decode cX12_readId 28 = .ok (.iconst 0, 1) := by decide +kernel
theorem dX12_readId_29 : decode cX12_readId 29 = .ok (.ireturn, 1) := by decide +kernel
theorem dX12_readId_30 : decode cX12_readId 30 = .ok (.aload_n 0, 1) := by decide +kernel
theorem dX12_readId_31 : decode cX12_readId 31 = .ok (.getfield 276, 3) := by decide +kernel
theorem dX12_readId_34 : decode cX12_readId 34 = .ok (.istore_n 2, 1) := by decide +kernel
theorem dX12_readId_35 : decode cX12_readId 35 = .ok (.aload_n 0, 1) := by decide +kernel
theorem dX12_readId_36 : decode cX12_readId 36 = .ok (.bipush 8, 2) := by decide +kernel
theorem dX12_readId_38 : decode cX12_readId 38 = .ok (.bipush 8, 2) := by decide +kernel
theorem dX12_readId_40 : decode cX12_readId 40 = .ok (.iload_n 2, 1) := by decide +kernel
theorem dX12_readId_41 : decode cX12_readId 41 = .ok (.invokevirtual 315, 3) := by decide +kernel
theorem dX12_readId_44 : decode cX12_readId 44 = .ok (.ifCond .ne 5, 3) := by decide +kernel
theorem dX12_readId_47 : decode cX12_readId 47 = .ok (.iconst 0, 1) := by decide +kernel
theorem dX12_readId_48 : decode cX12_readId 48 = .ok (.ireturn, 1) := by decide +kernel
theorem dX12_readId_49 : decode cX12_readId 49 = .ok (.aload_n 0, 1) := by decide +kernel
theorem dX12_readId_50 : decode cX12_readId 50 = .ok (.getfield 72, 3) := by decide +kernel
theorem dX12_readId_53 : decode cX12_readId 53 = .ok (.aload_n 0, 1) := by decide +kernel
theorem dX12_readId_54 : decode cX12_readId 54 = .ok (.getfield 359, 3) := by decide +kernel
theorem dX12_readId_57 : decode cX12_readId 57 = .ok (.aload_n 0, 1) := by decide +kernel
theorem dX12_readId_58 : decode cX12_readId 58 = .ok (.getfield 273, 3) := by decide +kernel
theorem dX12_readId_61 : decode cX12_readId 61 = .ok (.iastore, 1) := by decide +kernel
theorem dX12_readId_62 : decode cX12_readId 62 = .ok (.aload_n 0, 1) := by decide +kernel
theorem dX12_readId_63 : decode cX12_readId 63 = .ok (.bipush 8, 2) := by decide +kernel
theorem dX12_readId_65 : decode cX12_readId 65 = .ok (.bipush 8, 2) := by decide +kernel
theorem dX12_readId_67 : decode cX12_readId 67 = .ok (.iload_n 2, 1) := by decide +kernel
theorem dX12_readId_68 : decode cX12_readId 68 = .ok (.invokevirtual 315, 3) := by decide +kernel
theorem dX12_readId_71 : decode cX12_readId 71 = .ok (.ifCond .ne 5, 3) := by decide +kernel
theorem dX12_readId_74 : decode cX12_readId 74 = .ok (.iconst 0, 1) := by decide +kernel
theorem dX12_readId_75 : decode cX12_readId 75 = .ok (.ireturn, 1) := by decide +kernel
theorem dX12_readId_76 : decode cX12_readId 76 = .ok (.aload_n 0, 1) := by decide +kernel
theorem dX12_readId_77 : decode cX12_readId 77 = .ok (.getfield 75, 3) := by decide +kernel
theorem dX12_readId_80 : decode cX12_readId 80 = .ok (.aload_n 0, 1) := by decide +kernel
theorem dX12_readId_81 : decode cX12_readId 81 = .ok (.getfield 359, 3) := by decide +kernel
theorem dX12_readId_84 : decode cX12_readId 84 = .ok (.aload_n 0, 1) := by decide +kernel
theorem dX12_readId_85 : decode cX12_readId 85 = .ok (.getfield 273, 3) := by decide +kernel
theorem dX12_readId_88 : decode cX12_readId 88 = .ok (.iastore, 1) := by decide +kernel
theorem dX12_readId_89 : decode cX12_readId 89 = .ok (.aload_n 0, 1) := by decide +kernel
theorem dX12_readId_90 : decode cX12_readId 90 = .ok (.lconst 0, 1) := by decide +kernel
theorem dX12_readId_91 : decode cX12_readId 91 = .ok (.ldc2_w 306, 3) := by decide +kernel
theorem dX12_readId_94 : decode cX12_readId 94 = .ok (.iload_n 2, 1) := by decide +kernel
theorem dX12_readId_95 : decode cX12_readId 95 = .ok (.invokevirtual 308, 3) := by decide +kernel
theorem dX12_readId_98 : decode cX12_readId 98 = .ok (.ifCond .ne 5, 3) := by decide +kernel
theorem dX12_readId_101 : decode cX12_readId 101 = .ok (.iconst 0, 1) := by decide +kernel
theorem dX12_readId_102 : decode cX12_readId 102 = .ok (.ireturn, 1) := by decide +kernel
theorem dX12_readId_103 : decode cX12_readId 103 = .ok (.aload_n 0, 1) := by decide +kernel
theorem dX12_readId_104 : decode cX12_readId 104 = .ok (.getfield 78, 3) := by decide +kernel
theorem dX12_readId_107 : decode cX12_readId 107 = .ok (.aload_n 0, 1) := by decide +kernel
theorem dX12_readId_108 : decode cX12_readId 108 = .ok (.getfield 359, 3) := by decide +kernel
theorem dX12_readId_111 : decode cX12_readId 111 = .ok (.aload_n 0, 1) := by decide +kernel
theorem dX12_readId_112 : decode cX12_readId 112 = .ok (.getfield 289, 3) := by decide +kernel
theorem dX12_readId_115 : decode cX12_readId 115 = .ok (.lastore, 1) := by decide +kernel
theorem dX12_readId_116 : decode cX12_readId 116 = .ok (.aload_n 0, 1) := by decide +kernel
theorem dX12_readId_117 : decode cX12_readId 117 = .ok (.dup, 1) := by decide +kernel
theorem dX12_readId_118 : decode cX12_readId 118 = .ok (.getfield 359, 3) := by decide +kernel
theorem dX12_readId_121 : decode cX12_readId 121 = .ok (.iconst 1, 1) := by decide +kernel
theorem dX12_readId_122 : decode cX12_readId 122 = .ok (.iadd, 1) := by decide +kernel
theorem dX12_readId_123 : decode cX12_readId 123 = .ok (.putfield 359, 3) := by decide +kernel
theorem dX12_readId_126 : decode cX12_readId 126 = .ok (.aload_n 0, 1) := by decide +kernel
theorem dX12_readId_127 : decode cX12_readId 127 = .ok (.iload_n 2, 1) := by decide +kernel
theorem dX12_readId_128 : decode cX12_readId 128 = .ok (.invokevirtual 350, 3) := by decide +kernel
theorem dX12_readId_131 : decode cX12_readId 131 = .ok (.ireturn, 1) := by decide +kernel
theorem dX12_readNonce_0 : decode cX12_readNonce 0 = .ok (.aload_n 0, 1) := by decide +kernel
theorem dX12_readNonce_1 : decode cX12_readNonce 1 = .ok (.iconst 0, 1) := by decide +kernel
theorem dX12_readNonce_2 : decode cX12_readNonce 2 = .ok (.putfield 362, 3) := by decide +kernel
theorem dX12_readNonce_5 : decode cX12_readNonce 5 = .ok (.aload_n 0, 1) := by decide +kernel
theorem dX12_readNonce_6 : decode cX12_readNonce 6 = .ok (.iconst 0, 1) := by decide +kernel
theorem dX12_readNonce_7 : decode cX12_readNonce 7 = .ok (.putfield 365, 3) := by decide +kernel
theorem dX12_readNonce_10 : decode cX12_readNonce 10 = .ok (.aload_n 0, 1) := by decide +kernel
theorem dX12_readNonce_11 : decode cX12_readNonce 11 = .ok (.getfield 259, 3) := by decide +kernel
theorem dX12_readNonce_14 : decode cX12_readNonce 14 = .ok (.iload_n 2, 1) := by decide +kernel
theorem dX12_readNonce_15 : decode cX12_readNonce 15 = .ok (.if_icmp .ne 5, 3) := by decide +kernel
theorem dX12_readNonce_18 : decode cX12_readNonce 18 = .ok (.iconst 1, 1) := by decide +kernel
theorem dX12_readNonce_19 : decode cX12_readNonce 19 = .ok (.ireturn, 1) := by decide +kernel
theorem dX12_readNonce_20 : decode cX12_readNonce 20 = .ok (.aload_n 0, 1) := by decide +kernel
theorem dX12_readNonce_21 : decode cX12_readNonce 21 = .ok (.iload_n 1, 1) := by decide +kernel
theorem dX12_readNonce_22 : decode cX12_readNonce 22 = .ok (.iload_n 2, 1) := by decide +kernel
theorem dX12_readNonce_23 : decode cX12_readNonce 23 = .ok (.invokevirtual 285, 3) := by decide +kernel
theorem dX12_readNonce_26 : decode cX12_readNonce 26 = .ok (.ifCond .ne 5, 3) := by decide +kernel
theorem dX12_readNonce_29 : decode cX12_readNonce 29 = .ok (.iconst 0, 1) := by decide +kernel
theorem dX12_readNonce_30 : decode cX12_readNonce 30 = .ok (.ireturn, 1) := by decide +kernel
theorem dX12_readNonce_31 : decode cX12_readNonce 31 = .ok (.aload_n 0, 1) := by decide +kernel
theorem dX12_readNonce_32 : decode cX12_readNonce 32 = .ok (.getfield 276, 3) := by decide +kernel
theorem dX12_readNonce_35 : decode cX12_readNonce 35 = .ok (.istore_n 3, 1) := by decide +kernel
theorem dX12_readNonce_36 : decode cX12_readNonce 36 = .ok (.aload_n 0, 1) := by decide +kernel
theorem dX12_readNonce_37 : decode cX12_readNonce 37 = .ok (.iconst 1, 1) := by decide +kernel
theorem dX12_readNonce_38 : decode cX12_readNonce 38 = .ok (.bipush 16, 2) := by decide +kernel
theorem dX12_readNonce_40 : decode cX12_readNonce 40 = .ok (.iload_n 3, 1) := by decide +kernel
theorem dX12_readNonce_41 : decode cX12_readNonce 41 = .ok (.invokevirtual 315, 3) := by decide +kernel
theorem dX12_readNonce_44 : decode cX12_readNonce 44 = .ok (.ifCond .ne 5, 3) := by decide +kernel
theorem dX12_readNonce_47 : decode cX12_readNonce 47 = .ok (.iconst 0, 1) := by decide +kernel
theorem dX12_readNonce_48 : decode cX12_readNonce 48 = .ok (.ireturn, 1) := by decide +kernel
theorem dX12_readNonce_49 : decode cX12_readNonce 49 = .ok (.aload_n 0, 1) := by decide +kernel
theorem dX12_readNonce_50 : decode cX12_readNonce 50 = .ok (.aload_n 0, 1) := by decide +kernel
theorem dX12_readNonce_51 : decode cX12_readNonce 51 = .ok (.getfield 273, 3) := by decide +kernel
theorem dX12_readNonce_54 : decode cX12_readNonce 54 = .ok (.putfield 362, 3) := by decide +kernel
theorem dX12_readNonce_57 : decode cX12_readNonce 57 = .ok (.aload_n 0, 1) := by decide +kernel
theorem dX12_readNonce_58 : decode cX12_readNonce 58 = .ok (.aload_n 0, 1) := by decide +kernel
theorem dX12_readNonce_59 : decode cX12_readNonce 59 = .ok (.getfield 276, 3) := by decide +kernel
theorem dX12_readNonce_62 : decode cX12_readNonce 62 = .ok (.putfield 365, 3) := by decide +kernel
theorem dX12_readNonce_65 : decode cX12_readNonce 65 = .ok (.aload_n 0, 1) := by decide +kernel
theorem dX12_readNonce_66 : decode cX12_readNonce 66 = .ok (.iload_n 3, 1) := by decide +kernel
theorem dX12_readNonce_67 : decode cX12_readNonce 67 = .ok (.invokevirtual 350, 3) := by decide +kernel
theorem dX12_readNonce_70 : decode cX12_readNonce 70 = .ok (.ireturn, 1) := by decide +kernel
theorem dX12_readAsk_0 : decode cX12_readAsk 0 = .ok (.aload_n 0, 1) := by decide +kernel
theorem dX12_readAsk_1 : decode cX12_readAsk 1 = .ok (.bipush 48, 2) := by decide +kernel
theorem dX12_readAsk_3 : decode cX12_readAsk 3 = .ok (.aload_n 0, 1) := by decide +kernel
theorem dX12_readAsk_4 : decode cX12_readAsk 4 = .ok (.getfield 121, 3) := by decide +kernel
theorem dX12_readAsk_7 : decode cX12_readAsk 7 = .ok (.invokevirtual 285, 3) := by decide +kernel
theorem dX12_readAsk_10 : decode cX12_readAsk 10 = .ok (.ifCond .ne 5, 3) := by decide +kernel
theorem dX12_readAsk_13 : decode cX12_readAsk 13 = .ok (.iconst 0, 1) := by decide +kernel
theorem dX12_readAsk_14 : decode cX12_readAsk 14 = .ok (.ireturn, 1) := by decide +kernel
theorem dX12_readAsk_15 : decode cX12_readAsk 15 = .ok (.aload_n 0, 1) := by decide +kernel
theorem dX12_readAsk_16 : decode cX12_readAsk 16 = .ok (.getfield 276, 3) := by decide +kernel
theorem dX12_readAsk_19 : decode cX12_readAsk 19 = .ok (.istore_n 1, 1) := by decide +kernel
theorem dX12_readAsk_20 : decode cX12_readAsk 20 = .ok (.aload_n 0, 1) := by decide +kernel
theorem dX12_readAsk_21 : decode cX12_readAsk 21 = .ok (.bipush 48, 2) := by decide +kernel
theorem dX12_readAsk_23 : decode cX12_readAsk 23 = .ok (.iload_n 1, 1) := by decide +kernel
theorem dX12_readAsk_24 : decode cX12_readAsk 24 = .ok (.invokevirtual 285, 3) := by decide +kernel
theorem dX12_readAsk_27 : decode cX12_readAsk 27 = .ok (.ifCond .ne 5, 3) := by decide +kernel
theorem dX12_readAsk_30 : decode cX12_readAsk 30 = .ok (.iconst 0, 1) := by decide +kernel
theorem dX12_readAsk_31 : decode cX12_readAsk 31 = .ok (.ireturn, 1) := by decide +kernel
theorem dX12_readAsk_32 : decode cX12_readAsk 32 = .ok (.aload_n 0, 1) := by decide +kernel
theorem dX12_readAsk_33 : decode cX12_readAsk 33 = .ok (.getfield 276, 3) := by decide +kernel
theorem dX12_readAsk_36 : decode cX12_readAsk 36 = .ok (.istore_n 2, 1) := by decide +kernel
theorem dX12_readAsk_37 : decode cX12_readAsk 37 = .ok (.aload_n 0, 1) := by decide +kernel
theorem dX12_readAsk_38 : decode cX12_readAsk 38 = .ok (.iconst 0, 1) := by decide +kernel
theorem dX12_readAsk_39 : decode cX12_readAsk 39 = .ok (.putfield 359, 3) := by decide +kernel
theorem dX12_readAsk_42 : decode cX12_readAsk 42 = .ok (.iconst 1, 1) := by decide +kernel
theorem dX12_readAsk_43 : decode cX12_readAsk 43 = .ok (.istore_n 3, 1) := by decide +kernel
theorem dX12_readAsk_44 : decode cX12_readAsk 44 = .ok (.iload_n 3, 1) := by decide +kernel
theorem dX12_readAsk_45 : decode cX12_readAsk 45 = .ok (.ifCond .eq 27, 3) := by decide +kernel
theorem dX12_readAsk_48 : decode cX12_readAsk 48 = .ok (.aload_n 0, 1) := by decide +kernel
theorem dX12_readAsk_49 : decode cX12_readAsk 49 = .ok (.getfield 359, 3) := by decide +kernel
theorem dX12_readAsk_52 : decode cX12_readAsk 52 = .ok (.ifCond .eq 11, 3) := by decide +kernel
theorem dX12_readAsk_55 : decode cX12_readAsk 55 = .ok (.aload_n 0, 1) := by decide +kernel
theorem dX12_readAsk_56 : decode cX12_readAsk 56 = .ok (.getfield 259, 3) := by decide +kernel
theorem dX12_readAsk_59 : decode cX12_readAsk 59 = .ok (.iload_n 2, 1) := by decide +kernel
theorem dX12_readAsk_60 : decode cX12_readAsk 60 = .ok (.if_icmp .ge 12, 3) := by decide +kernel
theorem dX12_readAsk_63 : decode cX12_readAsk 63 = .ok (.aload_n 0, 1) := by decide +kernel
theorem dX12_readAsk_64 : decode cX12_readAsk 64 = .ok (.iload_n 2, 1) := by decide +kernel
theorem dX12_readAsk_65 : decode cX12_readAsk 65 = .ok (.invokevirtual 368, 3) := by decide +kernel
theorem dX12_readAsk_68 : decode cX12_readAsk 68 = .ok (.istore_n 3, 1) := by decide +kernel
theorem dX12_readAsk_69 : decode cX12_readAsk 69 = .ok (.goto (-25), 3) := by decide +kernel
theorem dX12_readAsk_72 : decode cX12_readAsk 72 = .ok (.iload_n 3, 1) := by decide +kernel
theorem dX12_readAsk_73 : decode cX12_readAsk 73 = .ok (.ifCond .eq 37, 3) := by decide +kernel
theorem dX12_readAsk_76 : decode cX12_readAsk 76 = .ok (.aload_n 0, 1) := by decide +kernel
theorem dX12_readAsk_77 : decode cX12_readAsk 77 = .ok (.sipush 162, 3) := by decide +kernel
theorem dX12_readAsk_80 : decode cX12_readAsk 80 = .ok (.iload_n 1, 1) := by decide +kernel
theorem dX12_readAsk_81 : decode cX12_readAsk 81 = .ok (.invokevirtual 371, 3) := by decide +kernel
theorem dX12_readAsk_84 : decode cX12_readAsk 84 = .ok (.ifCond .eq 26, 3) := by decide +kernel
theorem dX12_readAsk_87 : decode cX12_readAsk 87 = .ok (.aload_n 0, 1) := by decide +kernel
theorem dX12_readAsk_88 : decode cX12_readAsk 88 = .ok (.iload_n 1, 1) := by decide +kernel
theorem dX12_readAsk_89 : decode cX12_readAsk 89 = .ok (.invokevirtual 350, 3) := by decide +kernel
theorem dX12_readAsk_92 : decode cX12_readAsk 92 = .ok (.ifCond .eq 18, 3) := by decide +kernel
theorem dX12_readAsk_95 : decode cX12_readAsk 95 = .ok (.aload_n 0, 1) := by decide +kernel
theorem dX12_readAsk_96 : decode cX12_readAsk 96 = .ok (.aload_n 0, 1) := by decide +kernel
theorem dX12_readAsk_97 : decode cX12_readAsk 97 = .ok (.getfield 121, 3) := by decide +kernel
theorem dX12_readAsk_100 : decode cX12_readAsk 100 = .ok (.invokevirtual 350, 3) := by decide +kernel
theorem dX12_readAsk_103 : decode cX12_readAsk 103 = .ok (.ifCond .eq 7, 3) := by decide +kernel
theorem dX12_readAsk_106 : decode cX12_readAsk 106 = .ok (.iconst 1, 1) := by decide +kernel
theorem dX12_readAsk_107 : decode cX12_readAsk 107 = .ok (.goto 4, 3) := by decide +kernel
theorem dX12_readAsk_110 : decode cX12_readAsk 110 = .ok (.iconst 0, 1) := by decide +kernel
theorem dX12_readAsk_111 : decode cX12_readAsk 111 = .ok (.ireturn, 1) := by decide +kernel
theorem dX12_readState_0 : decode cX12_readState 0 = .ok (.aload_n 0, 1) := by decide +kernel
theorem dX12_readState_1 : decode cX12_readState 1 = .ok (.iload_n 2, 1) := by decide +kernel
theorem dX12_readState_2 : decode cX12_readState 2 = .ok (.invokevirtual 282, 3) := by decide +kernel
theorem dX12_readState_5 : decode cX12_readState 5 = .ok (.ifCond .ne 5, 3) := by decide +kernel
theorem dX12_readState_8 : decode cX12_readState 8 = .ok (.iconst 0, 1) := by decide +kernel
theorem dX12_readState_9 : decode cX12_readState 9 = .ok (.ireturn, 1) := by decide +kernel
theorem dX12_readState_10 : decode cX12_readState 10 = .ok (.aload_n 0, 1) := by decide +kernel
theorem dX12_readState_11 : decode cX12_readState 11 = .ok (.getfield 84, 3) := by decide +kernel
theorem dX12_readState_14 : decode cX12_readState 14 = .ok (.iload_n 1, 1) := by decide +kernel
theorem dX12_readState_15 : decode cX12_readState 15 = .ok (.ldc2_w 213, 3) := by decide +kernel
theorem dX12_readState_18 : decode cX12_readState 18 = .ok (.lastore, 1) := by decide +kernel
theorem dX12_readState_19 : decode cX12_readState 19 = .ok (.aload_n 0, 1) := by decide +kernel
theorem dX12_readState_20 : decode cX12_readState 20 = .ok (.getfield 87, 3) := by decide +kernel
theorem dX12_readState_23 : decode cX12_readState 23 = .ok (.iload_n 1, 1) := by decide +kernel
theorem dX12_readState_24 : decode cX12_readState 24 = .ok (.iconst (-1), 1) := by decide +kernel
theorem dX12_readState_25 : decode cX12_readState 25 = .ok (.iastore, 1) := by decide +kernel
theorem dX12_readState_26 : decode cX12_readState 26 = .ok (.aload_n 0, 1) := by decide +kernel
theorem dX12_readState_27 : decode cX12_readState 27 = .ok (.getfield 81, 3) := by decide +kernel
theorem dX12_readState_30 : decode cX12_readState 30 = .ok (.iload_n 1, 1) := by decide +kernel
theorem dX12_readState_31 : decode cX12_readState 31 = .ok (.aload_n 0, 1) := by decide +kernel
theorem dX12_readState_32 : decode cX12_readState 32 = .ok (.getfield 269, 3) := by decide +kernel
theorem dX12_readState_35 : decode cX12_readState 35 = .ok (.sipush 128, 3) := by decide +kernel
theorem dX12_readState_38 : decode cX12_readState 38 = .ok (.if_icmp .ne 7, 3) := by decide +kernel
theorem dX12_readState_41 : decode cX12_readState 41 = .ok (.iconst 1, 1) := by decide +kernel
theorem dX12_readState_42 : decode cX12_readState 42 = .ok (.goto 18, 3) := by decide +kernel
theorem dX12_readState_45 : decode cX12_readState 45 = .ok (.aload_n 0, 1) := by decide +kernel
theorem dX12_readState_46 : decode cX12_readState 46 = .ok (.getfield 269, 3) := by decide +kernel
theorem dX12_readState_49 : decode cX12_readState 49 = .ok (.sipush 161, 3) := by decide +kernel
theorem dX12_readState_52 : decode cX12_readState 52 = .ok (.if_icmp .ne 7, 3) := by decide +kernel
theorem dX12_readState_55 : decode cX12_readState 55 = .ok (.iconst 2, 1) := by decide +kernel
theorem dX12_readState_56 : decode cX12_readState 56 = .ok (.goto 4, 3) := by decide +kernel
theorem dX12_readState_59 : decode cX12_readState 59 = .ok (.iconst 3, 1) := by decide +kernel
theorem dX12_readState_60 : decode cX12_readState 60 = .ok (.iastore, 1) := by decide +kernel
theorem dX12_readState_61 : decode cX12_readState 61 = .ok (.aload_n 0, 1) := by decide +kernel
theorem dX12_readState_62 : decode cX12_readState 62 = .ok (.getfield 269, 3) := by decide +kernel
theorem dX12_readState_65 : decode cX12_readState 65 = .ok (.sipush 128, 3) := by decide +kernel
theorem dX12_readState_68 : decode cX12_readState 68 = .ok (.if_icmp .eq 13, 3) := by decide +kernel
theorem dX12_readState_71 : decode cX12_readState 71 = .ok (.aload_n 0, 1) := by decide +kernel
theorem dX12_readState_72 : decode cX12_readState 72 = .ok (.getfield 269, 3) := by decide +kernel
theorem dX12_readState_75 : decode cX12_readState 75 = .ok (.sipush 130, 3) := by decide +kernel
theorem dX12_readState_78 : decode cX12_readState 78 = .ok (.if_icmp .ne 31, 3) := by decide +kernel
theorem dX12_readState_81 : decode cX12_readState 81 = .ok (.aload_n 0, 1) := by decide +kernel
theorem dX12_readState_82 : decode cX12_readState 82 = .ok (.getfield 276, 3) := by decide +kernel
theorem dX12_readState_85 : decode cX12_readState 85 = .ok (.aload_n 0, 1) := by decide +kernel
theorem dX12_readState_86 : decode cX12_readState 86 = .ok (.getfield 273, 3) := by decide +kernel
theorem dX12_readState_89 : decode cX12_readState 89 = .ok (.if_icmp .eq 14, 3) := by decide +kernel
theorem dX12_readState_92 : decode cX12_readState 92 = .ok (.aload_n 0, 1) := by decide +kernel
theorem dX12_readState_93 : decode cX12_readState 93 = .ok (.aload_n 0, 1) := by decide +kernel
theorem dX12_readState_94 : decode cX12_readState 94 = .ok (.getfield 262, 3) := by decide +kernel
theorem dX12_readState_97 : decode cX12_readState 97 = .ok (.invokevirtual 265, 3) := by decide +kernel
theorem dX12_readState_100 : decode cX12_readState 100 = .ok (.ifCond .eq 7, 3) := by decide +kernel
theorem dX12_readState_103 : decode cX12_readState 103 = .ok (.iconst 1, 1) := by decide +kernel
theorem dX12_readState_104 : decode cX12_readState 104 = .ok (.goto 4, 3) := by decide +kernel
theorem dX12_readState_107 : decode cX12_readState 107 = .ok (.iconst 0, 1) := by decide +kernel
theorem dX12_readState_108 : decode cX12_readState 108 = .ok (.ireturn, 1) := by decide +kernel
theorem dX12_readState_109 : decode cX12_readState 109 = .ok (.aload_n 0, 1) := by decide +kernel
theorem dX12_readState_110 : decode cX12_readState 110 = .ok (.getfield 269, 3) := by decide +kernel
theorem dX12_readState_113 : decode cX12_readState 113 = .ok (.sipush 161, 3) := by decide +kernel
theorem dX12_readState_116 : decode cX12_readState 116 = .ok (.if_icmp .eq 12, 3) := by decide +kernel
theorem dX12_readState_119 : decode cX12_readState 119 = .ok (.aload_n 0, 1) := by decide +kernel
theorem dX12_readState_120 : decode cX12_readState 120 = .ok (.aload_n 0, 1) := by decide +kernel
theorem dX12_readState_121 : decode cX12_readState 121 = .ok (.getfield 262, 3) := by decide +kernel
theorem dX12_readState_124 : decode cX12_readState 124 = .ok (.invokevirtual 265, 3) := by decide +kernel
theorem dX12_readState_127 : decode cX12_readState 127 = .ok (.ireturn, 1) := by decide +kernel
theorem dX12_readState_128 : decode cX12_readState 128 = .ok (.aload_n 0, 1) := by decide +kernel
theorem dX12_readState_129 : decode cX12_readState 129 = .ok (.getfield 276, 3) := by decide +kernel
theorem dX12_readState_132 : decode cX12_readState 132 = .ok (.istore_n 3, 1) := by decide +kernel
theorem dX12_readState_133 : decode cX12_readState 133 = .ok (.aload_n 0, 1) := by decide +kernel
theorem dX12_readState_134 : decode cX12_readState 134 = .ok (.iload_n 3, 1) := by decide +kernel
theorem dX12_readState_135 : decode cX12_readState 135 = .ok (.invokevirtual 331, 3) := by decide +kernel
theorem dX12_readState_138 : decode cX12_readState 138 = .ok (.ifCond .ne 5, 3) := by decide +kernel
theorem dX12_readState_141 : decode cX12_readState 141 = .ok (.iconst 0, 1) := by decide +kernel
theorem dX12_readState_142 : decode cX12_readState 142 = .ok (.ireturn, 1) := by decide +kernel
theorem dX12_readState_143 : decode cX12_readState 143 = .ok (.aload_n 0, 1) := by decide +kernel
theorem dX12_readState_144 : decode cX12_readState 144 = .ok (.getfield 84, 3) := by decide +kernel
theorem dX12_readState_147 : decode cX12_readState 147 = .ok (.iload_n 1, 1) := by decide +kernel
theorem dX12_readState_148 : decode cX12_readState 148 = .ok (.aload_n 0, 1) := by decide +kernel
theorem dX12_readState_149 : decode cX12_readState 149 = .ok (.getfield 289, 3) := by decide +kernel
theorem dX12_readState_152 : decode cX12_readState 152 = .ok (.lastore, 1) := by decide +kernel
theorem dX12_readState_153 : decode cX12_readState 153 = .ok (.aload_n 0, 1) := by decide +kernel
theorem dX12_readState_154 : decode cX12_readState 154 = .ok (.iload_n 3, 1) := by decide +kernel
theorem dX12_readState_155 : decode cX12_readState 155 = .ok (.invokevirtual 374, 3) := by decide +kernel
theorem dX12_readState_158 : decode cX12_readState 158 = .ok (.ifCond .ne 5, 3) := by decide +kernel
theorem dX12_readState_161 : decode cX12_readState 161 = .ok (.iconst 0, 1) := by decide +kernel
theorem dX12_readState_162 : decode cX12_readState 162 = .ok (.ireturn, 1) := by decide +kernel
theorem dX12_readState_163 : decode cX12_readState 163 = .ok (.aload_n 0, 1) := by decide +kernel
theorem dX12_readState_164 : decode cX12_readState 164 = .ok (.getfield 87, 3) := by decide +kernel
theorem dX12_readState_167 : decode cX12_readState 167 = .ok (.iload_n 1, 1) := by decide +kernel
theorem dX12_readState_168 : decode cX12_readState 168 = .ok (.aload_n 0, 1) := by decide +kernel
theorem dX12_readState_169 : decode cX12_readState 169 = .ok (.getfield 289, 3) := by decide +kernel
theorem dX12_readState_172 : decode cX12_readState 172 = .ok (.l2i, 1) := by decide +kernel
theorem dX12_readState_173 : decode cX12_readState 173 = .ok (.iastore, 1) := by decide +kernel
theorem dX12_readState_174 : decode cX12_readState 174 = .ok (.aload_n 0, 1) := by decide +kernel
theorem dX12_readState_175 : decode cX12_readState 175 = .ok (.iload_n 3, 1) := by decide +kernel
theorem dX12_readState_176 : decode cX12_readState 176 = .ok (.invokevirtual 350, 3) := by decide +kernel
theorem dX12_readState_179 : decode cX12_readState 179 = .ok (.ireturn, 1) := by decide +kernel
theorem dX12_readSingle_0 : decode cX12_readSingle 0 = .ok (.aload_n 0, 1) := by decide +kernel
theorem dX12_readSingle_1 : decode cX12_readSingle 1 = .ok (.getfield 359, 3) := by decide +kernel
theorem dX12_readSingle_4 : decode cX12_readSingle 4 = .ok (.istore_n 2, 1) := by decide +kernel
theorem dX12_readSingle_5 : decode cX12_readSingle 5 = .ok (.iload_n 2, 1) := by decide +kernel
theorem dX12_readSingle_6 : decode cX12_readSingle 6 = .ok (.bipush 8, 2) := by decide +kernel
theorem dX12_readSingle_8 : decode cX12_readSingle 8 = .ok (.if_icmp .ne 12, 3) := by decide +kernel
theorem dX12_readSingle_11 : decode cX12_readSingle 11 = .ok (.aload_n 0, 1) := by decide +kernel
theorem dX12_readSingle_12 : decode cX12_readSingle 12 = .ok (.aload_n 0, 1) := by decide +kernel
theorem dX12_readSingle_13 : decode cX12_readSingle 13 = .ok (.getfield 259, 3) := by decide +kernel
theorem dX12_readSingle_16 : decode cX12_readSingle 16 = .ok (.invokevirtual 265, 3) := by decide +kernel
theorem dX12_readSingle_19 : decode cX12_readSingle 19 = .ok (.ireturn, 1) := by decide +kernel
theorem dX12_readSingle_20 : decode cX12_readSingle 20 = .ok (.aload_n 0, 1) := by decide +kernel
theorem dX12_readSingle_21 : decode cX12_readSingle 21 = .ok (.bipush 48, 2) := by decide +kernel
theorem dX12_readSingle_23 : decode cX12_readSingle 23 = .ok (.iload_n 1, 1) := by decide +kernel
theorem dX12_readSingle_24 : decode cX12_readSingle 24 = .ok (.invokevirtual 285, 3) := by decide +kernel
theorem dX12_readSingle_27 : decode cX12_readSingle 27 = .ok (.ifCond .ne 5, 3) := by decide +kernel
theorem dX12_readSingle_30 : decode cX12_readSingle 30 = .ok (.iconst 0, 1) := by decide +kernel
theorem dX12_readSingle_31 : decode cX12_readSingle 31 = .ok (.ireturn, 1) := by decide +kernel
theorem dX12_readSingle_32 : decode cX12_readSingle 32 = .ok (.aload_n 0, 1) := by decide +kernel
theorem dX12_readSingle_33 : decode cX12_readSingle 33 = .ok (.getfield 276, 3) := by decide +kernel
theorem dX12_readSingle_36 : decode cX12_readSingle 36 = .ok (.istore_n 3, 1) := by decide +kernel
theorem dX12_readSingle_37 : decode cX12_readSingle 37 = .ok (.aload_n 0, 1) := by decide +kernel
theorem dX12_readSingle_38 : decode cX12_readSingle 38 = .ok (.iload_n 3, 1) := by decide +kernel
theorem dX12_readSingle_39 : decode cX12_readSingle 39 = .ok (.invokevirtual 368, 3) := by decide +kernel
theorem dX12_readSingle_42 : decode cX12_readSingle 42 = .ok (.ifCond .eq 20, 3) := by decide +kernel
theorem dX12_readSingle_45 : decode cX12_readSingle 45 = .ok (.aload_n 0, 1) := by decide +kernel
theorem dX12_readSingle_46 : decode cX12_readSingle 46 = .ok (.iload_n 2, 1) := by decide +kernel
theorem dX12_readSingle_47 : decode cX12_readSingle 47 = .ok (.iload_n 3, 1) := by decide +kernel
theorem dX12_readSingle_48 : decode cX12_readSingle 48 = .ok (.invokevirtual 377, 3) := by decide +kernel
theorem dX12_readSingle_51 : decode cX12_readSingle 51 = .ok (.ifCond .eq 11, 3) := by decide +kernel
theorem dX12_readSingle_54 : decode cX12_readSingle 54 = .ok (.aload_n 0, 1) := by decide +kernel
theorem dX12_readSingle_55 : decode cX12_readSingle 55 = .ok (.iload_n 3, 1) := by decide +kernel
theorem dX12_readSingle_56 : decode cX12_readSingle 56 = .ok (.invokevirtual 331, 3) := by decide +kernel
theorem dX12_readSingle_59 : decode cX12_readSingle 59 = .ok (.ifCond .ne 5, 3) := by decide +kernel
theorem dX12_readSingle_62 : decode cX12_readSingle 62 = .ok (.iconst 0, 1) := by decide +kernel
theorem dX12_readSingle_63 : decode cX12_readSingle 63 = .ok (.ireturn, 1) := by decide +kernel
theorem dX12_readSingle_64 : decode cX12_readSingle 64 = .ok (.aload_n 0, 1) := by decide +kernel
theorem dX12_readSingle_65 : decode cX12_readSingle 65 = .ok (.getfield 90, 3) := by decide +kernel
theorem dX12_readSingle_68 : decode cX12_readSingle 68 = .ok (.iload_n 2, 1) := by decide +kernel
theorem dX12_readSingle_69 : decode cX12_readSingle 69 = .ok (.aload_n 0, 1) := by decide +kernel
theorem dX12_readSingle_70 : decode cX12_readSingle 70 = .ok (.getfield 289, 3) := by decide +kernel
theorem dX12_readSingle_73 : decode cX12_readSingle 73 = .ok (.lastore, 1) := by decide +kernel
theorem dX12_readSingle_74 : decode cX12_readSingle 74 = .ok (.aload_n 0, 1) := by decide +kernel
theorem dX12_readSingle_75 : decode cX12_readSingle 75 = .ok (.getfield 93, 3) := by decide +kernel
theorem dX12_readSingle_78 : decode cX12_readSingle 78 = .ok (.iload_n 2, 1) := by decide +kernel
theorem dX12_readSingle_79 : decode cX12_readSingle 79 = .ok (.ldc2_w 213, 3) := by decide +kernel
theorem dX12_readSingle_82 : decode cX12_readSingle 82 = .ok (.lastore, 1) := by decide +kernel
theorem dX12_readSingle_83 : decode cX12_readSingle 83 = .ok (.aload_n 0, 1) := by decide +kernel
theorem dX12_readSingle_84 : decode cX12_readSingle 84 = .ok (.getfield 259, 3) := by decide +kernel
theorem dX12_readSingle_87 : decode cX12_readSingle 87 = .ok (.iload_n 3, 1) := by decide +kernel
theorem dX12_readSingle_88 : decode cX12_readSingle 88 = .ok (.if_icmp .ne 5, 3) := by decide +kernel
theorem dX12_readSingle_91 : decode cX12_readSingle 91 = .ok (.iconst 1, 1) := by decide +kernel
theorem dX12_readSingle_92 : decode cX12_readSingle 92 = .ok (.ireturn, 1) := by decide +kernel
theorem dX12_readSingle_93 : decode cX12_readSingle 93 = .ok (.aload_n 0, 1) := by decide +kernel
theorem dX12_readSingle_94 : decode cX12_readSingle 94 = .ok (.sipush 160, 3) := by decide +kernel
theorem dX12_readSingle_97 : decode cX12_readSingle 97 = .ok (.iload_n 3, 1) := by decide +kernel
theorem dX12_readSingle_98 : decode cX12_readSingle 98 = .ok (.invokevirtual 285, 3) := by decide +kernel
theorem dX12_readSingle_101 : decode cX12_readSingle 101 = .ok (.ifCond .ne 5, 3) := by decide +kernel
theorem dX12_readSingle_104 : decode cX12_readSingle 104 = .ok (.iconst 0, 1) := by decide +kernel
theorem dX12_readSingle_105 : decode cX12_readSingle 105 = .ok (.ireturn, 1) := by decide +kernel
theorem dX12_readSingle_106 : decode cX12_readSingle 106 = .ok (.aload_n 0, 1) := by decide +kernel
theorem dX12_readSingle_107 : decode cX12_readSingle 107 = .ok (.getfield 276, 3) := by decide +kernel
theorem dX12_readSingle_110 : decode cX12_readSingle 110 = .ok (.istore 4, 2) := by decide +kernel
theorem dX12_readSingle_112 : decode cX12_readSingle 112 = .ok (.aload_n 0, 1) := by decide +kernel
theorem dX12_readSingle_113 : decode cX12_readSingle 113 = .ok (.iload 4, 2) := by decide +kernel
theorem dX12_readSingle_115 : decode cX12_readSingle 115 = .ok (.invokevirtual 331, 3) := by decide +kernel
theorem dX12_readSingle_118 : decode cX12_readSingle 118 = .ok (.ifCond .ne 5, 3) := by decide +kernel
theorem dX12_readSingle_121 : decode cX12_readSingle 121 = .ok (.iconst 0, 1) := by decide +kernel
theorem dX12_readSingle_122 : decode cX12_readSingle 122 = .ok (.ireturn, 1) := by decide +kernel
theorem dX12_readSingle_123 : decode cX12_readSingle 123 = .ok (.aload_n 0, 1) := by decide +kernel
theorem dX12_readSingle_124 : decode cX12_readSingle 124 = .ok (.getfield 93, 3) := by decide +kernel
theorem dX12_readSingle_127 : decode cX12_readSingle 127 = .ok (.iload_n 2, 1) := by decide +kernel
theorem dX12_readSingle_128 : decode cX12_readSingle 128 = .ok (.aload_n 0, 1) := by decide +kernel
theorem dX12_readSingle_129 : decode cX12_readSingle 129 = .ok (.getfield 289, 3) := by decide +kernel
theorem dX12_readSingle_132 : decode cX12_readSingle 132 = .ok (.lastore, 1) := by decide +kernel
theorem dX12_readSingle_133 : decode cX12_readSingle 133 = .ok (.aload_n 0, 1) := by decide +kernel
theorem dX12_readSingle_134 : decode cX12_readSingle 134 = .ok (.iload 4, 2) := by decide +kernel
theorem dX12_readSingle_136 : decode cX12_readSingle 136 = .ok (.invokevirtual 350, 3) := by decide +kernel
theorem dX12_readSingle_139 : decode cX12_readSingle 139 = .ok (.ifCond .eq 15, 3) := by decide +kernel
theorem dX12_readSingle_142 : decode cX12_readSingle 142 = .ok (.aload_n 0, 1) := by decide +kernel
theorem dX12_readSingle_143 : decode cX12_readSingle 143 = .ok (.iload_n 3, 1) := by decide +kernel
theorem dX12_readSingle_144 : decode cX12_readSingle 144 = .ok (.invokevirtual 350, 3) := by decide +kernel
theorem dX12_readSingle_147 : decode cX12_readSingle 147 = .ok (.ifCond .eq 7, 3) := by decide +kernel
theorem dX12_readSingle_150 : decode cX12_readSingle 150 = .ok (.iconst 1, 1) := by decide +kernel
theorem dX12_readSingle_151 : decode cX12_readSingle 151 = .ok (.goto 4, 3) := by decide +kernel
theorem dX12_readSingle_154 : decode cX12_readSingle 154 = .ok (.iconst 0, 1) := by decide +kernel
theorem dX12_readSingle_155 : decode cX12_readSingle 155 = .ok (.ireturn, 1) := by decide +kernel
theorem dX12_readTeller_0 : decode cX12_readTeller 0 = .ok (.aload_n 0, 1) := by decide +kernel
theorem dX12_readTeller_1 : decode cX12_readTeller 1 = .ok (.iload_n 1, 1) := by decide +kernel
theorem dX12_readTeller_2 : decode cX12_readTeller 2 = .ok (.invokevirtual 282, 3) := by decide +kernel
theorem dX12_readTeller_5 : decode cX12_readTeller 5 = .ok (.ifCond .ne 5, 3) := by decide +kernel
theorem dX12_readTeller_8 : decode cX12_readTeller 8 = .ok (.iconst 0, 1) := by decide +kernel
theorem dX12_readTeller_9 : decode cX12_readTeller 9 = .ok (.ireturn, 1) := by decide +kernel
theorem dX12_readTeller_10 : decode cX12_readTeller 10 = .ok (.aload_n 0, 1) := by decide +kernel
theorem dX12_readTeller_11 : decode cX12_readTeller 11 = .ok (.getfield 269, 3) := by decide +kernel
theorem dX12_readTeller_14 : decode cX12_readTeller 14 = .ok (.sipush 161, 3) := by decide +kernel
theorem dX12_readTeller_17 : decode cX12_readTeller 17 = .ok (.if_icmp .eq 22, 3) := by decide +kernel
theorem dX12_readTeller_20 : decode cX12_readTeller 20 = .ok (.aload_n 0, 1) := by decide +kernel
theorem dX12_readTeller_21 : decode cX12_readTeller 21 = .ok (.getfield 269, 3) := by decide +kernel
theorem dX12_readTeller_24 : decode cX12_readTeller 24 = .ok (.sipush 162, 3) := by decide +kernel
theorem dX12_readTeller_27 : decode cX12_readTeller 27 = .ok (.if_icmp .eq 12, 3) := by decide +kernel
theorem dX12_readTeller_30 : decode cX12_readTeller 30 = .ok (.aload_n 0, 1) := by decide +kernel
theorem dX12_readTeller_31 : decode cX12_readTeller 31 = .ok (.aload_n 0, 1) := by decide +kernel
theorem dX12_readTeller_32 : decode cX12_readTeller 32 = .ok (.getfield 262, 3) := by decide +kernel
theorem dX12_readTeller_35 : decode cX12_readTeller 35 = .ok (.invokevirtual 265, 3) := by decide +kernel
theorem dX12_readTeller_38 : decode cX12_readTeller 38 = .ok (.ireturn, 1) := by decide +kernel
theorem dX12_readTeller_39 : decode cX12_readTeller 39 = .ok (.aload_n 0, 1) := by decide +kernel
theorem dX12_readTeller_40 : decode cX12_readTeller 40 = .ok (.aload_n 0, 1) := by decide +kernel
theorem dX12_readTeller_41 : decode cX12_readTeller 41 = .ok (.getfield 269, 3) := by decide +kernel
theorem dX12_readTeller_44 : decode cX12_readTeller 44 = .ok (.sipush 160, 3) := by decide +kernel
theorem dX12_readTeller_47 : decode cX12_readTeller 47 = .ok (.isub, 1) := by decide +kernel
theorem dX12_readTeller_48 : decode cX12_readTeller 48 = .ok (.putfield 380, 3) := by decide +kernel
theorem dX12_readTeller_51 : decode cX12_readTeller 51 = .ok (.aload_n 0, 1) := by decide +kernel
theorem dX12_readTeller_52 : decode cX12_readTeller 52 = .ok (.getfield 276, 3) := by decide +kernel
theorem dX12_readTeller_55 : decode cX12_readTeller 55 = .ok (.istore_n 2, 1) := by decide +kernel
theorem dX12_readTeller_56 : decode cX12_readTeller 56 = .ok (.aload_n 0, 1) := by decide +kernel
theorem dX12_readTeller_57 : decode cX12_readTeller 57 = .ok (.aload_n 0, 1) := by decide +kernel
theorem dX12_readTeller_58 : decode cX12_readTeller 58 = .ok (.getfield 380, 3) := by decide +kernel
theorem dX12_readTeller_61 : decode cX12_readTeller 61 = .ok (.iconst 1, 1) := by decide +kernel
theorem dX12_readTeller_62 : decode cX12_readTeller 62 = .ok (.if_icmp .ne 7, 3) := by decide +kernel
theorem dX12_readTeller_65 : decode cX12_readTeller 65 = .ok (.iconst 1, 1) := by decide +kernel
theorem dX12_readTeller_66 : decode cX12_readTeller 66 = .ok (.goto 5, 3) := by decide +kernel
theorem dX12_readTeller_69 : decode cX12_readTeller 69 = .ok (.bipush 8, 2) := by decide +kernel
theorem dX12_readTeller_71 : decode cX12_readTeller 71 = .ok (.aload_n 0, 1) := by decide +kernel
theorem dX12_readTeller_72 : decode cX12_readTeller 72 = .ok (.getfield 380, 3) := by decide +kernel
theorem dX12_readTeller_75 : decode cX12_readTeller 75 = .ok (.iconst 1, 1) := by decide +kernel
theorem dX12_readTeller_76 : decode cX12_readTeller 76 = .ok (.if_icmp .ne 8, 3) := by decide +kernel
theorem dX12_readTeller_79 : decode cX12_readTeller 79 = .ok (.bipush 16, 2) := by decide +kernel
theorem dX12_readTeller_81 : decode cX12_readTeller 81 = .ok (.goto 5, 3) := by decide +kernel
theorem dX12_readTeller_84 : decode cX12_readTeller 84 = .ok (.bipush 8, 2) := by decide +kernel
theorem dX12_readTeller_86 : decode cX12_readTeller 86 = .ok (.iload_n 2, 1) := by decide +kernel
theorem dX12_readTeller_87 : decode cX12_readTeller 87 = .ok (.invokevirtual 315, 3) := by decide +kernel
theorem dX12_readTeller_90 : decode cX12_readTeller 90 = .ok (.ifCond .ne 5, 3) := by decide +kernel
theorem dX12_readTeller_93 : decode cX12_readTeller 93 = .ok (.iconst 0, 1) := by decide +kernel
theorem dX12_readTeller_94 : decode cX12_readTeller 94 = .ok (.ireturn, 1) := by decide +kernel
theorem dX12_readTeller_95 : decode cX12_readTeller 95 = .ok (.aload_n 0, 1) := by decide +kernel
theorem dX12_readTeller_96 : decode cX12_readTeller 96 = .ok (.aload_n 0, 1) := by decide +kernel
theorem dX12_readTeller_97 : decode cX12_readTeller 97 = .ok (.getfield 273, 3) := by decide +kernel
theorem dX12_readTeller_100 : decode cX12_readTeller 100 = .ok (.putfield 383, 3) := by decide +kernel
theorem dX12_readTeller_103 : decode cX12_readTeller 103 = .ok (.aload_n 0, 1) := by decide +kernel
theorem dX12_readTeller_104 : decode cX12_readTeller 104 = .ok (.aload_n 0, 1) := by decide +kernel
theorem dX12_readTeller_105 : decode cX12_readTeller 105 = .ok (.getfield 276, 3) := by decide +kernel
theorem dX12_readTeller_108 : decode cX12_readTeller 108 = .ok (.putfield 386, 3) := by decide +kernel
theorem dX12_readTeller_111 : decode cX12_readTeller 111 = .ok (.aload_n 0, 1) := by decide +kernel
theorem dX12_readTeller_112 : decode cX12_readTeller 112 = .ok (.iload_n 2, 1) := by decide +kernel
theorem dX12_readTeller_113 : decode cX12_readTeller 113 = .ok (.invokevirtual 350, 3) := by decide +kernel
theorem dX12_readTeller_116 : decode cX12_readTeller 116 = .ok (.ireturn, 1) := by decide +kernel
theorem dX12_readBody_0 : decode cX12_readBody 0 = .ok (.aload_n 0, 1) := by decide +kernel
theorem dX12_readBody_1 : decode cX12_readBody 1 = .ok (.bipush 48, 2) := by decide +kernel
theorem dX12_readBody_3 : decode cX12_readBody 3 = .ok (.iload_n 1, 1) := by decide +kernel
theorem dX12_readBody_4 : decode cX12_readBody 4 = .ok (.invokevirtual 285, 3) := by decide +kernel
theorem dX12_readBody_7 : decode cX12_readBody 7 = .ok (.ifCond .ne 5, 3) := by decide +kernel
theorem dX12_readBody_10 : decode cX12_readBody 10 = .ok (.iconst 0, 1) := by decide +kernel
theorem dX12_readBody_11 : decode cX12_readBody 11 = .ok (.ireturn, 1) := by decide +kernel
theorem dX12_readBody_12 : decode cX12_readBody 12 = .ok (.aload_n 0, 1) := by decide +kernel
theorem dX12_readBody_13 : decode cX12_readBody 13 = .ok (.aload_n 0, 1) := by decide +kernel
theorem dX12_readBody_14 : decode cX12_readBody 14 = .ok (.getfield 262, 3) := by decide +kernel
theorem dX12_readBody_17 : decode cX12_readBody 17 = .ok (.putfield 389, 3) := by decide +kernel
theorem dX12_readBody_20 : decode cX12_readBody 20 = .ok (.aload_n 0, 1) := by decide +kernel
theorem dX12_readBody_21 : decode cX12_readBody 21 = .ok (.aload_n 0, 1) := by decide +kernel
theorem dX12_readBody_22 : decode cX12_readBody 22 = .ok (.getfield 276, 3) := by decide +kernel
theorem dX12_readBody_25 : decode cX12_readBody 25 = .ok (.putfield 392, 3) := by decide +kernel
theorem dX12_readBody_28 : decode cX12_readBody 28 = .ok (.aload_n 0, 1) := by decide +kernel
theorem dX12_readBody_29 : decode cX12_readBody 29 = .ok (.aload_n 0, 1) := by decide +kernel
theorem dX12_readBody_30 : decode cX12_readBody 30 = .ok (.getfield 392, 3) := by decide +kernel
theorem dX12_readBody_33 : decode cX12_readBody 33 = .ok (.invokevirtual 395, 3) := by decide +kernel
theorem dX12_readBody_36 : decode cX12_readBody 36 = .ok (.ifCond .eq 27, 3) := by decide +kernel
theorem dX12_readBody_39 : decode cX12_readBody 39 = .ok (.aload_n 0, 1) := by decide +kernel
theorem dX12_readBody_40 : decode cX12_readBody 40 = .ok (.aload_n 0, 1) := by decide +kernel
theorem dX12_readBody_41 : decode cX12_readBody 41 = .ok (.getfield 392, 3) := by decide +kernel
theorem dX12_readBody_44 : decode cX12_readBody 44 = .ok (.invokevirtual 331, 3) := by decide +kernel
theorem dX12_readBody_47 : decode cX12_readBody 47 = .ok (.ifCond .eq 16, 3) := by decide +kernel
theorem dX12_readBody_50 : decode cX12_readBody 50 = .ok (.aload_n 0, 1) := by decide +kernel
theorem dX12_readBody_51 : decode cX12_readBody 51 = .ok (.bipush 48, 2) := by decide +kernel
theorem dX12_readBody_53 : decode cX12_readBody 53 = .ok (.aload_n 0, 1) := by decide +kernel
theorem dX12_readBody_54 : decode cX12_readBody 54 = .ok (.getfield 392, 3) := by decide +kernel
theorem dX12_readBody_57 : decode cX12_readBody 57 = .ok (.invokevirtual 285, 3) := by decide +kernel
theorem dX12_readBody_60 : decode cX12_readBody 60 = .ok (.ifCond .ne 5, 3) := by decide +kernel
theorem dX12_readBody_63 : decode cX12_readBody 63 = .ok (.iconst 0, 1) := by decide +kernel
theorem dX12_readBody_64 : decode cX12_readBody 64 = .ok (.ireturn, 1) := by decide +kernel
theorem dX12_readBody_65 : decode cX12_readBody 65 = .ok (.aload_n 0, 1) := by decide +kernel
theorem dX12_readBody_66 : decode cX12_readBody 66 = .ok (.getfield 276, 3) := by decide +kernel
theorem dX12_readBody_69 : decode cX12_readBody 69 = .ok (.istore_n 2, 1) := by decide +kernel
theorem dX12_readBody_70 : decode cX12_readBody 70 = .ok (.aload_n 0, 1) := by decide +kernel
theorem dX12_readBody_71 : decode cX12_readBody 71 = .ok (.iconst 0, 1) := by decide +kernel
theorem dX12_readBody_72 : decode cX12_readBody 72 = .ok (.putfield 359, 3) := by decide +kernel
theorem dX12_readBody_75 : decode cX12_readBody 75 = .ok (.iconst 1, 1) := by decide +kernel
theorem dX12_readBody_76 : decode cX12_readBody 76 = .ok (.istore_n 3, 1) := by decide +kernel
theorem dX12_readBody_77 : decode cX12_readBody 77 = .ok (.iload_n 3, 1) := by decide +kernel
theorem dX12_readBody_78 : decode cX12_readBody 78 = .ok (.ifCond .eq 27, 3) := by decide +kernel
theorem dX12_readBody_81 : decode cX12_readBody 81 = .ok (.aload_n 0, 1) := by decide +kernel
theorem dX12_readBody_82 : decode cX12_readBody 82 = .ok (.getfield 359, 3) := by decide +kernel
theorem dX12_readBody_85 : decode cX12_readBody 85 = .ok (.ifCond .eq 11, 3) := by decide +kernel
theorem dX12_readBody_88 : decode cX12_readBody 88 = .ok (.aload_n 0, 1) := by decide +kernel
theorem dX12_readBody_89 : decode cX12_readBody 89 = .ok (.getfield 259, 3) := by decide +kernel
theorem dX12_readBody_92 : decode cX12_readBody 92 = .ok (.iload_n 2, 1) := by decide +kernel
theorem dX12_readBody_93 : decode cX12_readBody 93 = .ok (.if_icmp .ge 12, 3) := by decide +kernel
theorem dX12_readBody_96 : decode cX12_readBody 96 = .ok (.aload_n 0, 1) := by decide +kernel
theorem dX12_readBody_97 : decode cX12_readBody 97 = .ok (.iload_n 2, 1) := by decide +kernel
theorem dX12_readBody_98 : decode cX12_readBody 98 = .ok (.invokevirtual 398, 3) := by decide +kernel
theorem dX12_readBody_101 : decode cX12_readBody 101 = .ok (.istore_n 3, 1) := by decide +kernel
theorem dX12_readBody_102 : decode cX12_readBody 102 = .ok (.goto (-25), 3) := by decide +kernel
theorem dX12_readBody_105 : decode cX12_readBody 105 = .ok (.iload_n 3, 1) := by decide +kernel
theorem dX12_readBody_106 : decode cX12_readBody 106 = .ok (.ifCond .eq 32, 3) := by decide +kernel
theorem dX12_readBody_109 : decode cX12_readBody 109 = .ok (.aload_n 0, 1) := by decide +kernel
theorem dX12_readBody_110 : decode cX12_readBody 110 = .ok (.sipush 163, 3) := by decide +kernel
theorem dX12_readBody_113 : decode cX12_readBody 113 = .ok (.aload_n 0, 1) := by decide +kernel
theorem dX12_readBody_114 : decode cX12_readBody 114 = .ok (.getfield 392, 3) := by decide +kernel
theorem dX12_readBody_117 : decode cX12_readBody 117 = .ok (.invokevirtual 371, 3) := by decide +kernel
theorem dX12_readBody_120 : decode cX12_readBody 120 = .ok (.ifCond .eq 18, 3) := by decide +kernel
theorem dX12_readBody_123 : decode cX12_readBody 123 = .ok (.aload_n 0, 1) := by decide +kernel
theorem dX12_readBody_124 : decode cX12_readBody 124 = .ok (.aload_n 0, 1) := by decide +kernel
theorem dX12_readBody_125 : decode cX12_readBody 125 = .ok (.getfield 392, 3) := by decide +kernel
theorem dX12_readBody_128 : decode cX12_readBody 128 = .ok (.invokevirtual 350, 3) := by decide +kernel
theorem dX12_readBody_131 : decode cX12_readBody 131 = .ok (.ifCond .eq 7, 3) := by decide +kernel
theorem dX12_readBody_134 : decode cX12_readBody 134 = .ok (.iconst 1, 1) := by decide +kernel
theorem dX12_readBody_135 : decode cX12_readBody 135 = .ok (.goto 4, 3) := by decide +kernel
theorem dX12_readBody_138 : decode cX12_readBody 138 = .ok (.iconst 0, 1) := by decide +kernel
theorem dX12_readBody_139 : decode cX12_readBody 139 = .ok (.ireturn, 1) := by decide +kernel
theorem dX12_readAnswer_0 : decode cX12_readAnswer 0 = .ok (.aload_n 0, 1) := by decide +kernel
theorem dX12_readAnswer_1 : decode cX12_readAnswer 1 = .ok (.iconst 0, 1) := by decide +kernel
theorem dX12_readAnswer_2 : decode cX12_readAnswer 2 = .ok (.putfield 401, 3) := by decide +kernel
theorem dX12_readAnswer_5 : decode cX12_readAnswer 5 = .ok (.aload_n 0, 1) := by decide +kernel
theorem dX12_readAnswer_6 : decode cX12_readAnswer 6 = .ok (.bipush 48, 2) := by decide +kernel
theorem dX12_readAnswer_8 : decode cX12_readAnswer 8 = .ok (.aload_n 0, 1) := by decide +kernel
theorem dX12_readAnswer_9 : decode cX12_readAnswer 9 = .ok (.getfield 121, 3) := by decide +kernel
theorem dX12_readAnswer_12 : decode cX12_readAnswer 12 = .ok (.invokevirtual 285, 3) := by decide +kernel
theorem dX12_readAnswer_15 : decode cX12_readAnswer 15 = .ok (.ifCond .ne 5, 3) := by decide +kernel
theorem dX12_readAnswer_18 : decode cX12_readAnswer 18 = .ok (.iconst 0, 1) := by decide +kernel
theorem dX12_readAnswer_19 : decode cX12_readAnswer 19 = .ok (.ireturn, 1) := by decide +kernel
theorem dX12_readAnswer_20 : decode cX12_readAnswer 20 = .ok (.aload_n 0, 1) := by decide +kernel
theorem dX12_readAnswer_21 : decode cX12_readAnswer 21 = .ok (.getfield 276, 3) := by decide +kernel
theorem dX12_readAnswer_24 : decode cX12_readAnswer 24 = .ok (.istore_n 1, 1) := by decide +kernel
theorem dX12_readAnswer_25 : decode cX12_readAnswer 25 = .ok (.aload_n 0, 1) := by decide +kernel
theorem dX12_readAnswer_26 : decode cX12_readAnswer 26 = .ok (.iload_n 1, 1) := by decide +kernel
theorem dX12_readAnswer_27 : decode cX12_readAnswer 27 = .ok (.invokevirtual 374, 3) := by decide +kernel
theorem dX12_readAnswer_30 : decode cX12_readAnswer 30 = .ok (.ifCond .ne 5, 3) := by decide +kernel
theorem dX12_readAnswer_33 : decode cX12_readAnswer 33 = .ok (.iconst 0, 1) := by decide +kernel
theorem dX12_readAnswer_34 : decode cX12_readAnswer 34 = .ok (.ireturn, 1) := by decide +kernel
theorem dX12_readAnswer_35 : decode cX12_readAnswer 35 = .ok (.aload_n 0, 1) := by decide +kernel
theorem dX12_readAnswer_36 : decode cX12_readAnswer 36 = .ok (.aload_n 0, 1) := by decide +kernel
theorem dX12_readAnswer_37 : decode cX12_readAnswer 37 = .ok (.getfield 289, 3) := by decide +kernel
theorem dX12_readAnswer_40 : decode cX12_readAnswer 40 = .ok (.l2i, 1) := by decide +kernel
theorem dX12_readAnswer_41 : decode cX12_readAnswer 41 = .ok (.putfield 405, 3) := by decide +kernel
theorem dX12_readAnswer_44 : decode cX12_readAnswer 44 = .ok (.aload_n 0, 1) := by decide +kernel
theorem dX12_readAnswer_45 : decode cX12_readAnswer 45 = .ok (.getfield 405, 3) := by decide +kernel
theorem dX12_readAnswer_48 : decode cX12_readAnswer 48 = .ok (.ifCond .eq 28, 3) := by decide +kernel
theorem dX12_readAnswer_51 : decode cX12_readAnswer 51 = .ok (.aload_n 0, 1) := by decide +kernel
theorem dX12_readAnswer_52 : decode cX12_readAnswer 52 = .ok (.iload_n 1, 1) := by decide +kernel
theorem dX12_readAnswer_53 : decode cX12_readAnswer 53 = .ok (.invokevirtual 350, 3) := by decide +kernel
theorem dX12_readAnswer_56 : decode cX12_readAnswer 56 = .ok (.ifCond .eq 18, 3) := by decide +kernel
theorem dX12_readAnswer_59 : decode cX12_readAnswer 59 = .ok (.aload_n 0, 1) := by decide +kernel
theorem dX12_readAnswer_60 : decode cX12_readAnswer 60 = .ok (.aload_n 0, 1) := by decide +kernel
theorem dX12_readAnswer_61 : decode cX12_readAnswer 61 = .ok (.getfield 121, 3) := by decide +kernel
theorem dX12_readAnswer_64 : decode cX12_readAnswer 64 = .ok (.invokevirtual 350, 3) := by decide +kernel
theorem dX12_readAnswer_67 : decode cX12_readAnswer 67 = .ok (.ifCond .eq 7, 3) := by decide +kernel
theorem dX12_readAnswer_70 : decode cX12_readAnswer 70 = .ok (.iconst 1, 1) := by decide +kernel
theorem dX12_readAnswer_71 : decode cX12_readAnswer 71 = .ok (.goto 4, 3) := by decide +kernel
theorem dX12_readAnswer_74 : decode cX12_readAnswer 74 = .ok (.iconst 0, 1) := by decide +kernel
theorem dX12_readAnswer_75 : decode cX12_readAnswer 75 = .ok (.ireturn, 1) := by decide +kernel
theorem dX12_readAnswer_76 : decode cX12_readAnswer 76 = .ok (.aload_n 0, 1) := by decide +kernel
theorem dX12_readAnswer_77 : decode cX12_readAnswer 77 = .ok (.sipush 160, 3) := by decide +kernel
theorem dX12_readAnswer_80 : decode cX12_readAnswer 80 = .ok (.iload_n 1, 1) := by decide +kernel
theorem dX12_readAnswer_81 : decode cX12_readAnswer 81 = .ok (.invokevirtual 285, 3) := by decide +kernel
theorem dX12_readAnswer_84 : decode cX12_readAnswer 84 = .ok (.ifCond .ne 5, 3) := by decide +kernel
theorem dX12_readAnswer_87 : decode cX12_readAnswer 87 = .ok (.iconst 0, 1) := by decide +kernel
theorem dX12_readAnswer_88 : decode cX12_readAnswer 88 = .ok (.ireturn, 1) := by decide +kernel
theorem dX12_readAnswer_89 : decode cX12_readAnswer 89 = .ok (.aload_n 0, 1) := by decide +kernel
theorem dX12_readAnswer_90 : decode cX12_readAnswer 90 = .ok (.getfield 276, 3) := by decide +kernel
theorem dX12_readAnswer_93 : decode cX12_readAnswer 93 = .ok (.istore_n 2, 1) := by decide +kernel
theorem dX12_readAnswer_94 : decode cX12_readAnswer 94 = .ok (.aload_n 0, 1) := by decide +kernel
theorem dX12_readAnswer_95 : decode cX12_readAnswer 95 = .ok (.bipush 48, 2) := by decide +kernel
theorem dX12_readAnswer_97 : decode cX12_readAnswer 97 = .ok (.iload_n 2, 1) := by decide +kernel
theorem dX12_readAnswer_98 : decode cX12_readAnswer 98 = .ok (.invokevirtual 285, 3) := by decide +kernel
theorem dX12_readAnswer_101 : decode cX12_readAnswer 101 = .ok (.ifCond .ne 5, 3) := by decide +kernel
theorem dX12_readAnswer_104 : decode cX12_readAnswer 104 = .ok (.iconst 0, 1) := by decide +kernel
theorem dX12_readAnswer_105 : decode cX12_readAnswer 105 = .ok (.ireturn, 1) := by decide +kernel
theorem dX12_readAnswer_106 : decode cX12_readAnswer 106 = .ok (.aload_n 0, 1) := by decide +kernel
theorem dX12_readAnswer_107 : decode cX12_readAnswer 107 = .ok (.getfield 276, 3) := by decide +kernel
theorem dX12_readAnswer_110 : decode cX12_readAnswer 110 = .ok (.istore_n 3, 1) := by decide +kernel
theorem dX12_readAnswer_111 : decode cX12_readAnswer 111 = .ok (.aload_n 0, 1) := by decide +kernel
theorem dX12_readAnswer_112 : decode cX12_readAnswer 112 = .ok (.iload_n 3, 1) := by decide +kernel
theorem dX12_readAnswer_113 : decode cX12_readAnswer 113 = .ok (.invokevirtual 408, 3) := by decide +kernel
theorem dX12_readAnswer_116 : decode cX12_readAnswer 116 = .ok (.ifCond .eq 11, 3) := by decide +kernel
theorem dX12_readAnswer_119 : decode cX12_readAnswer 119 = .ok (.aload_n 0, 1) := by decide +kernel
theorem dX12_readAnswer_120 : decode cX12_readAnswer 120 = .ok (.iload_n 3, 1) := by decide +kernel
theorem dX12_readAnswer_121 : decode cX12_readAnswer 121 = .ok (.invokevirtual 353, 3) := by decide +kernel
theorem dX12_readAnswer_124 : decode cX12_readAnswer 124 = .ok (.ifCond .ne 5, 3) := by decide +kernel
theorem dX12_readAnswer_127 : decode cX12_readAnswer 127 = .ok (.iconst 0, 1) := by decide +kernel
theorem dX12_readAnswer_128 : decode cX12_readAnswer 128 = .ok (.ireturn, 1) := by decide +kernel
theorem dX12_readAnswer_129 : decode cX12_readAnswer 129 = .ok (.aload_n 0, 1) := by decide +kernel
theorem dX12_readAnswer_130 : decode cX12_readAnswer 130 = .ok (.aload_n 0, 1) := by decide +kernel
theorem dX12_readAnswer_131 : decode cX12_readAnswer 131 = .ok (.getfield 297, 3) := by decide +kernel
theorem dX12_readAnswer_134 : decode cX12_readAnswer 134 = .ok (.putfield 411, 3) := by decide +kernel
theorem dX12_readAnswer_137 : decode cX12_readAnswer 137 = .ok (.aload_n 0, 1) := by decide +kernel
theorem dX12_readAnswer_138 : decode cX12_readAnswer 138 = .ok (.getfield 259, 3) := by decide +kernel
theorem dX12_readAnswer_141 : decode cX12_readAnswer 141 = .ok (.iload_n 3, 1) := by decide +kernel
theorem dX12_readAnswer_142 : decode cX12_readAnswer 142 = .ok (.if_icmp .ge 47, 3) := by decide +kernel
theorem dX12_readAnswer_145 : decode cX12_readAnswer 145 = .ok (.aload_n 0, 1) := by decide +kernel
theorem dX12_readAnswer_146 : decode cX12_readAnswer 146 = .ok (.sipush 160, 3) := by decide +kernel
theorem dX12_readAnswer_149 : decode cX12_readAnswer 149 = .ok (.iload_n 3, 1) := by decide +kernel
theorem dX12_readAnswer_150 : decode cX12_readAnswer 150 = .ok (.invokevirtual 285, 3) := by decide +kernel
theorem dX12_readAnswer_153 : decode cX12_readAnswer 153 = .ok (.ifCond .ne 5, 3) := by decide +kernel
theorem dX12_readAnswer_156 : decode cX12_readAnswer 156 = .ok (.iconst 0, 1) := by decide +kernel
theorem dX12_readAnswer_157 : decode cX12_readAnswer 157 = .ok (.ireturn, 1) := by decide +kernel
