theorem dX11_init_0 : decode cX11_init 0 = .ok (.aload_n 0, 1) := by decide +kernel
theorem dX11_init_1 : decode cX11_init 1 = .ok (.invokespecial 1, 3) := by decide +kernel
theorem dX11_init_4 : decode cX11_init 4 = .ok (.aload_n 0, 1) := by decide +kernel
theorem dX11_init_5 : decode cX11_init 5 = .ok (.new 7, 3) := by decide +kernel
theorem dX11_init_8 : decode cX11_init 8 = .ok (.dup, 1) := by decide +kernel
theorem dX11_init_9 : decode cX11_init 9 = .ok (.sipush 1500, 3) := by decide +kernel
theorem dX11_init_12 : decode cX11_init 12 = .ok (.invokespecial 11, 3) := by decide +kernel
theorem dX11_init_15 : decode cX11_init 15 = .ok (.putfield 14, 3) := by decide +kernel
theorem dX11_init_18 : decode cX11_init 18 = .ok (.aload_n 0, 1) := by decide +kernel
theorem dX11_init_19 : decode cX11_init 19 = .ok (.new 7, 3) := by decide +kernel
theorem dX11_init_22 : decode cX11_init 22 = .ok (.dup, 1) := by decide +kernel
theorem dX11_init_23 : decode cX11_init 23 = .ok (.sipush 1500, 3) := by decide +kernel
theorem dX11_init_26 : decode cX11_init 26 = .ok (.invokespecial 11, 3) := by decide +kernel
theorem dX11_init_29 : decode cX11_init 29 = .ok (.putfield 18, 3) := by decide +kernel
theorem dX11_init_32 : decode cX11_init 32 = .ok (.aload_n 0, 1) := by decide +kernel
theorem dX11_init_33 : decode cX11_init 33 = .ok (.new 7, 3) := by decide +kernel
theorem dX11_init_36 : decode cX11_init 36 = .ok (.dup, 1) := by decide +kernel
theorem dX11_init_37 : decode cX11_init 37 = .ok (.bipush 8, 2) := by decide +kernel
theorem dX11_init_39 : decode cX11_init 39 = .ok (.invokespecial 11, 3) := by decide +kernel
theorem dX11_init_42 : decode cX11_init 42 = .ok (.putfield 21, 3) := by decide +kernel
theorem dX11_init_45 : decode cX11_init 45 = .ok (.aload_n 0, 1) := by decide +kernel
theorem dX11_init_46 : decode cX11_init 46 = .ok (.iconst 4, 1) := by decide +kernel
theorem dX11_init_47 : decode cX11_init 47 = .ok (.anewarray 24, 3) := by decide +kernel
theorem dX11_init_50 : decode cX11_init 50 = .ok (.putfield 26, 3) := by decide +kernel
theorem dX11_init_53 : decode cX11_init 53 = .ok (.aload_n 0, 1) := by decide +kernel
theorem dX11_init_54 : decode cX11_init 54 = .ok (.bipush 8, 2) := by decide +kernel
theorem dX11_init_56 : decode cX11_init 56 = .ok (.anewarray 30, 3) := by decide +kernel
theorem dX11_init_59 : decode cX11_init 59 = .ok (.putfield 32, 3) := by decide +kernel
theorem dX11_init_62 : decode cX11_init 62 = .ok (.aload_n 0, 1) := by decide +kernel
theorem dX11_init_63 : decode cX11_init 63 = .ok (.bipush 16, 2) := by decide +kernel
theorem dX11_init_65 : decode cX11_init 65 = .ok (.anewarray 36, 3) := by decide +kernel
theorem dX11_init_68 : decode cX11_init 68 = .ok (.putfield 38, 3) := by decide +kernel
theorem dX11_init_71 : decode cX11_init 71 = .ok (.aload_n 0, 1) := by decide +kernel
theorem dX11_init_72 : decode cX11_init 72 = .ok (.new 36, 3) := by decide +kernel
theorem dX11_init_75 : decode cX11_init 75 = .ok (.dup, 1) := by decide +kernel
theorem dX11_init_76 : decode cX11_init 76 = .ok (.invokespecial 42, 3) := by decide +kernel
theorem dX11_init_79 : decode cX11_init 79 = .ok (.putfield 43, 3) := by decide +kernel
theorem dX11_init_82 : decode cX11_init 82 = .ok (.aload_n 0, 1) := by decide +kernel
theorem dX11_init_83 : decode cX11_init 83 = .ok (.new 47, 3) := by decide +kernel
theorem dX11_init_86 : decode cX11_init 86 = .ok (.dup, 1) := by decide +kernel
theorem dX11_init_87 : decode cX11_init 87 = .ok (.invokespecial 49, 3) := by decide +kernel
theorem dX11_init_90 : decode cX11_init 90 = .ok (.putfield 50, 3) := by decide +kernel
theorem dX11_init_93 : decode cX11_init 93 = .ok (.aload_n 0, 1) := by decide +kernel
theorem dX11_init_94 : decode cX11_init 94 = .ok (.new 54, 3) := by decide +kernel
theorem dX11_init_97 : decode cX11_init 97 = .ok (.dup, 1) := by decide +kernel
theorem dX11_init_98 : decode cX11_init 98 = .ok (.invokespecial 56, 3) := by decide +kernel
theorem dX11_init_101 : decode cX11_init 101 = .ok (.putfield 57, 3) := by decide +kernel
theorem dX11_init_104 : decode cX11_init 104 = .ok (.aload_n 0, 1) := by decide +kernel
theorem dX11_init_105 : decode cX11_init 105 = .ok (.new 61, 3) := by decide +kernel
theorem dX11_init_108 : decode cX11_init 108 = .ok (.dup, 1) := by decide +kernel
theorem dX11_init_109 : decode cX11_init 109 = .ok (.invokespecial 63, 3) := by decide +kernel
theorem dX11_init_112 : decode cX11_init 112 = .ok (.putfield 64, 3) := by decide +kernel
theorem dX11_init_115 : decode cX11_init 115 = .ok (.aload_n 0, 1) := by decide +kernel
theorem dX11_init_116 : decode cX11_init 116 = .ok (.new 68, 3) := by decide +kernel
theorem dX11_init_119 : decode cX11_init 119 = .ok (.dup, 1) := by decide +kernel
theorem dX11_init_120 : decode cX11_init 120 = .ok (.invokespecial 70, 3) := by decide +kernel
theorem dX11_init_123 : decode cX11_init 123 = .ok (.putfield 71, 3) := by decide +kernel
theorem dX11_init_126 : decode cX11_init 126 = .ok (.aload_n 0, 1) := by decide +kernel
theorem dX11_init_127 : decode cX11_init 127 = .ok (.iconst 0, 1) := by decide +kernel
theorem dX11_init_128 : decode cX11_init 128 = .ok (.putfield 75, 3) := by decide +kernel
theorem dX11_init_131 : decode cX11_init 131 = .ok (.iconst 0, 1) := by decide +kernel
theorem dX11_init_132 : decode cX11_init 132 = .ok (.istore_n 1, 1) := by decide +kernel
theorem dX11_init_133 : decode cX11_init 133 = .ok (.iload_n 1, 1) := by decide +kernel
theorem dX11_init_134 : decode cX11_init 134 = .ok (.aload_n 0, 1) := by decide +kernel
theorem dX11_init_135 : decode cX11_init 135 = .ok (.getfield 26, 3) := by decide +kernel
theorem dX11_init_138 : decode cX11_init 138 = .ok (.arraylength, 1) := by decide +kernel
theorem dX11_init_139 : decode cX11_init 139 = .ok (.if_icmp .ge 22, 3) := by decide +kernel
theorem dX11_init_142 : decode cX11_init 142 = .ok (.aload_n 0, 1) := by decide +kernel
theorem dX11_init_143 : decode cX11_init 143 = .ok (.getfield 26, 3) := by decide +kernel
theorem dX11_init_146 : decode cX11_init 146 = .ok (.iload_n 1, 1) := by decide +kernel
theorem dX11_init_147 : decode cX11_init 147 = .ok (.new 24, 3) := by decide +kernel
theorem dX11_init_150 : decode cX11_init 150 = .ok (.dup, 1) := by decide +kernel
theorem dX11_init_151 : decode cX11_init 151 = .ok (.invokespecial 79, 3) := by decide +kernel
theorem dX11_init_154 : decode cX11_init 154 = .ok (.aastore, 1) := by decide +kernel
theorem dX11_init_155 : decode cX11_init 155 = .ok (.iinc 1 1, 3) := by decide +kernel
theorem dX11_init_158 : decode cX11_init 158 = .ok (.goto (-25), 3) := by decide +kernel
theorem dX11_init_161 : decode cX11_init 161 = .ok (.iconst 0, 1) := by decide +kernel
theorem dX11_init_162 : decode cX11_init 162 = .ok (.istore_n 1, 1) := by decide +kernel
theorem dX11_init_163 : decode cX11_init 163 = .ok (.iload_n 1, 1) := by decide +kernel
theorem dX11_init_164 : decode cX11_init 164 = .ok (.aload_n 0, 1) := by decide +kernel
theorem dX11_init_165 : decode cX11_init 165 = .ok (.getfield 32, 3) := by decide +kernel
theorem dX11_init_168 : decode cX11_init 168 = .ok (.arraylength, 1) := by decide +kernel
theorem dX11_init_169 : decode cX11_init 169 = .ok (.if_icmp .ge 22, 3) := by decide +kernel
theorem dX11_init_172 : decode cX11_init 172 = .ok (.aload_n 0, 1) := by decide +kernel
theorem dX11_init_173 : decode cX11_init 173 = .ok (.getfield 32, 3) := by decide +kernel
theorem dX11_init_176 : decode cX11_init 176 = .ok (.iload_n 1, 1) := by decide +kernel
theorem dX11_init_177 : decode cX11_init 177 = .ok (.new 30, 3) := by decide +kernel
theorem dX11_init_180 : decode cX11_init 180 = .ok (.dup, 1) := by decide +kernel
theorem dX11_init_181 : decode cX11_init 181 = .ok (.invokespecial 80, 3) := by decide +kernel
theorem dX11_init_184 : decode cX11_init 184 = .ok (.aastore, 1) := by decide +kernel
theorem dX11_init_185 : decode cX11_init 185 = .ok (.iinc 1 1, 3) := by decide +kernel
theorem dX11_init_188 : decode cX11_init 188 = .ok (.goto (-25), 3) := by decide +kernel
theorem dX11_init_191 : decode cX11_init 191 = .ok (.iconst 0, 1) := by decide +kernel
theorem dX11_init_192 : decode cX11_init 192 = .ok (.istore_n 1, 1) := by decide +kernel
theorem dX11_init_193 : decode cX11_init 193 = .ok (.iload_n 1, 1) := by decide +kernel
theorem dX11_init_194 : decode cX11_init 194 = .ok (.aload_n 0, 1) := by decide +kernel
theorem dX11_init_195 : decode cX11_init 195 = .ok (.getfield 38, 3) := by decide +kernel
theorem dX11_init_198 : decode cX11_init 198 = .ok (.arraylength, 1) := by decide +kernel
theorem dX11_init_199 : decode cX11_init 199 = .ok (.if_icmp .ge 22, 3) := by decide +kernel
theorem dX11_init_202 : decode cX11_init 202 = .ok (.aload_n 0, 1) := by decide +kernel
theorem dX11_init_203 : decode cX11_init 203 = .ok (.getfield 38, 3) := by decide +kernel
theorem dX11_init_206 : decode cX11_init 206 = .ok (.iload_n 1, 1) := by decide +kernel
theorem dX11_init_207 : decode cX11_init 207 = .ok (.new 36, 3) := by decide +kernel
theorem dX11_init_210 : decode cX11_init 210 = .ok (.dup, 1) := by decide +kernel
theorem dX11_init_211 : decode cX11_init 211 = .ok (.invokespecial 42, 3) := by decide +kernel
theorem dX11_init_214 : decode cX11_init 214 = .ok (.aastore, 1) := by decide +kernel
theorem dX11_init_215 : decode cX11_init 215 = .ok (.iinc 1 1, 3) := by decide +kernel
theorem dX11_init_218 : decode cX11_init 218 = .ok (.goto (-25), 3) := by decide +kernel
theorem dX11_init_221 : decode cX11_init 221 = .ok (.return_, 1) := by decide +kernel
theorem dX11_feed_0 : decode cX11_feed 0 = .ok (.iload_n 3, 1) := by decide +kernel
theorem dX11_feed_1 : decode cX11_feed 1 = .ok (.iconst 1, 1) := by decide +kernel
theorem dX11_feed_2 : decode cX11_feed 2 = .ok (.if_icmp .lt 9, 3) := by decide +kernel
theorem dX11_feed_5 : decode cX11_feed 5 = .ok (.iload_n 3, 1) := by decide +kernel
theorem dX11_feed_6 : decode cX11_feed 6 = .ok (.bipush 8, 2) := by decide +kernel
theorem dX11_feed_8 : decode cX11_feed 8 = .ok (.if_icmp .le 6, 3) := by decide +kernel
theorem dX11_feed_11 : decode cX11_feed 11 = .ok (.bipush (-2), 2) := by decide +kernel
theorem dX11_feed_13 : decode cX11_feed 13 = .ok (.ireturn, 1) := by decide +kernel
theorem dX11_feed_14 : decode cX11_feed 14 = .ok (.aload_n 0, 1) := by decide +kernel
theorem dX11_feed_15 : decode cX11_feed 15 = .ok (.getfield 14, 3) := by decide +kernel
theorem dX11_feed_18 : decode cX11_feed 18 = .ok (.getfield 81, 3) := by decide +kernel
theorem dX11_feed_21 : decode cX11_feed 21 = .ok (.iload_n 3, 1) := by decide +kernel
theorem dX11_feed_22 : decode cX11_feed 22 = .ok (.iadd, 1) := by decide +kernel
theorem dX11_feed_23 : decode cX11_feed 23 = .ok (.sipush 1500, 3) := by decide +kernel
theorem dX11_feed_26 : decode cX11_feed 26 = .ok (.if_icmp .le 6, 3) := by decide +kernel
theorem dX11_feed_29 : decode cX11_feed 29 = .ok (.bipush (-3), 2) := by decide +kernel
theorem dX11_feed_31 : decode cX11_feed 31 = .ok (.ireturn, 1) := by decide +kernel
theorem dX11_feed_32 : decode cX11_feed 32 = .ok (.aload_n 0, 1) := by decide +kernel
theorem dX11_feed_33 : decode cX11_feed 33 = .ok (.getfield 14, 3) := by decide +kernel
theorem dX11_feed_36 : decode cX11_feed 36 = .ok (.lload_n 1, 1) := by decide +kernel
theorem dX11_feed_37 : decode cX11_feed 37 = .ok (.iload_n 3, 1) := by decide +kernel
theorem dX11_feed_38 : decode cX11_feed 38 = .ok (.invokevirtual 84, 3) := by decide +kernel
theorem dX11_feed_41 : decode cX11_feed 41 = .ok (.aload_n 0, 1) := by decide +kernel
theorem dX11_feed_42 : decode cX11_feed 42 = .ok (.getfield 14, 3) := by decide +kernel
theorem dX11_feed_45 : decode cX11_feed 45 = .ok (.getfield 81, 3) := by decide +kernel
theorem dX11_feed_48 : decode cX11_feed 48 = .ok (.ireturn, 1) := by decide +kernel
theorem dX11_take_0 : decode cX11_take 0 = .ok (.aload_n 0, 1) := by decide +kernel
theorem dX11_take_1 : decode cX11_take 1 = .ok (.getfield 14, 3) := by decide +kernel
theorem dX11_take_4 : decode cX11_take 4 = .ok (.aload_n 0, 1) := by decide +kernel
theorem dX11_take_5 : decode cX11_take 5 = .ok (.getfield 18, 3) := by decide +kernel
theorem dX11_take_8 : decode cX11_take 8 = .ok (.invokevirtual 88, 3) := by decide +kernel
theorem dX11_take_11 : decode cX11_take 11 = .ok (.aload_n 0, 1) := by decide +kernel
theorem dX11_take_12 : decode cX11_take 12 = .ok (.getfield 14, 3) := by decide +kernel
theorem dX11_take_15 : decode cX11_take 15 = .ok (.getfield 81, 3) := by decide +kernel
theorem dX11_take_18 : decode cX11_take 18 = .ok (.ireturn, 1) := by decide +kernel
theorem dX11_spoil_0 : decode cX11_spoil 0 = .ok (.iload_n 1, 1) := by decide +kernel
theorem dX11_spoil_1 : decode cX11_spoil 1 = .ok (.ifCond .lt 14, 3) := by decide +kernel
theorem dX11_spoil_4 : decode cX11_spoil 4 = .ok (.iload_n 1, 1) := by decide +kernel
theorem dX11_spoil_5 : decode cX11_spoil 5 = .ok (.aload_n 0, 1) := by decide +kernel
theorem dX11_spoil_6 : decode cX11_spoil 6 = .ok (.getfield 14, 3) := by decide +kernel
theorem dX11_spoil_9 : decode cX11_spoil 9 = .ok (.getfield 81, 3) := by decide +kernel
theorem dX11_spoil_12 : decode cX11_spoil 12 = .ok (.if_icmp .lt 6, 3) := by decide +kernel
theorem dX11_spoil_15 : decode cX11_spoil 15 = .ok (.bipush (-2), 2) := by decide +kernel
theorem dX11_spoil_17 : decode cX11_spoil 17 = .ok (.ireturn, 1) := by decide +kernel
theorem dX11_spoil_18 : decode cX11_spoil 18 = .ok (.aload_n 0, 1) := by decide +kernel
theorem dX11_spoil_19 : decode cX11_spoil 19 = .ok (.getfield 14, 3) := by decide +kernel
theorem dX11_spoil_22 : decode cX11_spoil 22 = .ok (.getfield 92, 3) := by decide +kernel
theorem dX11_spoil_25 : decode cX11_spoil 25 = .ok (.iload_n 1, 1) := by decide +kernel
theorem dX11_spoil_26 : decode cX11_spoil 26 = .ok (.dup2, 1) := by decide +kernel
theorem dX11_spoil_27 : decode cX11_spoil 27 = .ok (.baload, 1) := by decide +kernel
theorem dX11_spoil_28 : decode cX11_spoil 28 = .ok (.iload_n 2, 1) := by decide +kernel
theorem dX11_spoil_29 : decode cX11_spoil 29 = .ok (.i2b, 1) := by decide +kernel
theorem dX11_spoil_30 : decode cX11_spoil 30 = .ok (.ixor, 1) := by decide +kernel
theorem dX11_spoil_31 : decode cX11_spoil 31 = .ok (.i2b, 1) := by decide +kernel
theorem dX11_spoil_32 : decode cX11_spoil 32 = .ok (.bastore, 1) := by decide +kernel
theorem dX11_spoil_33 : decode cX11_spoil 33 = .ok (.aload_n 0, 1) := by decide +kernel
theorem dX11_spoil_34 : decode cX11_spoil 34 = .ok (.getfield 14, 3) := by decide +kernel
theorem dX11_spoil_37 : decode cX11_spoil 37 = .ok (.iload_n 1, 1) := by decide +kernel
theorem dX11_spoil_38 : decode cX11_spoil 38 = .ok (.invokevirtual 96, 3) := by decide +kernel
theorem dX11_spoil_41 : decode cX11_spoil 41 = .ok (.ireturn, 1) := by decide +kernel
theorem dX11_cut_0 : decode cX11_cut 0 = .ok (.iload_n 1, 1) := by decide +kernel
theorem dX11_cut_1 : decode cX11_cut 1 = .ok (.ifCond .lt 14, 3) := by decide +kernel
theorem dX11_cut_4 : decode cX11_cut 4 = .ok (.iload_n 1, 1) := by decide +kernel
theorem dX11_cut_5 : decode cX11_cut 5 = .ok (.aload_n 0, 1) := by decide +kernel
theorem dX11_cut_6 : decode cX11_cut 6 = .ok (.getfield 14, 3) := by decide +kernel
theorem dX11_cut_9 : decode cX11_cut 9 = .ok (.getfield 81, 3) := by decide +kernel
theorem dX11_cut_12 : decode cX11_cut 12 = .ok (.if_icmp .le 6, 3) := by decide +kernel
theorem dX11_cut_15 : decode cX11_cut 15 = .ok (.bipush (-2), 2) := by decide +kernel
theorem dX11_cut_17 : decode cX11_cut 17 = .ok (.ireturn, 1) := by decide +kernel
theorem dX11_cut_18 : decode cX11_cut 18 = .ok (.aload_n 0, 1) := by decide +kernel
theorem dX11_cut_19 : decode cX11_cut 19 = .ok (.getfield 14, 3) := by decide +kernel
theorem dX11_cut_22 : decode cX11_cut 22 = .ok (.getfield 81, 3) := by decide +kernel
theorem dX11_cut_25 : decode cX11_cut 25 = .ok (.istore_n 2, 1) := by decide +kernel
theorem dX11_cut_26 : decode cX11_cut 26 = .ok (.aload_n 0, 1) := by decide +kernel
theorem dX11_cut_27 : decode cX11_cut 27 = .ok (.getfield 14, 3) := by decide +kernel
theorem dX11_cut_30 : decode cX11_cut 30 = .ok (.iload_n 1, 1) := by decide +kernel
theorem dX11_cut_31 : decode cX11_cut 31 = .ok (.putfield 81, 3) := by decide +kernel
theorem dX11_cut_34 : decode cX11_cut 34 = .ok (.iload_n 2, 1) := by decide +kernel
theorem dX11_cut_35 : decode cX11_cut 35 = .ok (.ireturn, 1) := by decide +kernel
theorem dX11_size_0 : decode cX11_size 0 = .ok (.aload_n 0, 1) := by decide +kernel
theorem dX11_size_1 : decode cX11_size 1 = .ok (.getfield 18, 3) := by decide +kernel
theorem dX11_size_4 : decode cX11_size 4 = .ok (.getfield 81, 3) := by decide +kernel
theorem dX11_size_7 : decode cX11_size 7 = .ok (.ireturn, 1) := by decide +kernel
theorem dX11_out_0 : decode cX11_out 0 = .ok (.aload_n 0, 1) := by decide +kernel
theorem dX11_out_1 : decode cX11_out 1 = .ok (.getfield 18, 3) := by decide +kernel
theorem dX11_out_4 : decode cX11_out 4 = .ok (.iload_n 1, 1) := by decide +kernel
theorem dX11_out_5 : decode cX11_out 5 = .ok (.invokevirtual 96, 3) := by decide +kernel
theorem dX11_out_8 : decode cX11_out 8 = .ok (.ireturn, 1) := by decide +kernel
theorem dX11_authority_0 : decode cX11_authority 0 = .ok (.aload_n 0, 1) := by decide +kernel
theorem dX11_authority_1 : decode cX11_authority 1 = .ok (.iload_n 1, 1) := by decide +kernel
theorem dX11_authority_2 : decode cX11_authority 2 = .ok (.invokevirtual 100, 3) := by decide +kernel
theorem dX11_authority_5 : decode cX11_authority 5 = .ok (.istore_n 2, 1) := by decide +kernel
theorem dX11_authority_6 : decode cX11_authority 6 = .ok (.aload_n 0, 1) := by decide +kernel
theorem dX11_authority_7 : decode cX11_authority 7 = .ok (.getfield 14, 3) := by decide +kernel
theorem dX11_authority_10 : decode cX11_authority 10 = .ok (.invokevirtual 103, 3) := by decide +kernel
theorem dX11_authority_13 : decode cX11_authority 13 = .ok (.iload_n 2, 1) := by decide +kernel
theorem dX11_authority_14 : decode cX11_authority 14 = .ok (.ireturn, 1) := by decide +kernel
theorem dX11_issue_0 : decode cX11_issue 0 = .ok (.aload_n 0, 1) := by decide +kernel
theorem dX11_issue_1 : decode cX11_issue 1 = .ok (.iload_n 1, 1) := by decide +kernel
theorem dX11_issue_2 : decode cX11_issue 2 = .ok (.invokevirtual 106, 3) := by decide +kernel
theorem dX11_issue_5 : decode cX11_issue 5 = .ok (.astore_n 3, 1) := by decide +kernel
theorem dX11_issue_6 : decode cX11_issue 6 = .ok (.aload_n 3, 1) := by decide +kernel
theorem dX11_issue_7 : decode cX11_issue 7 = .ok (.ifnull 7, 3) := by decide +kernel
theorem dX11_issue_10 : decode cX11_issue 10 = .ok (.iload_n 2, 1) := by decide +kernel
theorem dX11_issue_11 : decode cX11_issue 11 = .ok (.ifCond .ge 6, 3) := by decide +kernel
theorem dX11_issue_14 : decode cX11_issue 14 = .ok (.bipush (-2), 2) := by decide +kernel
theorem dX11_issue_16 : decode cX11_issue 16 = .ok (.ireturn, 1) := by decide +kernel
theorem dX11_issue_17 : decode cX11_issue 17 = .ok (.aload_n 3, 1) := by decide +kernel
theorem dX11_issue_18 : decode cX11_issue 18 = .ok (.iload_n 2, 1) := by decide +kernel
theorem dX11_issue_19 : decode cX11_issue 19 = .ok (.invokevirtual 110, 3) := by decide +kernel
theorem dX11_issue_22 : decode cX11_issue 22 = .ok (.iconst (-1), 1) := by decide +kernel
theorem dX11_issue_23 : decode cX11_issue 23 = .ok (.if_icmp .ne 12, 3) := by decide +kernel
theorem dX11_issue_26 : decode cX11_issue 26 = .ok (.aload_n 3, 1) := by decide +kernel
theorem dX11_issue_27 : decode cX11_issue 27 = .ok (.getfield 113, 3) := by decide +kernel
theorem dX11_issue_30 : decode cX11_issue 30 = .ok (.bipush 32, 2) := by decide +kernel
theorem dX11_issue_32 : decode cX11_issue 32 = .ok (.if_icmp .lt 6, 3) := by decide +kernel
theorem dX11_issue_35 : decode cX11_issue 35 = .ok (.bipush (-3), 2) := by decide +kernel
theorem dX11_issue_37 : decode cX11_issue 37 = .ok (.ireturn, 1) := by decide +kernel
theorem dX11_issue_38 : decode cX11_issue 38 = .ok (.aload_n 3, 1) := by decide +kernel
theorem dX11_issue_39 : decode cX11_issue 39 = .ok (.iload_n 2, 1) := by decide +kernel
theorem dX11_issue_40 : decode cX11_issue 40 = .ok (.invokevirtual 116, 3) := by decide +kernel
theorem dX11_issue_43 : decode cX11_issue 43 = .ok (.aload_n 3, 1) := by decide +kernel
theorem dX11_issue_44 : decode cX11_issue 44 = .ok (.getfield 113, 3) := by decide +kernel
theorem dX11_issue_47 : decode cX11_issue 47 = .ok (.ireturn, 1) := by decide +kernel
theorem dX11_takeBack_0 : decode cX11_takeBack 0 = .ok (.aload_n 0, 1) := by decide +kernel
theorem dX11_takeBack_1 : decode cX11_takeBack 1 = .ok (.iload_n 1, 1) := by decide +kernel
theorem dX11_takeBack_2 : decode cX11_takeBack 2 = .ok (.invokevirtual 106, 3) := by decide +kernel
theorem dX11_takeBack_5 : decode cX11_takeBack 5 = .ok (.astore 6, 2) := by decide +kernel
theorem dX11_takeBack_7 : decode cX11_takeBack 7 = .ok (.aload 6, 2) := by decide +kernel
theorem dX11_takeBack_9 : decode cX11_takeBack 9 = .ok (.ifnull 26, 3) := by decide +kernel
theorem dX11_takeBack_12 : decode cX11_takeBack 12 = .ok (.iload_n 2, 1) := by decide +kernel
theorem dX11_takeBack_13 : decode cX11_takeBack 13 = .ok (.ifCond .lt 22, 3) := by decide +kernel
theorem dX11_takeBack_16 : decode cX11_takeBack 16 = .ok (.lload_n 3, 1) := by decide +kernel
theorem dX11_takeBack_17 : decode cX11_takeBack 17 = .ok (.invokestatic 119, 3) := by decide +kernel
theorem dX11_takeBack_20 : decode cX11_takeBack 20 = .ok (.ifCond .eq 15, 3) := by decide +kernel
theorem dX11_takeBack_23 : decode cX11_takeBack 23 = .ok (.iload 5, 2) := by decide +kernel
theorem dX11_takeBack_25 : decode cX11_takeBack 25 = .ok (.ifCond .lt 10, 3) := by decide +kernel
theorem dX11_takeBack_28 : decode cX11_takeBack 28 = .ok (.iload 5, 2) := by decide +kernel
theorem dX11_takeBack_30 : decode cX11_takeBack 30 = .ok (.bipush 10, 2) := by decide +kernel
theorem dX11_takeBack_32 : decode cX11_takeBack 32 = .ok (.if_icmp .le 6, 3) := by decide +kernel
theorem dX11_takeBack_35 : decode cX11_takeBack 35 = .ok (.bipush (-2), 2) := by decide +kernel
theorem dX11_takeBack_37 : decode cX11_takeBack 37 = .ok (.ireturn, 1) := by decide +kernel
theorem dX11_takeBack_38 : decode cX11_takeBack 38 = .ok (.aload 6, 2) := by decide +kernel
theorem dX11_takeBack_40 : decode cX11_takeBack 40 = .ok (.iload_n 2, 1) := by decide +kernel
theorem dX11_takeBack_41 : decode cX11_takeBack 41 = .ok (.invokevirtual 110, 3) := by decide +kernel
theorem dX11_takeBack_44 : decode cX11_takeBack 44 = .ok (.istore 7, 2) := by decide +kernel
theorem dX11_takeBack_46 : decode cX11_takeBack 46 = .ok (.iload 7, 2) := by decide +kernel
theorem dX11_takeBack_48 : decode cX11_takeBack 48 = .ok (.iconst (-1), 1) := by decide +kernel
theorem dX11_takeBack_49 : decode cX11_takeBack 49 = .ok (.if_icmp .ne 5, 3) := by decide +kernel
theorem dX11_takeBack_52 : decode cX11_takeBack 52 = .ok (.iconst (-1), 1) := by decide +kernel
theorem dX11_takeBack_53 : decode cX11_takeBack 53 = .ok (.ireturn, 1) := by decide +kernel
theorem dX11_takeBack_54 : decode cX11_takeBack 54 = .ok (.aload 6, 2) := by decide +kernel
theorem dX11_takeBack_56 : decode cX11_takeBack 56 = .ok (.getfield 125, 3) := by decide +kernel
theorem dX11_takeBack_59 : decode cX11_takeBack 59 = .ok (.iload 7, 2) := by decide +kernel
theorem dX11_takeBack_61 : decode cX11_takeBack 61 = .ok (.laload, 1) := by decide +kernel
theorem dX11_takeBack_62 : decode cX11_takeBack 62 = .ok (.ldc2_w 129, 3) := by decide +kernel
theorem dX11_takeBack_65 : decode cX11_takeBack 65 = .ok (.lcmp, 1) := by decide +kernel
theorem dX11_takeBack_66 : decode cX11_takeBack 66 = .ok (.ifCond .eq 6, 3) := by decide +kernel
theorem dX11_takeBack_69 : decode cX11_takeBack 69 = .ok (.bipush (-3), 2) := by decide +kernel
theorem dX11_takeBack_71 : decode cX11_takeBack 71 = .ok (.ireturn, 1) := by decide +kernel
theorem dX11_takeBack_72 : decode cX11_takeBack 72 = .ok (.aload 6, 2) := by decide +kernel
theorem dX11_takeBack_74 : decode cX11_takeBack 74 = .ok (.getfield 125, 3) := by decide +kernel
theorem dX11_takeBack_77 : decode cX11_takeBack 77 = .ok (.iload 7, 2) := by decide +kernel
theorem dX11_takeBack_79 : decode cX11_takeBack 79 = .ok (.lload_n 3, 1) := by decide +kernel
theorem dX11_takeBack_80 : decode cX11_takeBack 80 = .ok (.lastore, 1) := by decide +kernel
theorem dX11_takeBack_81 : decode cX11_takeBack 81 = .ok (.aload 6, 2) := by decide +kernel
theorem dX11_takeBack_83 : decode cX11_takeBack 83 = .ok (.getfield 131, 3) := by decide +kernel
theorem dX11_takeBack_86 : decode cX11_takeBack 86 = .ok (.iload 7, 2) := by decide +kernel
theorem dX11_takeBack_88 : decode cX11_takeBack 88 = .ok (.iload 5, 2) := by decide +kernel
theorem dX11_takeBack_90 : decode cX11_takeBack 90 = .ok (.iastore, 1) := by decide +kernel
theorem dX11_takeBack_91 : decode cX11_takeBack 91 = .ok (.aload 6, 2) := by decide +kernel
theorem dX11_takeBack_93 : decode cX11_takeBack 93 = .ok (.dup, 1) := by decide +kernel
theorem dX11_takeBack_94 : decode cX11_takeBack 94 = .ok (.getfield 135, 3) := by decide +kernel
theorem dX11_takeBack_97 : decode cX11_takeBack 97 = .ok (.iconst 1, 1) := by decide +kernel
theorem dX11_takeBack_98 : decode cX11_takeBack 98 = .ok (.iadd, 1) := by decide +kernel
theorem dX11_takeBack_99 : decode cX11_takeBack 99 = .ok (.putfield 135, 3) := by decide +kernel
theorem dX11_takeBack_102 : decode cX11_takeBack 102 = .ok (.aload 6, 2) := by decide +kernel
theorem dX11_takeBack_104 : decode cX11_takeBack 104 = .ok (.getfield 135, 3) := by decide +kernel
theorem dX11_takeBack_107 : decode cX11_takeBack 107 = .ok (.ireturn, 1) := by decide +kernel
theorem dX11_lift_0 : decode cX11_lift 0 = .ok (.aload_n 0, 1) := by decide +kernel
theorem dX11_lift_1 : decode cX11_lift 1 = .ok (.iload_n 1, 1) := by decide +kernel
theorem dX11_lift_2 : decode cX11_lift 2 = .ok (.invokevirtual 106, 3) := by decide +kernel
theorem dX11_lift_5 : decode cX11_lift 5 = .ok (.astore_n 3, 1) := by decide +kernel
theorem dX11_lift_6 : decode cX11_lift 6 = .ok (.aload_n 3, 1) := by decide +kernel
theorem dX11_lift_7 : decode cX11_lift 7 = .ok (.ifnonnull 5, 3) := by decide +kernel
theorem dX11_lift_10 : decode cX11_lift 10 = .ok (.iconst 0, 1) := by decide +kernel
theorem dX11_lift_11 : decode cX11_lift 11 = .ok (.ireturn, 1) := by decide +kernel
theorem dX11_lift_12 : decode cX11_lift 12 = .ok (.aload_n 3, 1) := by decide +kernel
theorem dX11_lift_13 : decode cX11_lift 13 = .ok (.iload_n 2, 1) := by decide +kernel
theorem dX11_lift_14 : decode cX11_lift 14 = .ok (.invokevirtual 110, 3) := by decide +kernel
theorem dX11_lift_17 : decode cX11_lift 17 = .ok (.istore 4, 2) := by decide +kernel
theorem dX11_lift_19 : decode cX11_lift 19 = .ok (.iload 4, 2) := by decide +kernel
theorem dX11_lift_21 : decode cX11_lift 21 = .ok (.iconst (-1), 1) := by decide +kernel
theorem dX11_lift_22 : decode cX11_lift 22 = .ok (.if_icmp .eq 29, 3) := by decide +kernel
theorem dX11_lift_25 : decode cX11_lift 25 = .ok (.aload_n 3, 1) := by decide +kernel
theorem dX11_lift_26 : decode cX11_lift 26 = .ok (.getfield 125, 3) := by decide +kernel
theorem dX11_lift_29 : decode cX11_lift 29 = .ok (.iload 4, 2) := by decide +kernel
theorem dX11_lift_31 : decode cX11_lift 31 = .ok (.laload, 1) := by decide +kernel
theorem dX11_lift_32 : decode cX11_lift 32 = .ok (.ldc2_w 129, 3) := by decide +kernel
theorem dX11_lift_35 : decode cX11_lift 35 = .ok (.lcmp, 1) := by decide +kernel
theorem dX11_lift_36 : decode cX11_lift 36 = .ok (.ifCond .eq 15, 3) := by decide +kernel
theorem dX11_lift_39 : decode cX11_lift 39 = .ok (.aload_n 3, 1) := by decide +kernel
theorem dX11_lift_40 : decode cX11_lift 40 = .ok (.getfield 131, 3) := by decide +kernel
theorem dX11_lift_43 : decode cX11_lift 43 = .ok (.iload 4, 2) := by decide +kernel
theorem dX11_lift_45 : decode cX11_lift 45 = .ok (.iaload, 1) := by decide +kernel
theorem dX11_lift_46 : decode cX11_lift 46 = .ok (.bipush 6, 2) := by decide +kernel
theorem dX11_lift_48 : decode cX11_lift 48 = .ok (.if_icmp .eq 5, 3) := by decide +kernel
theorem dX11_lift_51 : decode cX11_lift 51 = .ok (.iconst 0, 1) := by decide +kernel
theorem dX11_lift_52 : decode cX11_lift 52 = .ok (.ireturn, 1) := by decide +kernel
theorem dX11_lift_53 : decode cX11_lift 53 = .ok (.aload_n 3, 1) := by decide +kernel
theorem dX11_lift_54 : decode cX11_lift 54 = .ok (.getfield 125, 3) := by decide +kernel
theorem dX11_lift_57 : decode cX11_lift 57 = .ok (.iload 4, 2) := by decide +kernel
theorem dX11_lift_59 : decode cX11_lift 59 = .ok (.ldc2_w 129, 3) := by decide +kernel
theorem dX11_lift_62 : decode cX11_lift 62 = .ok (.lastore, 1) := by decide +kernel
theorem dX11_lift_63 : decode cX11_lift 63 = .ok (.aload_n 3, 1) := by decide +kernel
theorem dX11_lift_64 : decode cX11_lift 64 = .ok (.dup, 1) := by decide +kernel
theorem dX11_lift_65 : decode cX11_lift 65 = .ok (.getfield 135, 3) := by decide +kernel
theorem dX11_lift_68 : decode cX11_lift 68 = .ok (.iconst 1, 1) := by decide +kernel
theorem dX11_lift_69 : decode cX11_lift 69 = .ok (.isub, 1) := by decide +kernel
theorem dX11_lift_70 : decode cX11_lift 70 = .ok (.putfield 135, 3) := by decide +kernel
theorem dX11_lift_73 : decode cX11_lift 73 = .ok (.iconst 1, 1) := by decide +kernel
theorem dX11_lift_74 : decode cX11_lift 74 = .ok (.ireturn, 1) := by decide +kernel
theorem dX11_signer_0 : decode cX11_signer 0 = .ok (.bipush (-2), 2) := by decide +kernel
theorem dX11_signer_2 : decode cX11_signer 2 = .ok (.istore 9, 2) := by decide +kernel
theorem dX11_signer_4 : decode cX11_signer 4 = .ok (.aload_n 0, 1) := by decide +kernel
theorem dX11_signer_5 : decode cX11_signer 5 = .ok (.iload_n 1, 1) := by decide +kernel
theorem dX11_signer_6 : decode cX11_signer 6 = .ok (.invokevirtual 106, 3) := by decide +kernel
theorem dX11_signer_9 : decode cX11_signer 9 = .ok (.astore 10, 2) := by decide +kernel
theorem dX11_signer_11 : decode cX11_signer 11 = .ok (.iload_n 3, 1) := by decide +kernel
theorem dX11_signer_12 : decode cX11_signer 12 = .ok (.ifCond .lt 34, 3) := by decide +kernel
theorem dX11_signer_15 : decode cX11_signer 15 = .ok (.lload 4, 2) := by decide +kernel
theorem dX11_signer_17 : decode cX11_signer 17 = .ok (.invokestatic 119, 3) := by decide +kernel
theorem dX11_signer_20 : decode cX11_signer 20 = .ok (.ifCond .eq 26, 3) := by decide +kernel
theorem dX11_signer_23 : decode cX11_signer 23 = .ok (.lload 6, 2) := by decide +kernel
theorem dX11_signer_25 : decode cX11_signer 25 = .ok (.invokestatic 119, 3) := by decide +kernel
theorem dX11_signer_28 : decode cX11_signer 28 = .ok (.ifCond .eq 18, 3) := by decide +kernel
theorem dX11_signer_31 : decode cX11_signer 31 = .ok (.iload 8, 2) := by decide +kernel
theorem dX11_signer_33 : decode cX11_signer 33 = .ok (.ifCond .lt 13, 3) := by decide +kernel
theorem dX11_signer_36 : decode cX11_signer 36 = .ok (.iload 8, 2) := by decide +kernel
theorem dX11_signer_38 : decode cX11_signer 38 = .ok (.iconst 3, 1) := by decide +kernel
theorem dX11_signer_39 : decode cX11_signer 39 = .ok (.if_icmp .gt 7, 3) := by decide +kernel
theorem dX11_signer_42 : decode cX11_signer 42 = .ok (.iconst 1, 1) := by decide +kernel
theorem dX11_signer_43 : decode cX11_signer 43 = .ok (.goto 4, 3) := by decide +kernel
theorem dX11_signer_46 : decode cX11_signer 46 = .ok (.iconst 0, 1) := by decide +kernel
theorem dX11_signer_47 : decode cX11_signer 47 = .ok (.istore 11, 2) := by decide +kernel
theorem dX11_signer_49 : decode cX11_signer 49 = .ok (.aload 10, 2) := by decide +kernel
theorem dX11_signer_51 : decode cX11_signer 51 = .ok (.ifnull 121, 3) := by decide +kernel
theorem dX11_signer_54 : decode cX11_signer 54 = .ok (.iload 11, 2) := by decide +kernel
theorem dX11_signer_56 : decode cX11_signer 56 = .ok (.ifCond .eq 116, 3) := by decide +kernel
theorem dX11_signer_59 : decode cX11_signer 59 = .ok (.aload_n 0, 1) := by decide +kernel
theorem dX11_signer_60 : decode cX11_signer 60 = .ok (.getfield 14, 3) := by decide +kernel
theorem dX11_signer_63 : decode cX11_signer 63 = .ok (.invokestatic 138, 3) := by decide +kernel
theorem dX11_signer_66 : decode cX11_signer 66 = .ok (.ifCond .eq 106, 3) := by decide +kernel
theorem dX11_signer_69 : decode cX11_signer 69 = .ok (.iload_n 2, 1) := by decide +kernel
theorem dX11_signer_70 : decode cX11_signer 70 = .ok (.invokestatic 142, 3) := by decide +kernel
theorem dX11_signer_73 : decode cX11_signer 73 = .ok (.ifCond .eq 99, 3) := by decide +kernel
theorem dX11_signer_76 : decode cX11_signer 76 = .ok (.bipush (-3), 2) := by decide +kernel
theorem dX11_signer_78 : decode cX11_signer 78 = .ok (.istore 9, 2) := by decide +kernel
theorem dX11_signer_80 : decode cX11_signer 80 = .ok (.aload_n 0, 1) := by decide +kernel
theorem dX11_signer_81 : decode cX11_signer 81 = .ok (.getfield 148, 3) := by decide +kernel
theorem dX11_signer_84 : decode cX11_signer 84 = .ok (.bipush 8, 2) := by decide +kernel
theorem dX11_signer_86 : decode cX11_signer 86 = .ok (.if_icmp .ge 86, 3) := by decide +kernel
theorem dX11_signer_89 : decode cX11_signer 89 = .ok (.aload 10, 2) := by decide +kernel
theorem dX11_signer_91 : decode cX11_signer 91 = .ok (.iload_n 3, 1) := by decide +kernel
theorem dX11_signer_92 : decode cX11_signer 92 = .ok (.invokevirtual 151, 3) := by decide +kernel
theorem dX11_signer_95 : decode cX11_signer 95 = .ok (.ifCond .eq 77, 3) := by decide +kernel
theorem dX11_signer_98 : decode cX11_signer 98 = .ok (.aload_n 0, 1) := by decide +kernel
theorem dX11_signer_99 : decode cX11_signer 99 = .ok (.getfield 148, 3) := by decide +kernel
theorem dX11_signer_102 : decode cX11_signer 102 = .ok (.istore 9, 2) := by decide +kernel
theorem dX11_signer_104 : decode cX11_signer 104 = .ok (.aload_n 0, 1) := by decide +kernel
theorem dX11_signer_105 : decode cX11_signer 105 = .ok (.dup, 1) := by decide +kernel
theorem dX11_signer_106 : decode cX11_signer 106 = .ok (.getfield 148, 3) := by decide +kernel
theorem dX11_signer_109 : decode cX11_signer 109 = .ok (.iconst 1, 1) := by decide +kernel
theorem dX11_signer_110 : decode cX11_signer 110 = .ok (.iadd, 1) := by decide +kernel
theorem dX11_signer_111 : decode cX11_signer 111 = .ok (.putfield 148, 3) := by decide +kernel
theorem dX11_signer_114 : decode cX11_signer 114 = .ok (.aload_n 0, 1) := by decide +kernel
theorem dX11_signer_115 : decode cX11_signer 115 = .ok (.getfield 32, 3) := by decide +kernel
theorem dX11_signer_118 : decode cX11_signer 118 = .ok (.iload 9, 2) := by decide +kernel
theorem dX11_signer_120 : decode cX11_signer 120 = .ok (.aaload, 1) := by decide +kernel
theorem dX11_signer_121 : decode cX11_signer 121 = .ok (.iload_n 1, 1) := by decide +kernel
theorem dX11_signer_122 : decode cX11_signer 122 = .ok (.iload_n 2, 1) := by decide +kernel
theorem dX11_signer_123 : decode cX11_signer 123 = .ok (.invokevirtual 154, 3) := by decide +kernel
theorem dX11_signer_126 : decode cX11_signer 126 = .ok (.aload_n 0, 1) := by decide +kernel
theorem dX11_signer_127 : decode cX11_signer 127 = .ok (.getfield 32, 3) := by decide +kernel
theorem dX11_signer_130 : decode cX11_signer 130 = .ok (.iload 9, 2) := by decide +kernel
theorem dX11_signer_132 : decode cX11_signer 132 = .ok (.aaload, 1) := by decide +kernel
theorem dX11_signer_133 : decode cX11_signer 133 = .ok (.aload 10, 2) := by decide +kernel
theorem dX11_signer_135 : decode cX11_signer 135 = .ok (.aload_n 0, 1) := by decide +kernel
theorem dX11_signer_136 : decode cX11_signer 136 = .ok (.getfield 14, 3) := by decide +kernel
theorem dX11_signer_139 : decode cX11_signer 139 = .ok (.iload_n 3, 1) := by decide +kernel
theorem dX11_signer_140 : decode cX11_signer 140 = .ok (.lload 4, 2) := by decide +kernel
theorem dX11_signer_142 : decode cX11_signer 142 = .ok (.lload 6, 2) := by decide +kernel
theorem dX11_signer_144 : decode cX11_signer 144 = .ok (.iload 8, 2) := by decide +kernel
theorem dX11_signer_146 : decode cX11_signer 146 = .ok (.invokevirtual 158, 3) := by decide +kernel
theorem dX11_signer_149 : decode cX11_signer 149 = .ok (.aload 10, 2) := by decide +kernel
theorem dX11_signer_151 : decode cX11_signer 151 = .ok (.iload_n 3, 1) := by decide +kernel
theorem dX11_signer_152 : decode cX11_signer 152 = .ok (.invokevirtual 116, 3) := by decide +kernel
theorem dX11_signer_155 : decode cX11_signer 155 = .ok (.aload_n 0, 1) := by decide +kernel
theorem dX11_signer_156 : decode cX11_signer 156 = .ok (.getfield 18, 3) := by decide +kernel
theorem dX11_signer_159 : decode cX11_signer 159 = .ok (.aload_n 0, 1) := by decide +kernel
theorem dX11_signer_160 : decode cX11_signer 160 = .ok (.getfield 32, 3) := by decide +kernel
theorem dX11_signer_163 : decode cX11_signer 163 = .ok (.iload 9, 2) := by decide +kernel
theorem dX11_signer_165 : decode cX11_signer 165 = .ok (.aaload, 1) := by decide +kernel
theorem dX11_signer_166 : decode cX11_signer 166 = .ok (.getfield 162, 3) := by decide +kernel
theorem dX11_signer_169 : decode cX11_signer 169 = .ok (.invokevirtual 88, 3) := by decide +kernel
theorem dX11_signer_172 : decode cX11_signer 172 = .ok (.aload_n 0, 1) := by decide +kernel
theorem dX11_signer_173 : decode cX11_signer 173 = .ok (.getfield 14, 3) := by decide +kernel
theorem dX11_signer_176 : decode cX11_signer 176 = .ok (.invokevirtual 103, 3) := by decide +kernel
theorem dX11_signer_179 : decode cX11_signer 179 = .ok (.iload 9, 2) := by decide +kernel
theorem dX11_signer_181 : decode cX11_signer 181 = .ok (.ireturn, 1) := by decide +kernel
theorem dX11_cert_0 : decode cX11_cert 0 = .ok (.aload_n 0, 1) := by decide +kernel
theorem dX11_cert_1 : decode cX11_cert 1 = .ok (.iload_n 1, 1) := by decide +kernel
theorem dX11_cert_2 : decode cX11_cert 2 = .ok (.invokevirtual 165, 3) := by decide +kernel
theorem dX11_cert_5 : decode cX11_cert 5 = .ok (.astore_n 2, 1) := by decide +kernel
theorem dX11_cert_6 : decode cX11_cert 6 = .ok (.aload_n 2, 1) := by decide +kernel
theorem dX11_cert_7 : decode cX11_cert 7 = .ok (.ifnonnull 6, 3) := by decide +kernel
theorem dX11_cert_10 : decode cX11_cert 10 = .ok (.bipush (-2), 2) := by decide +kernel
theorem dX11_cert_12 : decode cX11_cert 12 = .ok (.ireturn, 1) := by decide +kernel
theorem dX11_cert_13 : decode cX11_cert 13 = .ok (.aload_n 0, 1) := by decide +kernel
theorem dX11_cert_14 : decode cX11_cert 14 = .ok (.getfield 18, 3) := by decide +kernel
theorem dX11_cert_17 : decode cX11_cert 17 = .ok (.aload_n 2, 1) := by decide +kernel
theorem dX11_cert_18 : decode cX11_cert 18 = .ok (.getfield 162, 3) := by decide +kernel
theorem dX11_cert_21 : decode cX11_cert 21 = .ok (.invokevirtual 88, 3) := by decide +kernel
theorem dX11_cert_24 : decode cX11_cert 24 = .ok (.aload_n 0, 1) := by decide +kernel
theorem dX11_cert_25 : decode cX11_cert 25 = .ok (.getfield 18, 3) := by decide +kernel
theorem dX11_cert_28 : decode cX11_cert 28 = .ok (.getfield 81, 3) := by decide +kernel
theorem dX11_cert_31 : decode cX11_cert 31 = .ok (.ireturn, 1) := by decide +kernel
theorem dX11_want_0 : decode cX11_want 0 = .ok (.aload_n 0, 1) := by decide +kernel
theorem dX11_want_1 : decode cX11_want 1 = .ok (.iload_n 1, 1) := by decide +kernel
theorem dX11_want_2 : decode cX11_want 2 = .ok (.invokevirtual 106, 3) := by decide +kernel
theorem dX11_want_5 : decode cX11_want 5 = .ok (.astore_n 3, 1) := by decide +kernel
theorem dX11_want_6 : decode cX11_want 6 = .ok (.aload_n 3, 1) := by decide +kernel
theorem dX11_want_7 : decode cX11_want 7 = .ok (.ifnull 7, 3) := by decide +kernel
theorem dX11_want_10 : decode cX11_want 10 = .ok (.iload_n 2, 1) := by decide +kernel
theorem dX11_want_11 : decode cX11_want 11 = .ok (.ifCond .ge 6, 3) := by decide +kernel
theorem dX11_want_14 : decode cX11_want 14 = .ok (.bipush (-2), 2) := by decide +kernel
theorem dX11_want_16 : decode cX11_want 16 = .ok (.ireturn, 1) := by decide +kernel
theorem dX11_want_17 : decode cX11_want 17 = .ok (.aload_n 0, 1) := by decide +kernel
theorem dX11_want_18 : decode cX11_want 18 = .ok (.getfield 50, 3) := by decide +kernel
theorem dX11_want_21 : decode cX11_want 21 = .ok (.getfield 169, 3) := by decide +kernel
theorem dX11_want_24 : decode cX11_want 24 = .ok (.bipush 8, 2) := by decide +kernel
theorem dX11_want_26 : decode cX11_want 26 = .ok (.if_icmp .lt 6, 3) := by decide +kernel
theorem dX11_want_29 : decode cX11_want 29 = .ok (.bipush (-3), 2) := by decide +kernel
theorem dX11_want_31 : decode cX11_want 31 = .ok (.ireturn, 1) := by decide +kernel
theorem dX11_want_32 : decode cX11_want 32 = .ok (.aload_n 0, 1) := by decide +kernel
theorem dX11_want_33 : decode cX11_want 33 = .ok (.getfield 50, 3) := by decide +kernel
theorem dX11_want_36 : decode cX11_want 36 = .ok (.aload_n 3, 1) := by decide +kernel
theorem dX11_want_37 : decode cX11_want 37 = .ok (.getfield 172, 3) := by decide +kernel
theorem dX11_want_40 : decode cX11_want 40 = .ok (.aload_n 3, 1) := by decide +kernel
theorem dX11_want_41 : decode cX11_want 41 = .ok (.getfield 176, 3) := by decide +kernel
theorem dX11_want_44 : decode cX11_want 44 = .ok (.iload_n 2, 1) := by decide +kernel
theorem dX11_want_45 : decode cX11_want 45 = .ok (.invokevirtual 179, 3) := by decide +kernel
theorem dX11_want_48 : decode cX11_want 48 = .ok (.aload_n 0, 1) := by decide +kernel
theorem dX11_want_49 : decode cX11_want 49 = .ok (.getfield 50, 3) := by decide +kernel
theorem dX11_want_52 : decode cX11_want 52 = .ok (.getfield 169, 3) := by decide +kernel
theorem dX11_want_55 : decode cX11_want 55 = .ok (.ireturn, 1) := by decide +kernel
theorem dX11_nonce_0 : decode cX11_nonce 0 = .ok (.iload_n 3, 1) := by decide +kernel
theorem dX11_nonce_1 : decode cX11_nonce 1 = .ok (.ifCond .lt 9, 3) := by decide +kernel
theorem dX11_nonce_4 : decode cX11_nonce 4 = .ok (.iload_n 3, 1) := by decide +kernel
theorem dX11_nonce_5 : decode cX11_nonce 5 = .ok (.bipush 8, 2) := by decide +kernel
theorem dX11_nonce_7 : decode cX11_nonce 7 = .ok (.if_icmp .le 6, 3) := by decide +kernel
theorem dX11_nonce_10 : decode cX11_nonce 10 = .ok (.bipush (-2), 2) := by decide +kernel
theorem dX11_nonce_12 : decode cX11_nonce 12 = .ok (.ireturn, 1) := by decide +kernel
theorem dX11_nonce_13 : decode cX11_nonce 13 = .ok (.aload_n 0, 1) := by decide +kernel
theorem dX11_nonce_14 : decode cX11_nonce 14 = .ok (.getfield 21, 3) := by decide +kernel
theorem dX11_nonce_17 : decode cX11_nonce 17 = .ok (.invokevirtual 103, 3) := by decide +kernel
theorem dX11_nonce_20 : decode cX11_nonce 20 = .ok (.aload_n 0, 1) := by decide +kernel
theorem dX11_nonce_21 : decode cX11_nonce 21 = .ok (.getfield 21, 3) := by decide +kernel
theorem dX11_nonce_24 : decode cX11_nonce 24 = .ok (.lload_n 1, 1) := by decide +kernel
theorem dX11_nonce_25 : decode cX11_nonce 25 = .ok (.iload_n 3, 1) := by decide +kernel
theorem dX11_nonce_26 : decode cX11_nonce 26 = .ok (.invokevirtual 84, 3) := by decide +kernel
theorem dX11_nonce_29 : decode cX11_nonce 29 = .ok (.iload_n 3, 1) := by decide +kernel
theorem dX11_nonce_30 : decode cX11_nonce 30 = .ok (.ireturn, 1) := by decide +kernel
theorem dX11_ask_0 : decode cX11_ask 0 = .ok (.aload_n 0, 1) := by decide +kernel
theorem dX11_ask_1 : decode cX11_ask 1 = .ok (.getfield 50, 3) := by decide +kernel
theorem dX11_ask_4 : decode cX11_ask 4 = .ok (.getfield 169, 3) := by decide +kernel
theorem dX11_ask_7 : decode cX11_ask 7 = .ok (.ifCond .ne 5, 3) := by decide +kernel
theorem dX11_ask_10 : decode cX11_ask 10 = .ok (.iconst (-1), 1) := by decide +kernel
theorem dX11_ask_11 : decode cX11_ask 11 = .ok (.ireturn, 1) := by decide +kernel
theorem dX11_ask_12 : decode cX11_ask 12 = .ok (.aload_n 0, 1) := by decide +kernel
theorem dX11_ask_13 : decode cX11_ask 13 = .ok (.getfield 18, 3) := by decide +kernel
theorem dX11_ask_16 : decode cX11_ask 16 = .ok (.invokevirtual 103, 3) := by decide +kernel
theorem dX11_ask_19 : decode cX11_ask 19 = .ok (.aload_n 0, 1) := by decide +kernel
theorem dX11_ask_20 : decode cX11_ask 20 = .ok (.getfield 18, 3) := by decide +kernel
theorem dX11_ask_23 : decode cX11_ask 23 = .ok (.bipush 48, 2) := by decide +kernel
theorem dX11_ask_25 : decode cX11_ask 25 = .ok (.invokevirtual 183, 3) := by decide +kernel
theorem dX11_ask_28 : decode cX11_ask 28 = .ok (.istore_n 1, 1) := by decide +kernel
theorem dX11_ask_29 : decode cX11_ask 29 = .ok (.aload_n 0, 1) := by decide +kernel
theorem dX11_ask_30 : decode cX11_ask 30 = .ok (.getfield 18, 3) := by decide +kernel
theorem dX11_ask_33 : decode cX11_ask 33 = .ok (.bipush 48, 2) := by decide +kernel
theorem dX11_ask_35 : decode cX11_ask 35 = .ok (.invokevirtual 183, 3) := by decide +kernel
theorem dX11_ask_38 : decode cX11_ask 38 = .ok (.istore_n 2, 1) := by decide +kernel
theorem dX11_ask_39 : decode cX11_ask 39 = .ok (.iconst 0, 1) := by decide +kernel
theorem dX11_ask_40 : decode cX11_ask 40 = .ok (.istore_n 3, 1) := by decide +kernel
theorem dX11_ask_41 : decode cX11_ask 41 = .ok (.iload_n 3, 1) := by decide +kernel
theorem dX11_ask_42 : decode cX11_ask 42 = .ok (.aload_n 0, 1) := by decide +kernel
theorem dX11_ask_43 : decode cX11_ask 43 = .ok (.getfield 50, 3) := by decide +kernel
theorem dX11_ask_46 : decode cX11_ask 46 = .ok (.getfield 169, 3) := by decide +kernel
theorem dX11_ask_49 : decode cX11_ask 49 = .ok (.if_icmp .ge 21, 3) := by decide +kernel
theorem dX11_ask_52 : decode cX11_ask 52 = .ok (.aload_n 0, 1) := by decide +kernel
theorem dX11_ask_53 : decode cX11_ask 53 = .ok (.getfield 18, 3) := by decide +kernel
theorem dX11_ask_56 : decode cX11_ask 56 = .ok (.aload_n 0, 1) := by decide +kernel
theorem dX11_ask_57 : decode cX11_ask 57 = .ok (.getfield 50, 3) := by decide +kernel
theorem dX11_ask_60 : decode cX11_ask 60 = .ok (.iload_n 3, 1) := by decide +kernel
theorem dX11_ask_61 : decode cX11_ask 61 = .ok (.invokevirtual 186, 3) := by decide +kernel
theorem dX11_ask_64 : decode cX11_ask 64 = .ok (.iinc 3 1, 3) := by decide +kernel
theorem dX11_ask_67 : decode cX11_ask 67 = .ok (.goto (-26), 3) := by decide +kernel
theorem dX11_ask_70 : decode cX11_ask 70 = .ok (.aload_n 0, 1) := by decide +kernel
theorem dX11_ask_71 : decode cX11_ask 71 = .ok (.getfield 18, 3) := by decide +kernel
theorem dX11_ask_74 : decode cX11_ask 74 = .ok (.iload_n 2, 1) := by decide +kernel
theorem dX11_ask_75 : decode cX11_ask 75 = .ok (.invokevirtual 190, 3) := by decide +kernel
theorem dX11_ask_78 : decode cX11_ask 78 = .ok (.aload_n 0, 1) := by decide +kernel
theorem dX11_ask_79 : decode cX11_ask 79 = .ok (.getfield 21, 3) := by decide +kernel
theorem dX11_ask_82 : decode cX11_ask 82 = .ok (.getfield 81, 3) := by decide +kernel
theorem dX11_ask_85 : decode cX11_ask 85 = .ok (.ifCond .le 23, 3) := by decide +kernel
theorem dX11_ask_88 : decode cX11_ask 88 = .ok (.aload_n 0, 1) := by decide +kernel
theorem dX11_ask_89 : decode cX11_ask 89 = .ok (.getfield 18, 3) := by decide +kernel
theorem dX11_ask_92 : decode cX11_ask 92 = .ok (.iconst 2, 1) := by decide +kernel
theorem dX11_ask_93 : decode cX11_ask 93 = .ok (.aload_n 0, 1) := by decide +kernel
theorem dX11_ask_94 : decode cX11_ask 94 = .ok (.getfield 21, 3) := by decide +kernel
theorem dX11_ask_97 : decode cX11_ask 97 = .ok (.iconst 0, 1) := by decide +kernel
theorem dX11_ask_98 : decode cX11_ask 98 = .ok (.aload_n 0, 1) := by decide +kernel
theorem dX11_ask_99 : decode cX11_ask 99 = .ok (.getfield 21, 3) := by decide +kernel
theorem dX11_ask_102 : decode cX11_ask 102 = .ok (.getfield 81, 3) := by decide +kernel
theorem dX11_ask_105 : decode cX11_ask 105 = .ok (.invokevirtual 193, 3) := by decide +kernel
theorem dX11_ask_108 : decode cX11_ask 108 = .ok (.aload_n 0, 1) := by decide +kernel
theorem dX11_ask_109 : decode cX11_ask 109 = .ok (.getfield 18, 3) := by decide +kernel
theorem dX11_ask_112 : decode cX11_ask 112 = .ok (.iload_n 1, 1) := by decide +kernel
theorem dX11_ask_113 : decode cX11_ask 113 = .ok (.invokevirtual 190, 3) := by decide +kernel
theorem dX11_ask_116 : decode cX11_ask 116 = .ok (.aload_n 0, 1) := by decide +kernel
theorem dX11_ask_117 : decode cX11_ask 117 = .ok (.getfield 50, 3) := by decide +kernel
theorem dX11_ask_120 : decode cX11_ask 120 = .ok (.iconst 0, 1) := by decide +kernel
theorem dX11_ask_121 : decode cX11_ask 121 = .ok (.putfield 169, 3) := by decide +kernel
theorem dX11_ask_124 : decode cX11_ask 124 = .ok (.aload_n 0, 1) := by decide +kernel
theorem dX11_ask_125 : decode cX11_ask 125 = .ok (.getfield 18, 3) := by decide +kernel
theorem dX11_ask_128 : decode cX11_ask 128 = .ok (.getfield 81, 3) := by decide +kernel
theorem dX11_ask_131 : decode cX11_ask 131 = .ok (.ireturn, 1) := by decide +kernel
theorem dX11_answer_0 : decode cX11_answer 0 = .ok (.bipush (-2), 2) := by decide +kernel
theorem dX11_answer_2 : decode cX11_answer 2 = .ok (.istore 6, 2) := by decide +kernel
theorem dX11_answer_4 : decode cX11_answer 4 = .ok (.aload_n 0, 1) := by decide +kernel
theorem dX11_answer_5 : decode cX11_answer 5 = .ok (.iload_n 1, 1) := by decide +kernel
theorem dX11_answer_6 : decode cX11_answer 6 = .ok (.iconst 4, 1) := by decide +kernel
theorem dX11_answer_7 : decode cX11_answer 7 = .ok (.isub, 1) := by decide +kernel
theorem dX11_answer_8 : decode cX11_answer 8 = .ok (.invokevirtual 165, 3) := by decide +kernel
theorem dX11_answer_11 : decode cX11_answer 11 = .ok (.astore 7, 2) := by decide +kernel
theorem dX11_answer_13 : decode cX11_answer 13 = .ok (.aload_n 0, 1) := by decide +kernel
theorem dX11_answer_14 : decode cX11_answer 14 = .ok (.aload 7, 2) := by decide +kernel
theorem dX11_answer_16 : decode cX11_answer 16 = .ok (.ifnonnull 7, 3) := by decide +kernel
theorem dX11_answer_19 : decode cX11_answer 19 = .ok (.iload_n 1, 1) := by decide +kernel
theorem dX11_answer_20 : decode cX11_answer 20 = .ok (.goto 8, 3) := by decide +kernel
theorem dX11_answer_23 : decode cX11_answer 23 = .ok (.aload 7, 2) := by decide +kernel
theorem dX11_answer_25 : decode cX11_answer 25 = .ok (.getfield 197, 3) := by decide +kernel
theorem dX11_answer_28 : decode cX11_answer 28 = .ok (.invokevirtual 106, 3) := by decide +kernel
theorem dX11_answer_31 : decode cX11_answer 31 = .ok (.astore 8, 2) := by decide +kernel
theorem dX11_answer_33 : decode cX11_answer 33 = .ok (.aload 8, 2) := by decide +kernel
theorem dX11_answer_35 : decode cX11_answer 35 = .ok (.ifnull 96, 3) := by decide +kernel
theorem dX11_answer_38 : decode cX11_answer 38 = .ok (.lload_n 2, 1) := by decide +kernel
theorem dX11_answer_39 : decode cX11_answer 39 = .ok (.invokestatic 119, 3) := by decide +kernel
theorem dX11_answer_42 : decode cX11_answer 42 = .ok (.ifCond .eq 89, 3) := by decide +kernel
theorem dX11_answer_45 : decode cX11_answer 45 = .ok (.lload 4, 2) := by decide +kernel
theorem dX11_answer_47 : decode cX11_answer 47 = .ok (.lconst 0, 1) := by decide +kernel
theorem dX11_answer_48 : decode cX11_answer 48 = .ok (.lcmp, 1) := by decide +kernel
theorem dX11_answer_49 : decode cX11_answer 49 = .ok (.ifCond .lt 82, 3) := by decide +kernel
theorem dX11_answer_52 : decode cX11_answer 52 = .ok (.lload 4, 2) := by decide +kernel
theorem dX11_answer_54 : decode cX11_answer 54 = .ok (.ldc2_w 200, 3) := by decide +kernel
theorem dX11_answer_57 : decode cX11_answer 57 = .ok (.lload_n 2, 1) := by decide +kernel
theorem dX11_answer_58 : decode cX11_answer 58 = .ok (.lsub, 1) := by decide +kernel
theorem dX11_answer_59 : decode cX11_answer 59 = .ok (.lcmp, 1) := by decide +kernel
theorem dX11_answer_60 : decode cX11_answer 60 = .ok (.ifCond .gt 71, 3) := by decide +kernel
theorem dX11_answer_63 : decode cX11_answer 63 = .ok (.aload_n 0, 1) := by decide +kernel
theorem dX11_answer_64 : decode cX11_answer 64 = .ok (.aload 8, 2) := by decide +kernel
theorem dX11_answer_66 : decode cX11_answer 66 = .ok (.invokevirtual 202, 3) := by decide +kernel
theorem dX11_answer_69 : decode cX11_answer 69 = .ok (.istore 6, 2) := by decide +kernel
theorem dX11_answer_71 : decode cX11_answer 71 = .ok (.iload 6, 2) := by decide +kernel
theorem dX11_answer_73 : decode cX11_answer 73 = .ok (.ifCond .ne 42, 3) := by decide +kernel
theorem dX11_answer_76 : decode cX11_answer 76 = .ok (.aload_n 0, 1) := by decide +kernel
theorem dX11_answer_77 : decode cX11_answer 77 = .ok (.dup, 1) := by decide +kernel
theorem dX11_answer_78 : decode cX11_answer 78 = .ok (.getfield 206, 3) := by decide +kernel
theorem dX11_answer_81 : decode cX11_answer 81 = .ok (.iconst 1, 1) := by decide +kernel
theorem dX11_answer_82 : decode cX11_answer 82 = .ok (.iadd, 1) := by decide +kernel
theorem dX11_answer_83 : decode cX11_answer 83 = .ok (.putfield 206, 3) := by decide +kernel
theorem dX11_answer_86 : decode cX11_answer 86 = .ok (.aload_n 0, 1) := by decide +kernel
theorem dX11_answer_87 : decode cX11_answer 87 = .ok (.aload 8, 2) := by decide +kernel
theorem dX11_answer_89 : decode cX11_answer 89 = .ok (.aload 7, 2) := by decide +kernel
theorem dX11_answer_91 : decode cX11_answer 91 = .ok (.lload_n 2, 1) := by decide +kernel
theorem dX11_answer_92 : decode cX11_answer 92 = .ok (.lload 4, 2) := by decide +kernel
theorem dX11_answer_94 : decode cX11_answer 94 = .ok (.lconst 0, 1) := by decide +kernel
theorem dX11_answer_95 : decode cX11_answer 95 = .ok (.lcmp, 1) := by decide +kernel
theorem dX11_answer_96 : decode cX11_answer 96 = .ok (.ifCond .le 10, 3) := by decide +kernel
theorem dX11_answer_99 : decode cX11_answer 99 = .ok (.lload_n 2, 1) := by decide +kernel
theorem dX11_answer_100 : decode cX11_answer 100 = .ok (.lload 4, 2) := by decide +kernel
theorem dX11_answer_102 : decode cX11_answer 102 = .ok (.ladd, 1) := by decide +kernel
theorem dX11_answer_103 : decode cX11_answer 103 = .ok (.goto 6, 3) := by decide +kernel
theorem dX11_answer_106 : decode cX11_answer 106 = .ok (.ldc2_w 129, 3) := by decide +kernel
theorem dX11_answer_109 : decode cX11_answer 109 = .ok (.invokevirtual 209, 3) := by decide +kernel
theorem dX11_answer_112 : decode cX11_answer 112 = .ok (.goto 19, 3) := by decide +kernel
theorem dX11_answer_115 : decode cX11_answer 115 = .ok (.aload_n 0, 1) := by decide +kernel
theorem dX11_answer_116 : decode cX11_answer 116 = .ok (.dup, 1) := by decide +kernel
theorem dX11_answer_117 : decode cX11_answer 117 = .ok (.getfield 213, 3) := by decide +kernel
theorem dX11_answer_120 : decode cX11_answer 120 = .ok (.iconst 1, 1) := by decide +kernel
theorem dX11_answer_121 : decode cX11_answer 121 = .ok (.iadd, 1) := by decide +kernel
theorem dX11_answer_122 : decode cX11_answer 122 = .ok (.putfield 213, 3) := by decide +kernel
theorem dX11_answer_125 : decode cX11_answer 125 = .ok (.aload_n 0, 1) := by decide +kernel
theorem dX11_answer_126 : decode cX11_answer 126 = .ok (.iload 6, 2) := by decide +kernel
theorem dX11_answer_128 : decode cX11_answer 128 = .ok (.invokevirtual 216, 3) := by decide +kernel
theorem dX11_answer_131 : decode cX11_answer 131 = .ok (.aload_n 0, 1) := by decide +kernel
theorem dX11_answer_132 : decode cX11_answer 132 = .ok (.getfield 14, 3) := by decide +kernel
theorem dX11_answer_135 : decode cX11_answer 135 = .ok (.invokevirtual 103, 3) := by decide +kernel
theorem dX11_answer_138 : decode cX11_answer 138 = .ok (.iload 6, 2) := by decide +kernel
theorem dX11_answer_140 : decode cX11_answer 140 = .ok (.ireturn, 1) := by decide +kernel
theorem dX11_look_0 : decode cX11_look 0 = .ok (.bipush (-2), 2) := by decide +kernel
theorem dX11_look_2 : decode cX11_look 2 = .ok (.istore 7, 2) := by decide +kernel
theorem dX11_look_4 : decode cX11_look 4 = .ok (.aload_n 0, 1) := by decide +kernel
theorem dX11_look_5 : decode cX11_look 5 = .ok (.iload_n 1, 1) := by decide +kernel
theorem dX11_look_6 : decode cX11_look 6 = .ok (.invokevirtual 106, 3) := by decide +kernel
theorem dX11_look_9 : decode cX11_look 9 = .ok (.astore 8, 2) := by decide +kernel
theorem dX11_look_11 : decode cX11_look 11 = .ok (.aload 8, 2) := by decide +kernel
theorem dX11_look_13 : decode cX11_look 13 = .ok (.ifnull 156, 3) := by decide +kernel
theorem dX11_look_16 : decode cX11_look 16 = .ok (.iload_n 2, 1) := by decide +kernel
theorem dX11_look_17 : decode cX11_look 17 = .ok (.ifCond .lt 152, 3) := by decide +kernel
theorem dX11_look_20 : decode cX11_look 20 = .ok (.lload_n 3, 1) := by decide +kernel
theorem dX11_look_21 : decode cX11_look 21 = .ok (.invokestatic 119, 3) := by decide +kernel
theorem dX11_look_24 : decode cX11_look 24 = .ok (.ifCond .eq 145, 3) := by decide +kernel
theorem dX11_look_27 : decode cX11_look 27 = .ok (.iload 5, 2) := by decide +kernel
theorem dX11_look_29 : decode cX11_look 29 = .ok (.invokestatic 219, 3) := by decide +kernel
theorem dX11_look_32 : decode cX11_look 32 = .ok (.ifCond .eq 137, 3) := by decide +kernel
theorem dX11_look_35 : decode cX11_look 35 = .ok (.iload 6, 2) := by decide +kernel
theorem dX11_look_37 : decode cX11_look 37 = .ok (.invokestatic 219, 3) := by decide +kernel
theorem dX11_look_40 : decode cX11_look 40 = .ok (.ifCond .eq 129, 3) := by decide +kernel
theorem dX11_look_43 : decode cX11_look 43 = .ok (.aload_n 0, 1) := by decide +kernel
theorem dX11_look_44 : decode cX11_look 44 = .ok (.getfield 57, 3) := by decide +kernel
theorem dX11_look_47 : decode cX11_look 47 = .ok (.aload_n 0, 1) := by decide +kernel
theorem dX11_look_48 : decode cX11_look 48 = .ok (.getfield 14, 3) := by decide +kernel
theorem dX11_look_51 : decode cX11_look 51 = .ok (.invokevirtual 222, 3) := by decide +kernel
theorem dX11_look_54 : decode cX11_look 54 = .ok (.aload_n 0, 1) := by decide +kernel
theorem dX11_look_55 : decode cX11_look 55 = .ok (.getfield 71, 3) := by decide +kernel
theorem dX11_look_58 : decode cX11_look 58 = .ok (.aload_n 0, 1) := by decide +kernel
theorem dX11_look_59 : decode cX11_look 59 = .ok (.getfield 57, 3) := by decide +kernel
theorem dX11_look_62 : decode cX11_look 62 = .ok (.invokevirtual 224, 3) := by decide +kernel
theorem dX11_look_65 : decode cX11_look 65 = .ok (.aload_n 0, 1) := by decide +kernel
theorem dX11_look_66 : decode cX11_look 66 = .ok (.getfield 71, 3) := by decide +kernel
theorem dX11_look_69 : decode cX11_look 69 = .ok (.getfield 228, 3) := by decide +kernel
theorem dX11_look_72 : decode cX11_look 72 = .ok (.aload 8, 2) := by decide +kernel
theorem dX11_look_74 : decode cX11_look 74 = .ok (.getfield 172, 3) := by decide +kernel
theorem dX11_look_77 : decode cX11_look 77 = .ok (.aload 8, 2) := by decide +kernel
theorem dX11_look_79 : decode cX11_look 79 = .ok (.getfield 176, 3) := by decide +kernel
theorem dX11_look_82 : decode cX11_look 82 = .ok (.iload_n 2, 1) := by decide +kernel
theorem dX11_look_83 : decode cX11_look 83 = .ok (.invokevirtual 231, 3) := by decide +kernel
theorem dX11_look_86 : decode cX11_look 86 = .ok (.istore 9, 2) := by decide +kernel
theorem dX11_look_88 : decode cX11_look 88 = .ok (.aload_n 0, 1) := by decide +kernel
theorem dX11_look_89 : decode cX11_look 89 = .ok (.aload 8, 2) := by decide +kernel
theorem dX11_look_91 : decode cX11_look 91 = .ok (.lload_n 3, 1) := by decide +kernel
theorem dX11_look_92 : decode cX11_look 92 = .ok (.invokevirtual 234, 3) := by decide +kernel
theorem dX11_look_95 : decode cX11_look 95 = .ok (.istore 7, 2) := by decide +kernel
theorem dX11_look_97 : decode cX11_look 97 = .ok (.iload 7, 2) := by decide +kernel
theorem dX11_look_99 : decode cX11_look 99 = .ok (.ifCond .ne 19, 3) := by decide +kernel
theorem dX11_look_102 : decode cX11_look 102 = .ok (.aload_n 0, 1) := by decide +kernel
theorem dX11_look_103 : decode cX11_look 103 = .ok (.getfield 71, 3) := by decide +kernel
theorem dX11_look_106 : decode cX11_look 106 = .ok (.iload 9, 2) := by decide +kernel
theorem dX11_look_108 : decode cX11_look 108 = .ok (.lload_n 3, 1) := by decide +kernel
theorem dX11_look_109 : decode cX11_look 109 = .ok (.iload 5, 2) := by decide +kernel
theorem dX11_look_111 : decode cX11_look 111 = .ok (.iload 6, 2) := by decide +kernel
theorem dX11_look_113 : decode cX11_look 113 = .ok (.invokevirtual 238, 3) := by decide +kernel
theorem dX11_look_116 : decode cX11_look 116 = .ok (.istore 7, 2) := by decide +kernel
theorem dX11_look_118 : decode cX11_look 118 = .ok (.iload 7, 2) := by decide +kernel
theorem dX11_look_120 : decode cX11_look 120 = .ok (.iconst 3, 1) := by decide +kernel
theorem dX11_look_121 : decode cX11_look 121 = .ok (.if_icmp .gt 32, 3) := by decide +kernel
theorem dX11_look_124 : decode cX11_look 124 = .ok (.aload_n 0, 1) := by decide +kernel
theorem dX11_look_125 : decode cX11_look 125 = .ok (.getfield 43, 3) := by decide +kernel
theorem dX11_look_128 : decode cX11_look 128 = .ok (.iload_n 1, 1) := by decide +kernel
theorem dX11_look_129 : decode cX11_look 129 = .ok (.iload_n 2, 1) := by decide +kernel
theorem dX11_look_130 : decode cX11_look 130 = .ok (.invokevirtual 242, 3) := by decide +kernel
theorem dX11_look_133 : decode cX11_look 133 = .ok (.aload_n 0, 1) := by decide +kernel
theorem dX11_look_134 : decode cX11_look 134 = .ok (.getfield 43, 3) := by decide +kernel
theorem dX11_look_137 : decode cX11_look 137 = .ok (.aload_n 0, 1) := by decide +kernel
theorem dX11_look_138 : decode cX11_look 138 = .ok (.getfield 71, 3) := by decide +kernel
theorem dX11_look_141 : decode cX11_look 141 = .ok (.iload 9, 2) := by decide +kernel
theorem dX11_look_143 : decode cX11_look 143 = .ok (.iload 6, 2) := by decide +kernel
theorem dX11_look_145 : decode cX11_look 145 = .ok (.invokevirtual 243, 3) := by decide +kernel
theorem dX11_look_148 : decode cX11_look 148 = .ok (.aload_n 0, 1) := by decide +kernel
theorem dX11_look_149 : decode cX11_look 149 = .ok (.iconst 1, 1) := by decide +kernel
theorem dX11_look_150 : decode cX11_look 150 = .ok (.putfield 247, 3) := by decide +kernel
theorem dX11_look_153 : decode cX11_look 153 = .ok (.aload_n 0, 1) := by decide +kernel
theorem dX11_look_154 : decode cX11_look 154 = .ok (.iload 7, 2) := by decide +kernel
theorem dX11_look_156 : decode cX11_look 156 = .ok (.putfield 75, 3) := by decide +kernel
theorem dX11_look_159 : decode cX11_look 159 = .ok (.aload_n 0, 1) := by decide +kernel
theorem dX11_look_160 : decode cX11_look 160 = .ok (.dup, 1) := by decide +kernel
theorem dX11_look_161 : decode cX11_look 161 = .ok (.getfield 251, 3) := by decide +kernel
theorem dX11_look_164 : decode cX11_look 164 = .ok (.iconst 1, 1) := by decide +kernel
theorem dX11_look_165 : decode cX11_look 165 = .ok (.iadd, 1) := by decide +kernel
theorem dX11_look_166 : decode cX11_look 166 = .ok (.putfield 251, 3) := by decide +kernel
theorem dX11_look_169 : decode cX11_look 169 = .ok (.aload_n 0, 1) := by decide +kernel
theorem dX11_look_170 : decode cX11_look 170 = .ok (.getfield 14, 3) := by decide +kernel
theorem dX11_look_173 : decode cX11_look 173 = .ok (.invokevirtual 103, 3) := by decide +kernel
theorem dX11_look_176 : decode cX11_look 176 = .ok (.iload 7, 2) := by decide +kernel
theorem dX11_look_178 : decode cX11_look 178 = .ok (.ireturn, 1) := by decide +kernel
theorem dX11_passes_0 : decode cX11_passes 0 = .ok (.iload_n 1, 1) := by decide +kernel
theorem dX11_passes_1 : decode cX11_passes 1 = .ok (.ifCond .ne 10, 3) := by decide +kernel
theorem dX11_passes_4 : decode cX11_passes 4 = .ok (.aload_n 0, 1) := by decide +kernel
theorem dX11_passes_5 : decode cX11_passes 5 = .ok (.getfield 75, 3) := by decide +kernel
theorem dX11_passes_8 : decode cX11_passes 8 = .ok (.ifCond .ne 17, 3) := by decide +kernel
theorem dX11_passes_11 : decode cX11_passes 11 = .ok (.aload_n 0, 1) := by decide +kernel
theorem dX11_passes_12 : decode cX11_passes 12 = .ok (.getfield 75, 3) := by decide +kernel
theorem dX11_passes_15 : decode cX11_passes 15 = .ok (.iconst 1, 1) := by decide +kernel
theorem dX11_passes_16 : decode cX11_passes 16 = .ok (.if_icmp .ne 7, 3) := by decide +kernel
theorem dX11_passes_19 : decode cX11_passes 19 = .ok (.iconst 1, 1) := by decide +kernel
theorem dX11_passes_20 : decode cX11_passes 20 = .ok (.goto 4, 3) := by decide +kernel
theorem dX11_passes_23 : decode cX11_passes 23 = .ok (.iconst 0, 1) := by decide +kernel
theorem dX11_passes_24 : decode cX11_passes 24 = .ok (.ireturn, 1) := by decide +kernel
theorem dX11_passes_25 : decode cX11_passes 25 = .ok (.aload_n 0, 1) := by decide +kernel
theorem dX11_passes_26 : decode cX11_passes 26 = .ok (.getfield 75, 3) := by decide +kernel
theorem dX11_passes_29 : decode cX11_passes 29 = .ok (.iconst 2, 1) := by decide +kernel
theorem dX11_passes_30 : decode cX11_passes 30 = .ok (.if_icmp .eq 34, 3) := by decide +kernel
theorem dX11_passes_33 : decode cX11_passes 33 = .ok (.aload_n 0, 1) := by decide +kernel
theorem dX11_passes_34 : decode cX11_passes 34 = .ok (.getfield 75, 3) := by decide +kernel
theorem dX11_passes_37 : decode cX11_passes 37 = .ok (.bipush 22, 2) := by decide +kernel
theorem dX11_passes_39 : decode cX11_passes 39 = .ok (.if_icmp .eq 25, 3) := by decide +kernel
theorem dX11_passes_42 : decode cX11_passes 42 = .ok (.aload_n 0, 1) := by decide +kernel
theorem dX11_passes_43 : decode cX11_passes 43 = .ok (.getfield 75, 3) := by decide +kernel
theorem dX11_passes_46 : decode cX11_passes 46 = .ok (.bipush 24, 2) := by decide +kernel
theorem dX11_passes_48 : decode cX11_passes 48 = .ok (.if_icmp .lt 12, 3) := by decide +kernel
theorem dX11_passes_51 : decode cX11_passes 51 = .ok (.aload_n 0, 1) := by decide +kernel
theorem dX11_passes_52 : decode cX11_passes 52 = .ok (.getfield 75, 3) := by decide +kernel
theorem dX11_passes_55 : decode cX11_passes 55 = .ok (.bipush 28, 2) := by decide +kernel
theorem dX11_passes_57 : decode cX11_passes 57 = .ok (.if_icmp .le 7, 3) := by decide +kernel
theorem dX11_passes_60 : decode cX11_passes 60 = .ok (.iconst 1, 1) := by decide +kernel
theorem dX11_passes_61 : decode cX11_passes 61 = .ok (.goto 4, 3) := by decide +kernel
theorem dX11_passes_64 : decode cX11_passes 64 = .ok (.iconst 0, 1) := by decide +kernel
theorem dX11_passes_65 : decode cX11_passes 65 = .ok (.ireturn, 1) := by decide +kernel
theorem dX11_found_0 : decode cX11_found 0 = .ok (.iload_n 1, 1) := by decide +kernel
theorem dX11_found_1 : decode cX11_found 1 = .ok (.tableswitch 77 0 4 #[35, 44, 52, 61, 69], 35) := by decide +kernel
theorem dX11_found_36 : decode cX11_found 36 = .ok (.aload_n 0, 1) := by decide +kernel
theorem dX11_found_37 : decode cX11_found 37 = .ok (.getfield 43, 3) := by decide +kernel
theorem dX11_found_40 : decode cX11_found 40 = .ok (.getfield 254, 3) := by decide +kernel
theorem dX11_found_43 : decode cX11_found 43 = .ok (.i2l, 1) := by decide +kernel
theorem dX11_found_44 : decode cX11_found 44 = .ok (.lreturn, 1) := by decide +kernel
theorem dX11_found_45 : decode cX11_found 45 = .ok (.aload_n 0, 1) := by decide +kernel
theorem dX11_found_46 : decode cX11_found 46 = .ok (.getfield 43, 3) := by decide +kernel
theorem dX11_found_49 : decode cX11_found 49 = .ok (.getfield 257, 3) := by decide +kernel
theorem dX11_found_52 : decode cX11_found 52 = .ok (.lreturn, 1) := by decide +kernel
theorem dX11_found_53 : decode cX11_found 53 = .ok (.aload_n 0, 1) := by decide +kernel
theorem dX11_found_54 : decode cX11_found 54 = .ok (.getfield 43, 3) := by decide +kernel
theorem dX11_found_57 : decode cX11_found 57 = .ok (.getfield 259, 3) := by decide +kernel
theorem dX11_found_60 : decode cX11_found 60 = .ok (.i2l, 1) := by decide +kernel
theorem dX11_found_61 : decode cX11_found 61 = .ok (.lreturn, 1) := by decide +kernel
theorem dX11_found_62 : decode cX11_found 62 = .ok (.aload_n 0, 1) := by decide +kernel
theorem dX11_found_63 : decode cX11_found 63 = .ok (.getfield 43, 3) := by decide +kernel
theorem dX11_found_66 : decode cX11_found 66 = .ok (.getfield 262, 3) := by decide +kernel
theorem dX11_found_69 : decode cX11_found 69 = .ok (.lreturn, 1) := by decide +kernel
theorem dX11_found_70 : decode cX11_found 70 = .ok (.aload_n 0, 1) := by decide +kernel
theorem dX11_found_71 : decode cX11_found 71 = .ok (.getfield 43, 3) := by decide +kernel
theorem dX11_found_74 : decode cX11_found 74 = .ok (.getfield 265, 3) := by decide +kernel
theorem dX11_found_77 : decode cX11_found 77 = .ok (.lreturn, 1) := by decide +kernel
theorem dX11_found_78 : decode cX11_found 78 = .ok (.ldc2_w 268, 3) := by decide +kernel
theorem dX11_found_81 : decode cX11_found 81 = .ok (.lreturn, 1) := by decide +kernel
theorem dX11_hold_0 : decode cX11_hold 0 = .ok (.aload_n 0, 1) := by decide +kernel
theorem dX11_hold_1 : decode cX11_hold 1 = .ok (.getfield 247, 3) := by decide +kernel
theorem dX11_hold_4 : decode cX11_hold 4 = .ok (.ifCond .ne 5, 3) := by decide +kernel
theorem dX11_hold_7 : decode cX11_hold 7 = .ok (.iconst (-1), 1) := by decide +kernel
theorem dX11_hold_8 : decode cX11_hold 8 = .ok (.ireturn, 1) := by decide +kernel
theorem dX11_hold_9 : decode cX11_hold 9 = .ok (.aload_n 0, 1) := by decide +kernel
theorem dX11_hold_10 : decode cX11_hold 10 = .ok (.getfield 270, 3) := by decide +kernel
theorem dX11_hold_13 : decode cX11_hold 13 = .ok (.bipush 16, 2) := by decide +kernel
theorem dX11_hold_15 : decode cX11_hold 15 = .ok (.if_icmp .lt 7, 3) := by decide +kernel
theorem dX11_hold_18 : decode cX11_hold 18 = .ok (.aload_n 0, 1) := by decide +kernel
theorem dX11_hold_19 : decode cX11_hold 19 = .ok (.invokevirtual 273, 3) := by decide +kernel
theorem dX11_hold_22 : decode cX11_hold 22 = .ok (.aload_n 0, 1) := by decide +kernel
theorem dX11_hold_23 : decode cX11_hold 23 = .ok (.getfield 38, 3) := by decide +kernel
theorem dX11_hold_26 : decode cX11_hold 26 = .ok (.aload_n 0, 1) := by decide +kernel
theorem dX11_hold_27 : decode cX11_hold 27 = .ok (.getfield 270, 3) := by decide +kernel
theorem dX11_hold_30 : decode cX11_hold 30 = .ok (.aaload, 1) := by decide +kernel
theorem dX11_hold_31 : decode cX11_hold 31 = .ok (.aload_n 0, 1) := by decide +kernel
theorem dX11_hold_32 : decode cX11_hold 32 = .ok (.getfield 43, 3) := by decide +kernel
theorem dX11_hold_35 : decode cX11_hold 35 = .ok (.invokevirtual 276, 3) := by decide +kernel
theorem dX11_hold_38 : decode cX11_hold 38 = .ok (.aload_n 0, 1) := by decide +kernel
theorem dX11_hold_39 : decode cX11_hold 39 = .ok (.dup, 1) := by decide +kernel
theorem dX11_hold_40 : decode cX11_hold 40 = .ok (.getfield 270, 3) := by decide +kernel
theorem dX11_hold_43 : decode cX11_hold 43 = .ok (.iconst 1, 1) := by decide +kernel
theorem dX11_hold_44 : decode cX11_hold 44 = .ok (.iadd, 1) := by decide +kernel
theorem dX11_hold_45 : decode cX11_hold 45 = .ok (.putfield 270, 3) := by decide +kernel
theorem dX11_hold_48 : decode cX11_hold 48 = .ok (.aload_n 0, 1) := by decide +kernel
theorem dX11_hold_49 : decode cX11_hold 49 = .ok (.iconst 0, 1) := by decide +kernel
theorem dX11_hold_50 : decode cX11_hold 50 = .ok (.putfield 247, 3) := by decide +kernel
theorem dX11_hold_53 : decode cX11_hold 53 = .ok (.aload_n 0, 1) := by decide +kernel
theorem dX11_hold_54 : decode cX11_hold 54 = .ok (.getfield 270, 3) := by decide +kernel
theorem dX11_hold_57 : decode cX11_hold 57 = .ok (.ireturn, 1) := by decide +kernel
theorem dX11_held_0 : decode cX11_held 0 = .ok (.aload_n 0, 1) := by decide +kernel
theorem dX11_held_1 : decode cX11_held 1 = .ok (.iload_n 1, 1) := by decide +kernel
theorem dX11_held_2 : decode cX11_held 2 = .ok (.invokevirtual 106, 3) := by decide +kernel
theorem dX11_held_5 : decode cX11_held 5 = .ok (.ifnull 14, 3) := by decide +kernel
theorem dX11_held_8 : decode cX11_held 8 = .ok (.iload_n 2, 1) := by decide +kernel
theorem dX11_held_9 : decode cX11_held 9 = .ok (.ifCond .lt 10, 3) := by decide +kernel
theorem dX11_held_12 : decode cX11_held 12 = .ok (.lload_n 3, 1) := by decide +kernel
theorem dX11_held_13 : decode cX11_held 13 = .ok (.invokestatic 119, 3) := by decide +kernel
theorem dX11_held_16 : decode cX11_held 16 = .ok (.ifCond .ne 6, 3) := by decide +kernel
theorem dX11_held_19 : decode cX11_held 19 = .ok (.bipush (-2), 2) := by decide +kernel
theorem dX11_held_21 : decode cX11_held 21 = .ok (.ireturn, 1) := by decide +kernel
theorem dX11_held_22 : decode cX11_held 22 = .ok (.aload_n 0, 1) := by decide +kernel
theorem dX11_held_23 : decode cX11_held 23 = .ok (.getfield 270, 3) := by decide +kernel
theorem dX11_held_26 : decode cX11_held 26 = .ok (.iconst 1, 1) := by decide +kernel
theorem dX11_held_27 : decode cX11_held 27 = .ok (.isub, 1) := by decide +kernel
theorem dX11_held_28 : decode cX11_held 28 = .ok (.istore 5, 2) := by decide +kernel
theorem dX11_held_30 : decode cX11_held 30 = .ok (.iload 5, 2) := by decide +kernel
theorem dX11_held_32 : decode cX11_held 32 = .ok (.ifCond .lt 56, 3) := by decide +kernel
theorem dX11_held_35 : decode cX11_held 35 = .ok (.aload_n 0, 1) := by decide +kernel
theorem dX11_held_36 : decode cX11_held 36 = .ok (.getfield 38, 3) := by decide +kernel
theorem dX11_held_39 : decode cX11_held 39 = .ok (.iload 5, 2) := by decide +kernel
theorem dX11_held_41 : decode cX11_held 41 = .ok (.aaload, 1) := by decide +kernel
theorem dX11_held_42 : decode cX11_held 42 = .ok (.astore 6, 2) := by decide +kernel
theorem dX11_held_44 : decode cX11_held 44 = .ok (.aload 6, 2) := by decide +kernel
theorem dX11_held_46 : decode cX11_held 46 = .ok (.getfield 279, 3) := by decide +kernel
theorem dX11_held_49 : decode cX11_held 49 = .ok (.iload_n 1, 1) := by decide +kernel
theorem dX11_held_50 : decode cX11_held 50 = .ok (.if_icmp .ne 32, 3) := by decide +kernel
theorem dX11_held_53 : decode cX11_held 53 = .ok (.aload 6, 2) := by decide +kernel
theorem dX11_held_55 : decode cX11_held 55 = .ok (.getfield 282, 3) := by decide +kernel
theorem dX11_held_58 : decode cX11_held 58 = .ok (.iload_n 2, 1) := by decide +kernel
theorem dX11_held_59 : decode cX11_held 59 = .ok (.if_icmp .ne 23, 3) := by decide +kernel
theorem dX11_held_62 : decode cX11_held 62 = .ok (.lload_n 3, 1) := by decide +kernel
theorem dX11_held_63 : decode cX11_held 63 = .ok (.aload 6, 2) := by decide +kernel
theorem dX11_held_65 : decode cX11_held 65 = .ok (.getfield 265, 3) := by decide +kernel
theorem dX11_held_68 : decode cX11_held 68 = .ok (.lcmp, 1) := by decide +kernel
theorem dX11_held_69 : decode cX11_held 69 = .ok (.ifCond .le 7, 3) := by decide +kernel
theorem dX11_held_72 : decode cX11_held 72 = .ok (.iconst 0, 1) := by decide +kernel
theorem dX11_held_73 : decode cX11_held 73 = .ok (.goto 8, 3) := by decide +kernel
theorem dX11_held_76 : decode cX11_held 76 = .ok (.aload 6, 2) := by decide +kernel
theorem dX11_held_78 : decode cX11_held 78 = .ok (.getfield 254, 3) := by decide +kernel
theorem dX11_held_81 : decode cX11_held 81 = .ok (.ireturn, 1) := by decide +kernel
theorem dX11_held_82 : decode cX11_held 82 = .ok (.iinc 5 (-1), 3) := by decide +kernel
theorem dX11_held_85 : decode cX11_held 85 = .ok (.goto (-55), 3) := by decide +kernel
theorem dX11_held_88 : decode cX11_held 88 = .ok (.iconst 0, 1) := by decide +kernel
theorem dX11_held_89 : decode cX11_held 89 = .ok (.ireturn, 1) := by decide +kernel
theorem dX11_check_0 : decode cX11_check 0 = .ok (.aload_n 0, 1) := by decide +kernel
theorem dX11_check_1 : decode cX11_check 1 = .ok (.getfield 57, 3) := by decide +kernel
theorem dX11_check_4 : decode cX11_check 4 = .ok (.aload_n 0, 1) := by decide +kernel
theorem dX11_check_5 : decode cX11_check 5 = .ok (.getfield 14, 3) := by decide +kernel
theorem dX11_check_8 : decode cX11_check 8 = .ok (.invokevirtual 222, 3) := by decide +kernel
theorem dX11_check_11 : decode cX11_check 11 = .ok (.iload_n 1, 1) := by decide +kernel
theorem dX11_check_12 : decode cX11_check 12 = .ok (.tableswitch 80 0 2 #[28, 52, 66], 28) := by decide +kernel
theorem dX11_check_40 : decode cX11_check 40 = .ok (.aload_n 0, 1) := by decide +kernel
theorem dX11_check_41 : decode cX11_check 41 = .ok (.getfield 71, 3) := by decide +kernel
theorem dX11_check_44 : decode cX11_check 44 = .ok (.getfield 285, 3) := by decide +kernel
theorem dX11_check_47 : decode cX11_check 47 = .ok (.aload_n 0, 1) := by decide +kernel
theorem dX11_check_48 : decode cX11_check 48 = .ok (.getfield 57, 3) := by decide +kernel
theorem dX11_check_51 : decode cX11_check 51 = .ok (.invokevirtual 289, 3) := by decide +kernel
theorem dX11_check_54 : decode cX11_check 54 = .ok (.aload_n 0, 1) := by decide +kernel
theorem dX11_check_55 : decode cX11_check 55 = .ok (.getfield 57, 3) := by decide +kernel
theorem dX11_check_58 : decode cX11_check 58 = .ok (.invokevirtual 292, 3) := by decide +kernel
theorem dX11_check_61 : decode cX11_check 61 = .ok (.goto 34, 3) := by decide +kernel
theorem dX11_check_64 : decode cX11_check 64 = .ok (.aload_n 0, 1) := by decide +kernel
theorem dX11_check_65 : decode cX11_check 65 = .ok (.getfield 64, 3) := by decide +kernel
theorem dX11_check_68 : decode cX11_check 68 = .ok (.aload_n 0, 1) := by decide +kernel
theorem dX11_check_69 : decode cX11_check 69 = .ok (.getfield 57, 3) := by decide +kernel
theorem dX11_check_72 : decode cX11_check 72 = .ok (.invokevirtual 295, 3) := by decide +kernel
theorem dX11_check_75 : decode cX11_check 75 = .ok (.goto 20, 3) := by decide +kernel
theorem dX11_check_78 : decode cX11_check 78 = .ok (.aload_n 0, 1) := by decide +kernel
theorem dX11_check_79 : decode cX11_check 79 = .ok (.getfield 71, 3) := by decide +kernel
theorem dX11_check_82 : decode cX11_check 82 = .ok (.aload_n 0, 1) := by decide +kernel
theorem dX11_check_83 : decode cX11_check 83 = .ok (.getfield 57, 3) := by decide +kernel
theorem dX11_check_86 : decode cX11_check 86 = .ok (.invokevirtual 224, 3) := by decide +kernel
theorem dX11_check_89 : decode cX11_check 89 = .ok (.goto 6, 3) := by decide +kernel
theorem dX11_check_92 : decode cX11_check 92 = .ok (.bipush (-2), 2) := by decide +kernel
theorem dX11_check_94 : decode cX11_check 94 = .ok (.ireturn, 1) := by decide +kernel
theorem dX11_check_95 : decode cX11_check 95 = .ok (.aload_n 0, 1) := by decide +kernel
theorem dX11_check_96 : decode cX11_check 96 = .ok (.getfield 57, 3) := by decide +kernel
theorem dX11_check_99 : decode cX11_check 99 = .ok (.getfield 296, 3) := by decide +kernel
theorem dX11_check_102 : decode cX11_check 102 = .ok (.iconst (-1), 1) := by decide +kernel
theorem dX11_check_103 : decode cX11_check 103 = .ok (.if_icmp .ne 13, 3) := by decide +kernel
theorem dX11_check_106 : decode cX11_check 106 = .ok (.aload_n 0, 1) := by decide +kernel
theorem dX11_check_107 : decode cX11_check 107 = .ok (.getfield 57, 3) := by decide +kernel
theorem dX11_check_110 : decode cX11_check 110 = .ok (.getfield 299, 3) := by decide +kernel
theorem dX11_check_113 : decode cX11_check 113 = .ok (.goto 13, 3) := by decide +kernel
theorem dX11_check_116 : decode cX11_check 116 = .ok (.bipush (-10), 2) := by decide +kernel
theorem dX11_check_118 : decode cX11_check 118 = .ok (.aload_n 0, 1) := by decide +kernel
theorem dX11_check_119 : decode cX11_check 119 = .ok (.getfield 57, 3) := by decide +kernel
theorem dX11_check_122 : decode cX11_check 122 = .ok (.getfield 296, 3) := by decide +kernel
theorem dX11_check_125 : decode cX11_check 125 = .ok (.isub, 1) := by decide +kernel
theorem dX11_check_126 : decode cX11_check 126 = .ok (.ireturn, 1) := by decide +kernel
theorem dX11_clock_0 : decode cX11_clock 0 = .ok (.lload_n 1, 1) := by decide +kernel
theorem dX11_clock_1 : decode cX11_clock 1 = .ok (.invokestatic 119, 3) := by decide +kernel
theorem dX11_clock_4 : decode cX11_clock 4 = .ok (.ifCond .eq 13, 3) := by decide +kernel
theorem dX11_clock_7 : decode cX11_clock 7 = .ok (.iload_n 3, 1) := by decide +kernel
theorem dX11_clock_8 : decode cX11_clock 8 = .ok (.ifCond .lt 9, 3) := by decide +kernel
theorem dX11_clock_11 : decode cX11_clock 11 = .ok (.iload_n 3, 1) := by decide +kernel
theorem dX11_clock_12 : decode cX11_clock 12 = .ok (.bipush 15, 2) := by decide +kernel
theorem dX11_clock_14 : decode cX11_clock 14 = .ok (.if_icmp .lt 6, 3) := by decide +kernel
theorem dX11_clock_17 : decode cX11_clock 17 = .ok (.bipush (-2), 2) := by decide +kernel
theorem dX11_clock_19 : decode cX11_clock 19 = .ok (.ireturn, 1) := by decide +kernel
theorem dX11_clock_20 : decode cX11_clock 20 = .ok (.lload_n 1, 1) := by decide +kernel
theorem dX11_clock_21 : decode cX11_clock 21 = .ok (.invokestatic 302, 3) := by decide +kernel
theorem dX11_clock_24 : decode cX11_clock 24 = .ok (.iload_n 3, 1) := by decide +kernel
theorem dX11_clock_25 : decode cX11_clock 25 = .ok (.invokestatic 306, 3) := by decide +kernel
theorem dX11_clock_28 : decode cX11_clock 28 = .ok (.ireturn, 1) := by decide +kernel
theorem dX11_hash_0 : decode cX11_hash 0 = .ok (.aload_n 0, 1) := by decide +kernel
theorem dX11_hash_1 : decode cX11_hash 1 = .ok (.getfield 14, 3) := by decide +kernel
theorem dX11_hash_4 : decode cX11_hash 4 = .ok (.iconst 0, 1) := by decide +kernel
theorem dX11_hash_5 : decode cX11_hash 5 = .ok (.aload_n 0, 1) := by decide +kernel
theorem dX11_hash_6 : decode cX11_hash 6 = .ok (.getfield 14, 3) := by decide +kernel
theorem dX11_hash_9 : decode cX11_hash 9 = .ok (.getfield 81, 3) := by decide +kernel
theorem dX11_hash_12 : decode cX11_hash 12 = .ok (.invokevirtual 310, 3) := by decide +kernel
theorem dX11_hash_15 : decode cX11_hash 15 = .ok (.lreturn, 1) := by decide +kernel
theorem dX11_key_0 : decode cX11_key 0 = .ok (.iload_n 1, 1) := by decide +kernel
theorem dX11_key_1 : decode cX11_key 1 = .ok (.ifCond .ne 11, 3) := by decide +kernel
theorem dX11_key_4 : decode cX11_key 4 = .ok (.aload_n 0, 1) := by decide +kernel
theorem dX11_key_5 : decode cX11_key 5 = .ok (.iload_n 2, 1) := by decide +kernel
theorem dX11_key_6 : decode cX11_key 6 = .ok (.invokevirtual 106, 3) := by decide +kernel
theorem dX11_key_9 : decode cX11_key 9 = .ok (.goto 4, 3) := by decide +kernel
theorem dX11_key_12 : decode cX11_key 12 = .ok (.aconst_null, 1) := by decide +kernel
theorem dX11_key_13 : decode cX11_key 13 = .ok (.astore_n 3, 1) := by decide +kernel
theorem dX11_key_14 : decode cX11_key 14 = .ok (.iload_n 1, 1) := by decide +kernel
theorem dX11_key_15 : decode cX11_key 15 = .ok (.iconst 1, 1) := by decide +kernel
theorem dX11_key_16 : decode cX11_key 16 = .ok (.if_icmp .ne 11, 3) := by decide +kernel
theorem dX11_key_19 : decode cX11_key 19 = .ok (.aload_n 0, 1) := by decide +kernel
theorem dX11_key_20 : decode cX11_key 20 = .ok (.iload_n 2, 1) := by decide +kernel
theorem dX11_key_21 : decode cX11_key 21 = .ok (.invokevirtual 165, 3) := by decide +kernel
theorem dX11_key_24 : decode cX11_key 24 = .ok (.goto 4, 3) := by decide +kernel
theorem dX11_key_27 : decode cX11_key 27 = .ok (.aconst_null, 1) := by decide +kernel
theorem dX11_key_28 : decode cX11_key 28 = .ok (.astore 4, 2) := by decide +kernel
theorem dX11_key_30 : decode cX11_key 30 = .ok (.aload_n 3, 1) := by decide +kernel
theorem dX11_key_31 : decode cX11_key 31 = .ok (.ifnull 8, 3) := by decide +kernel
theorem dX11_key_34 : decode cX11_key 34 = .ok (.aload_n 3, 1) := by decide +kernel
theorem dX11_key_35 : decode cX11_key 35 = .ok (.getfield 314, 3) := by decide +kernel
theorem dX11_key_38 : decode cX11_key 38 = .ok (.ireturn, 1) := by decide +kernel
theorem dX11_key_39 : decode cX11_key 39 = .ok (.aload 4, 2) := by decide +kernel
theorem dX11_key_41 : decode cX11_key 41 = .ok (.ifnull 11, 3) := by decide +kernel
theorem dX11_key_44 : decode cX11_key 44 = .ok (.aload 4, 2) := by decide +kernel
theorem dX11_key_46 : decode cX11_key 46 = .ok (.getfield 317, 3) := by decide +kernel
theorem dX11_key_49 : decode cX11_key 49 = .ok (.goto 5, 3) := by decide +kernel
theorem dX11_key_52 : decode cX11_key 52 = .ok (.bipush (-2), 2) := by decide +kernel
theorem dX11_key_54 : decode cX11_key 54 = .ok (.ireturn, 1) := by decide +kernel
theorem dX11_told_0 : decode cX11_told 0 = .ok (.iload_n 1, 1) := by decide +kernel
theorem dX11_told_1 : decode cX11_told 1 = .ok (.tableswitch 93 0 7 #[47, 52, 57, 65, 73, 78, 83, 88], 47) := by decide +kernel
theorem dX11_told_48 : decode cX11_told 48 = .ok (.aload_n 0, 1) := by decide +kernel
theorem dX11_told_49 : decode cX11_told 49 = .ok (.getfield 318, 3) := by decide +kernel
theorem dX11_told_52 : decode cX11_told 52 = .ok (.ireturn, 1) := by decide +kernel
theorem dX11_told_53 : decode cX11_told 53 = .ok (.aload_n 0, 1) := by decide +kernel
theorem dX11_told_54 : decode cX11_told 54 = .ok (.getfield 148, 3) := by decide +kernel
theorem dX11_told_57 : decode cX11_told 57 = .ok (.ireturn, 1) := by decide +kernel
theorem dX11_told_58 : decode cX11_told 58 = .ok (.aload_n 0, 1) := by decide +kernel
theorem dX11_told_59 : decode cX11_told 59 = .ok (.getfield 50, 3) := by decide +kernel
theorem dX11_told_62 : decode cX11_told 62 = .ok (.getfield 169, 3) := by decide +kernel
theorem dX11_told_65 : decode cX11_told 65 = .ok (.ireturn, 1) := by decide +kernel
theorem dX11_told_66 : decode cX11_told 66 = .ok (.aload_n 0, 1) := by decide +kernel
theorem dX11_told_67 : decode cX11_told 67 = .ok (.getfield 14, 3) := by decide +kernel
theorem dX11_told_70 : decode cX11_told 70 = .ok (.getfield 81, 3) := by decide +kernel
theorem dX11_told_73 : decode cX11_told 73 = .ok (.ireturn, 1) := by decide +kernel
theorem dX11_told_74 : decode cX11_told 74 = .ok (.aload_n 0, 1) := by decide +kernel
theorem dX11_told_75 : decode cX11_told 75 = .ok (.getfield 270, 3) := by decide +kernel
theorem dX11_told_78 : decode cX11_told 78 = .ok (.ireturn, 1) := by decide +kernel
theorem dX11_told_79 : decode cX11_told 79 = .ok (.aload_n 0, 1) := by decide +kernel
theorem dX11_told_80 : decode cX11_told 80 = .ok (.getfield 206, 3) := by decide +kernel
theorem dX11_told_83 : decode cX11_told 83 = .ok (.ireturn, 1) := by decide +kernel
theorem dX11_told_84 : decode cX11_told 84 = .ok (.aload_n 0, 1) := by decide +kernel
theorem dX11_told_85 : decode cX11_told 85 = .ok (.getfield 213, 3) := by decide +kernel
theorem dX11_told_88 : decode cX11_told 88 = .ok (.ireturn, 1) := by decide +kernel
theorem dX11_told_89 : decode cX11_told 89 = .ok (.aload_n 0, 1) := by decide +kernel
theorem dX11_told_90 : decode cX11_told 90 = .ok (.getfield 251, 3) := by decide +kernel
theorem dX11_told_93 : decode cX11_told 93 = .ok (.ireturn, 1) := by decide +kernel
theorem dX11_told_94 : decode cX11_told 94 = .ok (.bipush (-2), 2) := by decide +kernel
theorem dX11_told_96 : decode cX11_told 96 = .ok (.ireturn, 1) := by decide +kernel
theorem dX11_authorityAt_0 : decode cX11_authorityAt 0 = .ok (.iload_n 1, 1) := by decide +kernel
theorem dX11_authorityAt_1 : decode cX11_authorityAt 1 = .ok (.ifCond .lt 20, 3) := by decide +kernel
theorem dX11_authorityAt_4 : decode cX11_authorityAt 4 = .ok (.iload_n 1, 1) := by decide +kernel
theorem dX11_authorityAt_5 : decode cX11_authorityAt 5 = .ok (.aload_n 0, 1) := by decide +kernel
theorem dX11_authorityAt_6 : decode cX11_authorityAt 6 = .ok (.getfield 318, 3) := by decide +kernel
theorem dX11_authorityAt_9 : decode cX11_authorityAt 9 = .ok (.if_icmp .ge 12, 3) := by decide +kernel
theorem dX11_authorityAt_12 : decode cX11_authorityAt 12 = .ok (.aload_n 0, 1) := by decide +kernel
theorem dX11_authorityAt_13 : decode cX11_authorityAt 13 = .ok (.getfield 26, 3) := by decide +kernel
theorem dX11_authorityAt_16 : decode cX11_authorityAt 16 = .ok (.iload_n 1, 1) := by decide +kernel
theorem dX11_authorityAt_17 : decode cX11_authorityAt 17 = .ok (.aaload, 1) := by decide +kernel
theorem dX11_authorityAt_18 : decode cX11_authorityAt 18 = .ok (.goto 4, 3) := by decide +kernel
theorem dX11_authorityAt_21 : decode cX11_authorityAt 21 = .ok (.aconst_null, 1) := by decide +kernel
theorem dX11_authorityAt_22 : decode cX11_authorityAt 22 = .ok (.areturn, 1) := by decide +kernel
theorem dX11_signerAt_0 : decode cX11_signerAt 0 = .ok (.iload_n 1, 1) := by decide +kernel
theorem dX11_signerAt_1 : decode cX11_signerAt 1 = .ok (.ifCond .lt 20, 3) := by decide +kernel
theorem dX11_signerAt_4 : decode cX11_signerAt 4 = .ok (.iload_n 1, 1) := by decide +kernel
theorem dX11_signerAt_5 : decode cX11_signerAt 5 = .ok (.aload_n 0, 1) := by decide +kernel
theorem dX11_signerAt_6 : decode cX11_signerAt 6 = .ok (.getfield 148, 3) := by decide +kernel
theorem dX11_signerAt_9 : decode cX11_signerAt 9 = .ok (.if_icmp .ge 12, 3) := by decide +kernel
theorem dX11_signerAt_12 : decode cX11_signerAt 12 = .ok (.aload_n 0, 1) := by decide +kernel
theorem dX11_signerAt_13 : decode cX11_signerAt 13 = .ok (.getfield 32, 3) := by decide +kernel
theorem dX11_signerAt_16 : decode cX11_signerAt 16 = .ok (.iload_n 1, 1) := by decide +kernel
theorem dX11_signerAt_17 : decode cX11_signerAt 17 = .ok (.aaload, 1) := by decide +kernel
theorem dX11_signerAt_18 : decode cX11_signerAt 18 = .ok (.goto 4, 3) := by decide +kernel
theorem dX11_signerAt_21 : decode cX11_signerAt 21 = .ok (.aconst_null, 1) := by decide +kernel
theorem dX11_signerAt_22 : decode cX11_signerAt 22 = .ok (.areturn, 1) := by decide +kernel
theorem dX11_isName_0 : decode cX11_isName 0 = .ok (.aload_n 0, 1) := by decide +kernel
theorem dX11_isName_1 : decode cX11_isName 1 = .ok (.getfield 81, 3) := by decide +kernel
theorem dX11_isName_4 : decode cX11_isName 4 = .ok (.iconst 1, 1) := by decide +kernel
theorem dX11_isName_5 : decode cX11_isName 5 = .ok (.if_icmp .lt 16, 3) := by decide +kernel
theorem dX11_isName_8 : decode cX11_isName 8 = .ok (.aload_n 0, 1) := by decide +kernel
theorem dX11_isName_9 : decode cX11_isName 9 = .ok (.getfield 81, 3) := by decide +kernel
theorem dX11_isName_12 : decode cX11_isName 12 = .ok (.bipush 16, 2) := by decide +kernel
theorem dX11_isName_14 : decode cX11_isName 14 = .ok (.if_icmp .gt 7, 3) := by decide +kernel
theorem dX11_isName_17 : decode cX11_isName 17 = .ok (.iconst 1, 1) := by decide +kernel
theorem dX11_isName_18 : decode cX11_isName 18 = .ok (.goto 4, 3) := by decide +kernel
theorem dX11_isName_21 : decode cX11_isName 21 = .ok (.iconst 0, 1) := by decide +kernel
theorem dX11_isName_22 : decode cX11_isName 22 = .ok (.ireturn, 1) := by decide +kernel
theorem dX11_isSpan_0 : decode cX11_isSpan 0 = .ok (.iload_n 0, 1) := by decide +kernel
theorem dX11_isSpan_1 : decode cX11_isSpan 1 = .ok (.ifCond .lt 14, 3) := by decide +kernel
theorem dX11_isSpan_4 : decode cX11_isSpan 4 = .ok (.iload_n 0, 1) := by decide +kernel
theorem dX11_isSpan_5 : decode cX11_isSpan 5 = .ok (.ldc_w 321, 3) := by decide +kernel
theorem dX11_isSpan_8 : decode cX11_isSpan 8 = .ok (.if_icmp .gt 7, 3) := by decide +kernel
theorem dX11_isSpan_11 : decode cX11_isSpan 11 = .ok (.iconst 1, 1) := by decide +kernel
theorem dX11_isSpan_12 : decode cX11_isSpan 12 = .ok (.goto 4, 3) := by decide +kernel
theorem dX11_isSpan_15 : decode cX11_isSpan 15 = .ok (.iconst 0, 1) := by decide +kernel
theorem dX11_isSpan_16 : decode cX11_isSpan 16 = .ok (.ireturn, 1) := by decide +kernel
theorem dX11_newAuthority_0 : decode cX11_newAuthority 0 = .ok (.aload_n 0, 1) := by decide +kernel
theorem dX11_newAuthority_1 : decode cX11_newAuthority 1 = .ok (.getfield 14, 3) := by decide +kernel
theorem dX11_newAuthority_4 : decode cX11_newAuthority 4 = .ok (.invokestatic 138, 3) := by decide +kernel
theorem dX11_newAuthority_7 : decode cX11_newAuthority 7 = .ok (.ifCond .eq 10, 3) := by decide +kernel
theorem dX11_newAuthority_10 : decode cX11_newAuthority 10 = .ok (.iload_n 1, 1) := by decide +kernel
theorem dX11_newAuthority_11 : decode cX11_newAuthority 11 = .ok (.invokestatic 142, 3) := by decide +kernel
theorem dX11_newAuthority_14 : decode cX11_newAuthority 14 = .ok (.ifCond .ne 6, 3) := by decide +kernel
theorem dX11_newAuthority_17 : decode cX11_newAuthority 17 = .ok (.bipush (-2), 2) := by decide +kernel
theorem dX11_newAuthority_19 : decode cX11_newAuthority 19 = .ok (.ireturn, 1) := by decide +kernel
theorem dX11_newAuthority_20 : decode cX11_newAuthority 20 = .ok (.aload_n 0, 1) := by decide +kernel
theorem dX11_newAuthority_21 : decode cX11_newAuthority 21 = .ok (.getfield 318, 3) := by decide +kernel
theorem dX11_newAuthority_24 : decode cX11_newAuthority 24 = .ok (.iconst 4, 1) := by decide +kernel
theorem dX11_newAuthority_25 : decode cX11_newAuthority 25 = .ok (.if_icmp .lt 6, 3) := by decide +kernel
theorem dX11_newAuthority_28 : decode cX11_newAuthority 28 = .ok (.bipush (-3), 2) := by decide +kernel
theorem dX11_newAuthority_30 : decode cX11_newAuthority 30 = .ok (.ireturn, 1) := by decide +kernel
theorem dX11_newAuthority_31 : decode cX11_newAuthority 31 = .ok (.iconst 0, 1) := by decide +kernel
theorem dX11_newAuthority_32 : decode cX11_newAuthority 32 = .ok (.istore_n 2, 1) := by decide +kernel
theorem dX11_newAuthority_33 : decode cX11_newAuthority 33 = .ok (.iload_n 2, 1) := by decide +kernel
theorem dX11_newAuthority_34 : decode cX11_newAuthority 34 = .ok (.aload_n 0, 1) := by decide +kernel
theorem dX11_newAuthority_35 : decode cX11_newAuthority 35 = .ok (.getfield 318, 3) := by decide +kernel
theorem dX11_newAuthority_38 : decode cX11_newAuthority 38 = .ok (.if_icmp .ge 39, 3) := by decide +kernel
theorem dX11_newAuthority_41 : decode cX11_newAuthority 41 = .ok (.aload_n 0, 1) := by decide +kernel
theorem dX11_newAuthority_42 : decode cX11_newAuthority 42 = .ok (.getfield 26, 3) := by decide +kernel
theorem dX11_newAuthority_45 : decode cX11_newAuthority 45 = .ok (.iload_n 2, 1) := by decide +kernel
theorem dX11_newAuthority_46 : decode cX11_newAuthority 46 = .ok (.aaload, 1) := by decide +kernel
theorem dX11_newAuthority_47 : decode cX11_newAuthority 47 = .ok (.getfield 322, 3) := by decide +kernel
theorem dX11_newAuthority_50 : decode cX11_newAuthority 50 = .ok (.aload_n 0, 1) := by decide +kernel
theorem dX11_newAuthority_51 : decode cX11_newAuthority 51 = .ok (.getfield 14, 3) := by decide +kernel
theorem dX11_newAuthority_54 : decode cX11_newAuthority 54 = .ok (.iconst 0, 1) := by decide +kernel
theorem dX11_newAuthority_55 : decode cX11_newAuthority 55 = .ok (.aload_n 0, 1) := by decide +kernel
theorem dX11_newAuthority_56 : decode cX11_newAuthority 56 = .ok (.getfield 14, 3) := by decide +kernel
theorem dX11_newAuthority_59 : decode cX11_newAuthority 59 = .ok (.getfield 81, 3) := by decide +kernel
theorem dX11_newAuthority_62 : decode cX11_newAuthority 62 = .ok (.invokevirtual 325, 3) := by decide +kernel
theorem dX11_newAuthority_65 : decode cX11_newAuthority 65 = .ok (.ifCond .eq 6, 3) := by decide +kernel
theorem dX11_newAuthority_68 : decode cX11_newAuthority 68 = .ok (.bipush (-3), 2) := by decide +kernel
theorem dX11_newAuthority_70 : decode cX11_newAuthority 70 = .ok (.ireturn, 1) := by decide +kernel
theorem dX11_newAuthority_71 : decode cX11_newAuthority 71 = .ok (.iinc 2 1, 3) := by decide +kernel
theorem dX11_newAuthority_74 : decode cX11_newAuthority 74 = .ok (.goto (-41), 3) := by decide +kernel
theorem dX11_newAuthority_77 : decode cX11_newAuthority 77 = .ok (.aload_n 0, 1) := by decide +kernel
theorem dX11_newAuthority_78 : decode cX11_newAuthority 78 = .ok (.getfield 26, 3) := by decide +kernel
theorem dX11_newAuthority_81 : decode cX11_newAuthority 81 = .ok (.aload_n 0, 1) := by decide +kernel
theorem dX11_newAuthority_82 : decode cX11_newAuthority 82 = .ok (.getfield 318, 3) := by decide +kernel
theorem dX11_newAuthority_85 : decode cX11_newAuthority 85 = .ok (.aaload, 1) := by decide +kernel
theorem dX11_newAuthority_86 : decode cX11_newAuthority 86 = .ok (.aload_n 0, 1) := by decide +kernel
theorem dX11_newAuthority_87 : decode cX11_newAuthority 87 = .ok (.getfield 14, 3) := by decide +kernel
theorem dX11_newAuthority_90 : decode cX11_newAuthority 90 = .ok (.iload_n 1, 1) := by decide +kernel
theorem dX11_newAuthority_91 : decode cX11_newAuthority 91 = .ok (.invokevirtual 329, 3) := by decide +kernel
theorem dX11_newAuthority_94 : decode cX11_newAuthority 94 = .ok (.aload_n 0, 1) := by decide +kernel
theorem dX11_newAuthority_95 : decode cX11_newAuthority 95 = .ok (.dup, 1) := by decide +kernel
theorem dX11_newAuthority_96 : decode cX11_newAuthority 96 = .ok (.getfield 318, 3) := by decide +kernel
theorem dX11_newAuthority_99 : decode cX11_newAuthority 99 = .ok (.iconst 1, 1) := by decide +kernel
theorem dX11_newAuthority_100 : decode cX11_newAuthority 100 = .ok (.iadd, 1) := by decide +kernel
theorem dX11_newAuthority_101 : decode cX11_newAuthority 101 = .ok (.putfield 318, 3) := by decide +kernel
theorem dX11_newAuthority_104 : decode cX11_newAuthority 104 = .ok (.aload_n 0, 1) := by decide +kernel
theorem dX11_newAuthority_105 : decode cX11_newAuthority 105 = .ok (.getfield 318, 3) := by decide +kernel
theorem dX11_newAuthority_108 : decode cX11_newAuthority 108 = .ok (.iconst 1, 1) := by decide +kernel
theorem dX11_newAuthority_109 : decode cX11_newAuthority 109 = .ok (.isub, 1) := by decide +kernel
theorem dX11_newAuthority_110 : decode cX11_newAuthority 110 = .ok (.ireturn, 1) := by decide +kernel
theorem dX11_dropFirstHeld_0 : decode cX11_dropFirstHeld 0 = .ok (.aload_n 0, 1) := by decide +kernel
theorem dX11_dropFirstHeld_1 : decode cX11_dropFirstHeld 1 = .ok (.getfield 38, 3) := by decide +kernel
theorem dX11_dropFirstHeld_4 : decode cX11_dropFirstHeld 4 = .ok (.iconst 0, 1) := by decide +kernel
theorem dX11_dropFirstHeld_5 : decode cX11_dropFirstHeld 5 = .ok (.aaload, 1) := by decide +kernel
theorem dX11_dropFirstHeld_6 : decode cX11_dropFirstHeld 6 = .ok (.astore_n 1, 1) := by decide +kernel
theorem dX11_dropFirstHeld_7 : decode cX11_dropFirstHeld 7 = .ok (.iconst 1, 1) := by decide +kernel
theorem dX11_dropFirstHeld_8 : decode cX11_dropFirstHeld 8 = .ok (.istore_n 2, 1) := by decide +kernel
theorem dX11_dropFirstHeld_9 : decode cX11_dropFirstHeld 9 = .ok (.iload_n 2, 1) := by decide +kernel
theorem dX11_dropFirstHeld_10 : decode cX11_dropFirstHeld 10 = .ok (.bipush 16, 2) := by decide +kernel
theorem dX11_dropFirstHeld_12 : decode cX11_dropFirstHeld 12 = .ok (.if_icmp .ge 23, 3) := by decide +kernel
theorem dX11_dropFirstHeld_15 : decode cX11_dropFirstHeld 15 = .ok (.aload_n 0, 1) := by decide +kernel
theorem dX11_dropFirstHeld_16 : decode cX11_dropFirstHeld 16 = .ok (.getfield 38, 3) := by decide +kernel
theorem dX11_dropFirstHeld_19 : decode cX11_dropFirstHeld 19 = .ok (.iload_n 2, 1) := by decide +kernel
theorem dX11_dropFirstHeld_20 : decode cX11_dropFirstHeld 20 = .ok (.iconst 1, 1) := by decide +kernel
theorem dX11_dropFirstHeld_21 : decode cX11_dropFirstHeld 21 = .ok (.isub, 1) := by decide +kernel
theorem dX11_dropFirstHeld_22 : decode cX11_dropFirstHeld 22 = .ok (.aload_n 0, 1) := by decide +kernel
theorem dX11_dropFirstHeld_23 : decode cX11_dropFirstHeld 23 = .ok (.getfield 38, 3) := by decide +kernel
theorem dX11_dropFirstHeld_26 : decode cX11_dropFirstHeld 26 = .ok (.iload_n 2, 1) := by decide +kernel
theorem dX11_dropFirstHeld_27 : decode cX11_dropFirstHeld 27 = .ok (.aaload, 1) := by decide +kernel
theorem dX11_dropFirstHeld_28 : decode cX11_dropFirstHeld 28 = .ok (.aastore, 1) := by decide +kernel
theorem dX11_dropFirstHeld_29 : decode cX11_dropFirstHeld 29 = .ok (.iinc 2 1, 3) := by decide +kernel
theorem dX11_dropFirstHeld_32 : decode cX11_dropFirstHeld 32 = .ok (.goto (-23), 3) := by decide +kernel
theorem dX11_dropFirstHeld_35 : decode cX11_dropFirstHeld 35 = .ok (.aload_n 0, 1) := by decide +kernel
theorem dX11_dropFirstHeld_36 : decode cX11_dropFirstHeld 36 = .ok (.getfield 38, 3) := by decide +kernel
theorem dX11_dropFirstHeld_39 : decode cX11_dropFirstHeld 39 = .ok (.bipush 15, 2) := by decide +kernel
theorem dX11_dropFirstHeld_41 : decode cX11_dropFirstHeld 41 = .ok (.aload_n 1, 1) := by decide +kernel
theorem dX11_dropFirstHeld_42 : decode cX11_dropFirstHeld 42 = .ok (.aastore, 1) := by decide +kernel
theorem dX11_dropFirstHeld_43 : decode cX11_dropFirstHeld 43 = .ok (.aload_n 0, 1) := by decide +kernel
theorem dX11_dropFirstHeld_44 : decode cX11_dropFirstHeld 44 = .ok (.dup, 1) := by decide +kernel
theorem dX11_dropFirstHeld_45 : decode cX11_dropFirstHeld 45 = .ok (.getfield 270, 3) := by decide +kernel
theorem dX11_dropFirstHeld_48 : decode cX11_dropFirstHeld 48 = .ok (.iconst 1, 1) := by decide +kernel
theorem dX11_dropFirstHeld_49 : decode cX11_dropFirstHeld 49 = .ok (.isub, 1) := by decide +kernel
theorem dX11_dropFirstHeld_50 : decode cX11_dropFirstHeld 50 = .ok (.putfield 270, 3) := by decide +kernel
theorem dX11_dropFirstHeld_53 : decode cX11_dropFirstHeld 53 = .ok (.return_, 1) := by decide +kernel
theorem dX11_statusFor_0 : decode cX11_statusFor 0 = .ok (.aload_n 0, 1) := by decide +kernel
theorem dX11_statusFor_1 : decode cX11_statusFor 1 = .ok (.getfield 57, 3) := by decide +kernel
theorem dX11_statusFor_4 : decode cX11_statusFor 4 = .ok (.aload_n 0, 1) := by decide +kernel
theorem dX11_statusFor_5 : decode cX11_statusFor 5 = .ok (.getfield 14, 3) := by decide +kernel
theorem dX11_statusFor_8 : decode cX11_statusFor 8 = .ok (.invokevirtual 222, 3) := by decide +kernel
theorem dX11_statusFor_11 : decode cX11_statusFor 11 = .ok (.aload_n 0, 1) := by decide +kernel
theorem dX11_statusFor_12 : decode cX11_statusFor 12 = .ok (.getfield 64, 3) := by decide +kernel
theorem dX11_statusFor_15 : decode cX11_statusFor 15 = .ok (.aload_n 0, 1) := by decide +kernel
theorem dX11_statusFor_16 : decode cX11_statusFor 16 = .ok (.getfield 57, 3) := by decide +kernel
theorem dX11_statusFor_19 : decode cX11_statusFor 19 = .ok (.invokevirtual 295, 3) := by decide +kernel
theorem dX11_statusFor_22 : decode cX11_statusFor 22 = .ok (.aload_n 0, 1) := by decide +kernel
theorem dX11_statusFor_23 : decode cX11_statusFor 23 = .ok (.getfield 57, 3) := by decide +kernel
theorem dX11_statusFor_26 : decode cX11_statusFor 26 = .ok (.getfield 296, 3) := by decide +kernel
theorem dX11_statusFor_29 : decode cX11_statusFor 29 = .ok (.iconst (-1), 1) := by decide +kernel
theorem dX11_statusFor_30 : decode cX11_statusFor 30 = .ok (.if_icmp .eq 5, 3) := by decide +kernel
theorem dX11_statusFor_33 : decode cX11_statusFor 33 = .ok (.iconst 1, 1) := by decide +kernel
theorem dX11_statusFor_34 : decode cX11_statusFor 34 = .ok (.ireturn, 1) := by decide +kernel
theorem dX11_statusFor_35 : decode cX11_statusFor 35 = .ok (.iconst 0, 1) := by decide +kernel
theorem dX11_statusFor_36 : decode cX11_statusFor 36 = .ok (.istore_n 2, 1) := by decide +kernel
theorem dX11_statusFor_37 : decode cX11_statusFor 37 = .ok (.iload_n 2, 1) := by decide +kernel
theorem dX11_statusFor_38 : decode cX11_statusFor 38 = .ok (.aload_n 0, 1) := by decide +kernel
theorem dX11_statusFor_39 : decode cX11_statusFor 39 = .ok (.getfield 64, 3) := by decide +kernel
theorem dX11_statusFor_42 : decode cX11_statusFor 42 = .ok (.getfield 332, 3) := by decide +kernel
theorem dX11_statusFor_45 : decode cX11_statusFor 45 = .ok (.getfield 169, 3) := by decide +kernel
theorem dX11_statusFor_48 : decode cX11_statusFor 48 = .ok (.if_icmp .ge 33, 3) := by decide +kernel
theorem dX11_statusFor_51 : decode cX11_statusFor 51 = .ok (.aload_n 0, 1) := by decide +kernel
theorem dX11_statusFor_52 : decode cX11_statusFor 52 = .ok (.getfield 64, 3) := by decide +kernel
theorem dX11_statusFor_55 : decode cX11_statusFor 55 = .ok (.getfield 332, 3) := by decide +kernel
theorem dX11_statusFor_58 : decode cX11_statusFor 58 = .ok (.iload_n 2, 1) := by decide +kernel
theorem dX11_statusFor_59 : decode cX11_statusFor 59 = .ok (.aload_n 1, 1) := by decide +kernel
theorem dX11_statusFor_60 : decode cX11_statusFor 60 = .ok (.getfield 172, 3) := by decide +kernel
theorem dX11_statusFor_63 : decode cX11_statusFor 63 = .ok (.aload_n 1, 1) := by decide +kernel
theorem dX11_statusFor_64 : decode cX11_statusFor 64 = .ok (.getfield 176, 3) := by decide +kernel
theorem dX11_statusFor_67 : decode cX11_statusFor 67 = .ok (.invokevirtual 333, 3) := by decide +kernel
theorem dX11_statusFor_70 : decode cX11_statusFor 70 = .ok (.ifCond .eq 5, 3) := by decide +kernel
theorem dX11_statusFor_73 : decode cX11_statusFor 73 = .ok (.iconst 0, 1) := by decide +kernel
theorem dX11_statusFor_74 : decode cX11_statusFor 74 = .ok (.ireturn, 1) := by decide +kernel
theorem dX11_statusFor_75 : decode cX11_statusFor 75 = .ok (.iinc 2 1, 3) := by decide +kernel
theorem dX11_statusFor_78 : decode cX11_statusFor 78 = .ok (.goto (-41), 3) := by decide +kernel
theorem dX11_statusFor_81 : decode cX11_statusFor 81 = .ok (.bipush 6, 2) := by decide +kernel
theorem dX11_statusFor_83 : decode cX11_statusFor 83 = .ok (.ireturn, 1) := by decide +kernel
theorem dX11_writeStatusAlone_0 : decode cX11_writeStatusAlone 0 = .ok (.aload_n 0, 1) := by decide +kernel
theorem dX11_writeStatusAlone_1 : decode cX11_writeStatusAlone 1 = .ok (.getfield 18, 3) := by decide +kernel
theorem dX11_writeStatusAlone_4 : decode cX11_writeStatusAlone 4 = .ok (.invokevirtual 103, 3) := by decide +kernel
theorem dX11_writeStatusAlone_7 : decode cX11_writeStatusAlone 7 = .ok (.aload_n 0, 1) := by decide +kernel
theorem dX11_writeStatusAlone_8 : decode cX11_writeStatusAlone 8 = .ok (.getfield 18, 3) := by decide +kernel
theorem dX11_writeStatusAlone_11 : decode cX11_writeStatusAlone 11 = .ok (.bipush 48, 2) := by decide +kernel
theorem dX11_writeStatusAlone_13 : decode cX11_writeStatusAlone 13 = .ok (.invokevirtual 183, 3) := by decide +kernel
theorem dX11_writeStatusAlone_16 : decode cX11_writeStatusAlone 16 = .ok (.istore_n 2, 1) := by decide +kernel
theorem dX11_writeStatusAlone_17 : decode cX11_writeStatusAlone 17 = .ok (.aload_n 0, 1) := by decide +kernel
theorem dX11_writeStatusAlone_18 : decode cX11_writeStatusAlone 18 = .ok (.getfield 18, 3) := by decide +kernel
theorem dX11_writeStatusAlone_21 : decode cX11_writeStatusAlone 21 = .ok (.iload_n 1, 1) := by decide +kernel
theorem dX11_writeStatusAlone_22 : decode cX11_writeStatusAlone 22 = .ok (.invokevirtual 337, 3) := by decide +kernel
theorem dX11_writeStatusAlone_25 : decode cX11_writeStatusAlone 25 = .ok (.aload_n 0, 1) := by decide +kernel
theorem dX11_writeStatusAlone_26 : decode cX11_writeStatusAlone 26 = .ok (.getfield 18, 3) := by decide +kernel
theorem dX11_writeStatusAlone_29 : decode cX11_writeStatusAlone 29 = .ok (.iload_n 2, 1) := by decide +kernel
theorem dX11_writeStatusAlone_30 : decode cX11_writeStatusAlone 30 = .ok (.invokevirtual 190, 3) := by decide +kernel
theorem dX11_writeStatusAlone_33 : decode cX11_writeStatusAlone 33 = .ok (.return_, 1) := by decide +kernel
theorem dX11_writeAnswer_0 : decode cX11_writeAnswer 0 = .ok (.aload_n 0, 1) := by decide +kernel
theorem dX11_writeAnswer_1 : decode cX11_writeAnswer 1 = .ok (.getfield 18, 3) := by decide +kernel
theorem dX11_writeAnswer_4 : decode cX11_writeAnswer 4 = .ok (.invokevirtual 103, 3) := by decide +kernel
theorem dX11_writeAnswer_7 : decode cX11_writeAnswer 7 = .ok (.aload_n 0, 1) := by decide +kernel
theorem dX11_writeAnswer_8 : decode cX11_writeAnswer 8 = .ok (.getfield 18, 3) := by decide +kernel
theorem dX11_writeAnswer_11 : decode cX11_writeAnswer 11 = .ok (.bipush 48, 2) := by decide +kernel
theorem dX11_writeAnswer_13 : decode cX11_writeAnswer 13 = .ok (.invokevirtual 183, 3) := by decide +kernel
theorem dX11_writeAnswer_16 : decode cX11_writeAnswer 16 = .ok (.istore 7, 2) := by decide +kernel
theorem dX11_writeAnswer_18 : decode cX11_writeAnswer 18 = .ok (.aload_n 0, 1) := by decide +kernel
theorem dX11_writeAnswer_19 : decode cX11_writeAnswer 19 = .ok (.getfield 18, 3) := by decide +kernel
theorem dX11_writeAnswer_22 : decode cX11_writeAnswer 22 = .ok (.iconst 0, 1) := by decide +kernel
theorem dX11_writeAnswer_23 : decode cX11_writeAnswer 23 = .ok (.invokevirtual 337, 3) := by decide +kernel
theorem dX11_writeAnswer_26 : decode cX11_writeAnswer 26 = .ok (.aload_n 0, 1) := by decide +kernel
theorem dX11_writeAnswer_27 : decode cX11_writeAnswer 27 = .ok (.getfield 18, 3) := by decide +kernel
theorem dX11_writeAnswer_30 : decode cX11_writeAnswer 30 = .ok (.sipush 160, 3) := by decide +kernel
theorem dX11_writeAnswer_33 : decode cX11_writeAnswer 33 = .ok (.invokevirtual 183, 3) := by decide +kernel
theorem dX11_writeAnswer_36 : decode cX11_writeAnswer 36 = .ok (.istore 8, 2) := by decide +kernel
theorem dX11_writeAnswer_38 : decode cX11_writeAnswer 38 = .ok (.aload_n 0, 1) := by decide +kernel
theorem dX11_writeAnswer_39 : decode cX11_writeAnswer 39 = .ok (.getfield 18, 3) := by decide +kernel
theorem dX11_writeAnswer_42 : decode cX11_writeAnswer 42 = .ok (.bipush 48, 2) := by decide +kernel
theorem dX11_writeAnswer_44 : decode cX11_writeAnswer 44 = .ok (.invokevirtual 183, 3) := by decide +kernel
theorem dX11_writeAnswer_47 : decode cX11_writeAnswer 47 = .ok (.istore 9, 2) := by decide +kernel
theorem dX11_writeAnswer_49 : decode cX11_writeAnswer 49 = .ok (.aload_n 0, 1) := by decide +kernel
theorem dX11_writeAnswer_50 : decode cX11_writeAnswer 50 = .ok (.getfield 18, 3) := by decide +kernel
theorem dX11_writeAnswer_53 : decode cX11_writeAnswer 53 = .ok (.bipush 48, 2) := by decide +kernel
theorem dX11_writeAnswer_55 : decode cX11_writeAnswer 55 = .ok (.invokevirtual 183, 3) := by decide +kernel
theorem dX11_writeAnswer_58 : decode cX11_writeAnswer 58 = .ok (.istore 10, 2) := by decide +kernel
theorem dX11_writeAnswer_60 : decode cX11_writeAnswer 60 = .ok (.aload_n 0, 1) := by decide +kernel
theorem dX11_writeAnswer_61 : decode cX11_writeAnswer 61 = .ok (.aload_n 1, 1) := by decide +kernel
theorem dX11_writeAnswer_62 : decode cX11_writeAnswer 62 = .ok (.aload_n 2, 1) := by decide +kernel
theorem dX11_writeAnswer_63 : decode cX11_writeAnswer 63 = .ok (.invokevirtual 340, 3) := by decide +kernel
theorem dX11_writeAnswer_66 : decode cX11_writeAnswer 66 = .ok (.aload_n 0, 1) := by decide +kernel
theorem dX11_writeAnswer_67 : decode cX11_writeAnswer 67 = .ok (.getfield 18, 3) := by decide +kernel
theorem dX11_writeAnswer_70 : decode cX11_writeAnswer 70 = .ok (.lload_n 3, 1) := by decide +kernel
theorem dX11_writeAnswer_71 : decode cX11_writeAnswer 71 = .ok (.invokevirtual 344, 3) := by decide +kernel
theorem dX11_writeAnswer_74 : decode cX11_writeAnswer 74 = .ok (.aload_n 0, 1) := by decide +kernel
theorem dX11_writeAnswer_75 : decode cX11_writeAnswer 75 = .ok (.getfield 18, 3) := by decide +kernel
theorem dX11_writeAnswer_78 : decode cX11_writeAnswer 78 = .ok (.bipush 48, 2) := by decide +kernel
theorem dX11_writeAnswer_80 : decode cX11_writeAnswer 80 = .ok (.invokevirtual 183, 3) := by decide +kernel
theorem dX11_writeAnswer_83 : decode cX11_writeAnswer 83 = .ok (.istore 11, 2) := by decide +kernel
theorem dX11_writeAnswer_85 : decode cX11_writeAnswer 85 = .ok (.iconst 0, 1) := by decide +kernel
theorem dX11_writeAnswer_86 : decode cX11_writeAnswer 86 = .ok (.istore 12, 2) := by decide +kernel
theorem dX11_writeAnswer_88 : decode cX11_writeAnswer 88 = .ok (.iload 12, 2) := by decide +kernel
theorem dX11_writeAnswer_90 : decode cX11_writeAnswer 90 = .ok (.aload_n 0, 1) := by decide +kernel
theorem dX11_writeAnswer_91 : decode cX11_writeAnswer 91 = .ok (.getfield 64, 3) := by decide +kernel
theorem dX11_writeAnswer_94 : decode cX11_writeAnswer 94 = .ok (.getfield 332, 3) := by decide +kernel
theorem dX11_writeAnswer_97 : decode cX11_writeAnswer 97 = .ok (.getfield 169, 3) := by decide +kernel
theorem dX11_writeAnswer_100 : decode cX11_writeAnswer 100 = .ok (.if_icmp .ge 19, 3) := by decide +kernel
theorem dX11_writeAnswer_103 : decode cX11_writeAnswer 103 = .ok (.aload_n 0, 1) := by decide +kernel
theorem dX11_writeAnswer_104 : decode cX11_writeAnswer 104 = .ok (.iload 12, 2) := by decide +kernel
theorem dX11_writeAnswer_106 : decode cX11_writeAnswer 106 = .ok (.aload_n 1, 1) := by decide +kernel
theorem dX11_writeAnswer_107 : decode cX11_writeAnswer 107 = .ok (.lload_n 3, 1) := by decide +kernel
theorem dX11_writeAnswer_108 : decode cX11_writeAnswer 108 = .ok (.lload 5, 2) := by decide +kernel
theorem dX11_writeAnswer_110 : decode cX11_writeAnswer 110 = .ok (.invokevirtual 348, 3) := by decide +kernel
theorem dX11_writeAnswer_113 : decode cX11_writeAnswer 113 = .ok (.iinc 12 1, 3) := by decide +kernel
theorem dX11_writeAnswer_116 : decode cX11_writeAnswer 116 = .ok (.goto (-28), 3) := by decide +kernel
theorem dX11_writeAnswer_119 : decode cX11_writeAnswer 119 = .ok (.aload_n 0, 1) := by decide +kernel
theorem dX11_writeAnswer_120 : decode cX11_writeAnswer 120 = .ok (.getfield 18, 3) := by decide +kernel
theorem dX11_writeAnswer_123 : decode cX11_writeAnswer 123 = .ok (.iload 11, 2) := by decide +kernel
theorem dX11_writeAnswer_125 : decode cX11_writeAnswer 125 = .ok (.invokevirtual 190, 3) := by decide +kernel
theorem dX11_writeAnswer_128 : decode cX11_writeAnswer 128 = .ok (.aload_n 0, 1) := by decide +kernel
theorem dX11_writeAnswer_129 : decode cX11_writeAnswer 129 = .ok (.getfield 64, 3) := by decide +kernel
theorem dX11_writeAnswer_132 : decode cX11_writeAnswer 132 = .ok (.getfield 352, 3) := by decide +kernel
theorem dX11_writeAnswer_135 : decode cX11_writeAnswer 135 = .ok (.ifCond .le 29, 3) := by decide +kernel
theorem dX11_writeAnswer_138 : decode cX11_writeAnswer 138 = .ok (.aload_n 0, 1) := by decide +kernel
theorem dX11_writeAnswer_139 : decode cX11_writeAnswer 139 = .ok (.getfield 18, 3) := by decide +kernel
theorem dX11_writeAnswer_142 : decode cX11_writeAnswer 142 = .ok (.iconst 3, 1) := by decide +kernel
theorem dX11_writeAnswer_143 : decode cX11_writeAnswer 143 = .ok (.aload_n 0, 1) := by decide +kernel
theorem dX11_writeAnswer_144 : decode cX11_writeAnswer 144 = .ok (.getfield 14, 3) := by decide +kernel
theorem dX11_writeAnswer_147 : decode cX11_writeAnswer 147 = .ok (.aload_n 0, 1) := by decide +kernel
theorem dX11_writeAnswer_148 : decode cX11_writeAnswer 148 = .ok (.getfield 64, 3) := by decide +kernel
theorem dX11_writeAnswer_151 : decode cX11_writeAnswer 151 = .ok (.getfield 355, 3) := by decide +kernel
theorem dX11_writeAnswer_154 : decode cX11_writeAnswer 154 = .ok (.aload_n 0, 1) := by decide +kernel
theorem dX11_writeAnswer_155 : decode cX11_writeAnswer 155 = .ok (.getfield 64, 3) := by decide +kernel
theorem dX11_writeAnswer_158 : decode cX11_writeAnswer 158 = .ok (.getfield 352, 3) := by decide +kernel
theorem dX11_writeAnswer_161 : decode cX11_writeAnswer 161 = .ok (.invokevirtual 193, 3) := by decide +kernel
theorem dX11_writeAnswer_164 : decode cX11_writeAnswer 164 = .ok (.aload_n 0, 1) := by decide +kernel
theorem dX11_writeAnswer_165 : decode cX11_writeAnswer 165 = .ok (.getfield 18, 3) := by decide +kernel
theorem dX11_writeAnswer_168 : decode cX11_writeAnswer 168 = .ok (.iload 10, 2) := by decide +kernel
theorem dX11_writeAnswer_170 : decode cX11_writeAnswer 170 = .ok (.invokevirtual 190, 3) := by decide +kernel
theorem dX11_writeAnswer_173 : decode cX11_writeAnswer 173 = .ok (.aload_n 2, 1) := by decide +kernel
theorem dX11_writeAnswer_174 : decode cX11_writeAnswer 174 = .ok (.ifnonnull 10, 3) := by decide +kernel
theorem dX11_writeAnswer_177 : decode cX11_writeAnswer 177 = .ok (.aload_n 1, 1) := by decide +kernel
theorem dX11_writeAnswer_178 : decode cX11_writeAnswer 178 = .ok (.getfield 358, 3) := by decide +kernel
theorem dX11_writeAnswer_181 : decode cX11_writeAnswer 181 = .ok (.goto 7, 3) := by decide +kernel
theorem dX11_writeAnswer_184 : decode cX11_writeAnswer 184 = .ok (.aload_n 2, 1) := by decide +kernel
theorem dX11_writeAnswer_185 : decode cX11_writeAnswer 185 = .ok (.getfield 361, 3) := by decide +kernel
theorem dX11_writeAnswer_188 : decode cX11_writeAnswer 188 = .ok (.istore 12, 2) := by decide +kernel
theorem dX11_writeAnswer_190 : decode cX11_writeAnswer 190 = .ok (.aload_n 0, 1) := by decide +kernel
theorem dX11_writeAnswer_191 : decode cX11_writeAnswer 191 = .ok (.getfield 18, 3) := by decide +kernel
theorem dX11_writeAnswer_194 : decode cX11_writeAnswer 194 = .ok (.iload 12, 2) := by decide +kernel
theorem dX11_writeAnswer_196 : decode cX11_writeAnswer 196 = .ok (.aload_n 0, 1) := by decide +kernel
theorem dX11_writeAnswer_197 : decode cX11_writeAnswer 197 = .ok (.getfield 18, 3) := by decide +kernel
theorem dX11_writeAnswer_200 : decode cX11_writeAnswer 200 = .ok (.iload 10, 2) := by decide +kernel
theorem dX11_writeAnswer_202 : decode cX11_writeAnswer 202 = .ok (.aload_n 0, 1) := by decide +kernel
theorem dX11_writeAnswer_203 : decode cX11_writeAnswer 203 = .ok (.getfield 18, 3) := by decide +kernel
theorem dX11_writeAnswer_206 : decode cX11_writeAnswer 206 = .ok (.getfield 81, 3) := by decide +kernel
theorem dX11_writeAnswer_209 : decode cX11_writeAnswer 209 = .ok (.invokevirtual 310, 3) := by decide +kernel
theorem dX11_writeAnswer_212 : decode cX11_writeAnswer 212 = .ok (.invokestatic 362, 3) := by decide +kernel
theorem dX11_writeAnswer_215 : decode cX11_writeAnswer 215 = .ok (.invokevirtual 366, 3) := by decide +kernel
theorem dX11_writeAnswer_218 : decode cX11_writeAnswer 218 = .ok (.aload_n 2, 1) := by decide +kernel
theorem dX11_writeAnswer_219 : decode cX11_writeAnswer 219 = .ok (.ifnull 43, 3) := by decide +kernel
theorem dX11_writeAnswer_222 : decode cX11_writeAnswer 222 = .ok (.aload_n 0, 1) := by decide +kernel
theorem dX11_writeAnswer_223 : decode cX11_writeAnswer 223 = .ok (.getfield 18, 3) := by decide +kernel
theorem dX11_writeAnswer_226 : decode cX11_writeAnswer 226 = .ok (.sipush 160, 3) := by decide +kernel
theorem dX11_writeAnswer_229 : decode cX11_writeAnswer 229 = .ok (.invokevirtual 183, 3) := by decide +kernel
theorem dX11_writeAnswer_232 : decode cX11_writeAnswer 232 = .ok (.istore 13, 2) := by decide +kernel
theorem dX11_writeAnswer_234 : decode cX11_writeAnswer 234 = .ok (.aload_n 0, 1) := by decide +kernel
theorem dX11_writeAnswer_235 : decode cX11_writeAnswer 235 = .ok (.getfield 18, 3) := by decide +kernel
theorem dX11_writeAnswer_238 : decode cX11_writeAnswer 238 = .ok (.aload_n 2, 1) := by decide +kernel
theorem dX11_writeAnswer_239 : decode cX11_writeAnswer 239 = .ok (.getfield 162, 3) := by decide +kernel
theorem dX11_writeAnswer_242 : decode cX11_writeAnswer 242 = .ok (.iconst 0, 1) := by decide +kernel
theorem dX11_writeAnswer_243 : decode cX11_writeAnswer 243 = .ok (.aload_n 2, 1) := by decide +kernel
theorem dX11_writeAnswer_244 : decode cX11_writeAnswer 244 = .ok (.getfield 162, 3) := by decide +kernel
theorem dX11_writeAnswer_247 : decode cX11_writeAnswer 247 = .ok (.getfield 81, 3) := by decide +kernel
theorem dX11_writeAnswer_250 : decode cX11_writeAnswer 250 = .ok (.invokevirtual 369, 3) := by decide +kernel
theorem dX11_writeAnswer_253 : decode cX11_writeAnswer 253 = .ok (.aload_n 0, 1) := by decide +kernel
theorem dX11_writeAnswer_254 : decode cX11_writeAnswer 254 = .ok (.getfield 18, 3) := by decide +kernel
theorem dX11_writeAnswer_257 : decode cX11_writeAnswer 257 = .ok (.iload 13, 2) := by decide +kernel
theorem dX11_writeAnswer_259 : decode cX11_writeAnswer 259 = .ok (.invokevirtual 190, 3) := by decide +kernel
theorem dX11_writeAnswer_262 : decode cX11_writeAnswer 262 = .ok (.aload_n 0, 1) := by decide +kernel
theorem dX11_writeAnswer_263 : decode cX11_writeAnswer 263 = .ok (.getfield 18, 3) := by decide +kernel
theorem dX11_writeAnswer_266 : decode cX11_writeAnswer 266 = .ok (.iload 9, 2) := by decide +kernel
theorem dX11_writeAnswer_268 : decode cX11_writeAnswer 268 = .ok (.invokevirtual 190, 3) := by decide +kernel
theorem dX11_writeAnswer_271 : decode cX11_writeAnswer 271 = .ok (.aload_n 0, 1) := by decide +kernel
theorem dX11_writeAnswer_272 : decode cX11_writeAnswer 272 = .ok (.getfield 18, 3) := by decide +kernel
theorem dX11_writeAnswer_275 : decode cX11_writeAnswer 275 = .ok (.iload 8, 2) := by decide +kernel
theorem dX11_writeAnswer_277 : decode cX11_writeAnswer 277 = .ok (.invokevirtual 190, 3) := by decide +kernel
theorem dX11_writeAnswer_280 : decode cX11_writeAnswer 280 = .ok (.aload_n 0, 1) := by decide +kernel
theorem dX11_writeAnswer_281 : decode cX11_writeAnswer 281 = .ok (.getfield 18, 3) := by decide +kernel
theorem dX11_writeAnswer_284 : decode cX11_writeAnswer 284 = .ok (.iload 7, 2) := by decide +kernel
theorem dX11_writeAnswer_286 : decode cX11_writeAnswer 286 = .ok (.invokevirtual 190, 3) := by decide +kernel
theorem dX11_writeAnswer_289 : decode cX11_writeAnswer 289 = .ok (.return_, 1) := by decide +kernel
theorem dX11_writeTeller_0 : decode cX11_writeTeller 0 = .ok (.aload_n 2, 1) := by decide +kernel
theorem dX11_writeTeller_1 : decode cX11_writeTeller 1 = .ok (.ifnonnull 26, 3) := by decide +kernel
theorem dX11_writeTeller_4 : decode cX11_writeTeller 4 = .ok (.aload_n 0, 1) := by decide +kernel
theorem dX11_writeTeller_5 : decode cX11_writeTeller 5 = .ok (.getfield 18, 3) := by decide +kernel
theorem dX11_writeTeller_8 : decode cX11_writeTeller 8 = .ok (.iconst 1, 1) := by decide +kernel
theorem dX11_writeTeller_9 : decode cX11_writeTeller 9 = .ok (.aload_n 1, 1) := by decide +kernel
theorem dX11_writeTeller_10 : decode cX11_writeTeller 10 = .ok (.getfield 322, 3) := by decide +kernel
theorem dX11_writeTeller_13 : decode cX11_writeTeller 13 = .ok (.iconst 0, 1) := by decide +kernel
theorem dX11_writeTeller_14 : decode cX11_writeTeller 14 = .ok (.aload_n 1, 1) := by decide +kernel
theorem dX11_writeTeller_15 : decode cX11_writeTeller 15 = .ok (.getfield 322, 3) := by decide +kernel
theorem dX11_writeTeller_18 : decode cX11_writeTeller 18 = .ok (.getfield 81, 3) := by decide +kernel
theorem dX11_writeTeller_21 : decode cX11_writeTeller 21 = .ok (.invokevirtual 193, 3) := by decide +kernel
theorem dX11_writeTeller_24 : decode cX11_writeTeller 24 = .ok (.goto 33, 3) := by decide +kernel
theorem dX11_writeTeller_27 : decode cX11_writeTeller 27 = .ok (.aload_n 0, 1) := by decide +kernel
theorem dX11_writeTeller_28 : decode cX11_writeTeller 28 = .ok (.getfield 18, 3) := by decide +kernel
theorem dX11_writeTeller_31 : decode cX11_writeTeller 31 = .ok (.sipush 162, 3) := by decide +kernel
theorem dX11_writeTeller_34 : decode cX11_writeTeller 34 = .ok (.invokevirtual 183, 3) := by decide +kernel
theorem dX11_writeTeller_37 : decode cX11_writeTeller 37 = .ok (.istore_n 3, 1) := by decide +kernel
theorem dX11_writeTeller_38 : decode cX11_writeTeller 38 = .ok (.aload_n 0, 1) := by decide +kernel
theorem dX11_writeTeller_39 : decode cX11_writeTeller 39 = .ok (.getfield 18, 3) := by decide +kernel
theorem dX11_writeTeller_42 : decode cX11_writeTeller 42 = .ok (.aload_n 2, 1) := by decide +kernel
theorem dX11_writeTeller_43 : decode cX11_writeTeller 43 = .ok (.getfield 373, 3) := by decide +kernel
theorem dX11_writeTeller_46 : decode cX11_writeTeller 46 = .ok (.invokevirtual 374, 3) := by decide +kernel
theorem dX11_writeTeller_49 : decode cX11_writeTeller 49 = .ok (.aload_n 0, 1) := by decide +kernel
theorem dX11_writeTeller_50 : decode cX11_writeTeller 50 = .ok (.getfield 18, 3) := by decide +kernel
theorem dX11_writeTeller_53 : decode cX11_writeTeller 53 = .ok (.iload_n 3, 1) := by decide +kernel
theorem dX11_writeTeller_54 : decode cX11_writeTeller 54 = .ok (.invokevirtual 190, 3) := by decide +kernel
theorem dX11_writeTeller_57 : decode cX11_writeTeller 57 = .ok (.return_, 1) := by decide +kernel
theorem dX11_writeSingle_0 : decode cX11_writeSingle 0 = .ok (.aload_n 0, 1) := by decide +kernel
theorem dX11_writeSingle_1 : decode cX11_writeSingle 1 = .ok (.getfield 18, 3) := by decide +kernel
theorem dX11_writeSingle_4 : decode cX11_writeSingle 4 = .ok (.bipush 48, 2) := by decide +kernel
theorem dX11_writeSingle_6 : decode cX11_writeSingle 6 = .ok (.invokevirtual 183, 3) := by decide +kernel
theorem dX11_writeSingle_9 : decode cX11_writeSingle 9 = .ok (.istore 7, 2) := by decide +kernel
theorem dX11_writeSingle_11 : decode cX11_writeSingle 11 = .ok (.aload_n 0, 1) := by decide +kernel
theorem dX11_writeSingle_12 : decode cX11_writeSingle 12 = .ok (.getfield 18, 3) := by decide +kernel
theorem dX11_writeSingle_15 : decode cX11_writeSingle 15 = .ok (.aload_n 0, 1) := by decide +kernel
theorem dX11_writeSingle_16 : decode cX11_writeSingle 16 = .ok (.getfield 64, 3) := by decide +kernel
theorem dX11_writeSingle_19 : decode cX11_writeSingle 19 = .ok (.getfield 332, 3) := by decide +kernel
theorem dX11_writeSingle_22 : decode cX11_writeSingle 22 = .ok (.iload_n 1, 1) := by decide +kernel
theorem dX11_writeSingle_23 : decode cX11_writeSingle 23 = .ok (.invokevirtual 186, 3) := by decide +kernel
theorem dX11_writeSingle_26 : decode cX11_writeSingle 26 = .ok (.aload_n 0, 1) := by decide +kernel
theorem dX11_writeSingle_27 : decode cX11_writeSingle 27 = .ok (.iload_n 1, 1) := by decide +kernel
theorem dX11_writeSingle_28 : decode cX11_writeSingle 28 = .ok (.aload_n 2, 1) := by decide +kernel
theorem dX11_writeSingle_29 : decode cX11_writeSingle 29 = .ok (.lload_n 3, 1) := by decide +kernel
theorem dX11_writeSingle_30 : decode cX11_writeSingle 30 = .ok (.invokevirtual 377, 3) := by decide +kernel
theorem dX11_writeSingle_33 : decode cX11_writeSingle 33 = .ok (.aload_n 0, 1) := by decide +kernel
theorem dX11_writeSingle_34 : decode cX11_writeSingle 34 = .ok (.getfield 18, 3) := by decide +kernel
theorem dX11_writeSingle_37 : decode cX11_writeSingle 37 = .ok (.lload_n 3, 1) := by decide +kernel
theorem dX11_writeSingle_38 : decode cX11_writeSingle 38 = .ok (.invokevirtual 344, 3) := by decide +kernel
theorem dX11_writeSingle_41 : decode cX11_writeSingle 41 = .ok (.lload 5, 2) := by decide +kernel
theorem dX11_writeSingle_43 : decode cX11_writeSingle 43 = .ok (.ldc2_w 129, 3) := by decide +kernel
theorem dX11_writeSingle_46 : decode cX11_writeSingle 46 = .ok (.lcmp, 1) := by decide +kernel
theorem dX11_writeSingle_47 : decode cX11_writeSingle 47 = .ok (.ifCond .eq 33, 3) := by decide +kernel
theorem dX11_writeSingle_50 : decode cX11_writeSingle 50 = .ok (.aload_n 0, 1) := by decide +kernel
theorem dX11_writeSingle_51 : decode cX11_writeSingle 51 = .ok (.getfield 18, 3) := by decide +kernel
theorem dX11_writeSingle_54 : decode cX11_writeSingle 54 = .ok (.sipush 160, 3) := by decide +kernel
theorem dX11_writeSingle_57 : decode cX11_writeSingle 57 = .ok (.invokevirtual 183, 3) := by decide +kernel
theorem dX11_writeSingle_60 : decode cX11_writeSingle 60 = .ok (.istore 8, 2) := by decide +kernel
theorem dX11_writeSingle_62 : decode cX11_writeSingle 62 = .ok (.aload_n 0, 1) := by decide +kernel
theorem dX11_writeSingle_63 : decode cX11_writeSingle 63 = .ok (.getfield 18, 3) := by decide +kernel
theorem dX11_writeSingle_66 : decode cX11_writeSingle 66 = .ok (.lload 5, 2) := by decide +kernel
theorem dX11_writeSingle_68 : decode cX11_writeSingle 68 = .ok (.invokevirtual 344, 3) := by decide +kernel
theorem dX11_writeSingle_71 : decode cX11_writeSingle 71 = .ok (.aload_n 0, 1) := by decide +kernel
theorem dX11_writeSingle_72 : decode cX11_writeSingle 72 = .ok (.getfield 18, 3) := by decide +kernel
theorem dX11_writeSingle_75 : decode cX11_writeSingle 75 = .ok (.iload 8, 2) := by decide +kernel
theorem dX11_writeSingle_77 : decode cX11_writeSingle 77 = .ok (.invokevirtual 190, 3) := by decide +kernel
theorem dX11_writeSingle_80 : decode cX11_writeSingle 80 = .ok (.aload_n 0, 1) := by decide +kernel
theorem dX11_writeSingle_81 : decode cX11_writeSingle 81 = .ok (.getfield 18, 3) := by decide +kernel
theorem dX11_writeSingle_84 : decode cX11_writeSingle 84 = .ok (.iload 7, 2) := by decide +kernel
theorem dX11_writeSingle_86 : decode cX11_writeSingle 86 = .ok (.invokevirtual 190, 3) := by decide +kernel
theorem dX11_writeSingle_89 : decode cX11_writeSingle 89 = .ok (.return_, 1) := by decide +kernel
theorem dX11_writeState_0 : decode cX11_writeState 0 = .ok (.aload_n 0, 1) := by decide +kernel
theorem dX11_writeState_1 : decode cX11_writeState 1 = .ok (.getfield 64, 3) := by decide +kernel
theorem dX11_writeState_4 : decode cX11_writeState 4 = .ok (.getfield 332, 3) := by decide +kernel
theorem dX11_writeState_7 : decode cX11_writeState 7 = .ok (.iload_n 1, 1) := by decide +kernel
theorem dX11_writeState_8 : decode cX11_writeState 8 = .ok (.aload_n 2, 1) := by decide +kernel
theorem dX11_writeState_9 : decode cX11_writeState 9 = .ok (.getfield 172, 3) := by decide +kernel
theorem dX11_writeState_12 : decode cX11_writeState 12 = .ok (.aload_n 2, 1) := by decide +kernel
theorem dX11_writeState_13 : decode cX11_writeState 13 = .ok (.getfield 176, 3) := by decide +kernel
theorem dX11_writeState_16 : decode cX11_writeState 16 = .ok (.invokevirtual 333, 3) := by decide +kernel
theorem dX11_writeState_19 : decode cX11_writeState 19 = .ok (.istore 5, 2) := by decide +kernel
theorem dX11_writeState_21 : decode cX11_writeState 21 = .ok (.iload 5, 2) := by decide +kernel
theorem dX11_writeState_23 : decode cX11_writeState 23 = .ok (.ifCond .eq 22, 3) := by decide +kernel
theorem dX11_writeState_26 : decode cX11_writeState 26 = .ok (.aload_n 2, 1) := by decide +kernel
theorem dX11_writeState_27 : decode cX11_writeState 27 = .ok (.aload_n 0, 1) := by decide +kernel
theorem dX11_writeState_28 : decode cX11_writeState 28 = .ok (.getfield 64, 3) := by decide +kernel
theorem dX11_writeState_31 : decode cX11_writeState 31 = .ok (.getfield 332, 3) := by decide +kernel
theorem dX11_writeState_34 : decode cX11_writeState 34 = .ok (.getfield 381, 3) := by decide +kernel
theorem dX11_writeState_37 : decode cX11_writeState 37 = .ok (.iload_n 1, 1) := by decide +kernel
theorem dX11_writeState_38 : decode cX11_writeState 38 = .ok (.iaload, 1) := by decide +kernel
theorem dX11_writeState_39 : decode cX11_writeState 39 = .ok (.invokevirtual 110, 3) := by decide +kernel
theorem dX11_writeState_42 : decode cX11_writeState 42 = .ok (.goto 4, 3) := by decide +kernel
theorem dX11_writeState_45 : decode cX11_writeState 45 = .ok (.iconst (-1), 1) := by decide +kernel
theorem dX11_writeState_46 : decode cX11_writeState 46 = .ok (.istore 6, 2) := by decide +kernel
theorem dX11_writeState_48 : decode cX11_writeState 48 = .ok (.iload 6, 2) := by decide +kernel
theorem dX11_writeState_50 : decode cX11_writeState 50 = .ok (.iconst (-1), 1) := by decide +kernel
theorem dX11_writeState_51 : decode cX11_writeState 51 = .ok (.if_icmp .ne 23, 3) := by decide +kernel
theorem dX11_writeState_54 : decode cX11_writeState 54 = .ok (.aload_n 0, 1) := by decide +kernel
theorem dX11_writeState_55 : decode cX11_writeState 55 = .ok (.getfield 18, 3) := by decide +kernel
theorem dX11_writeState_58 : decode cX11_writeState 58 = .ok (.aload_n 0, 1) := by decide +kernel
theorem dX11_writeState_59 : decode cX11_writeState 59 = .ok (.getfield 18, 3) := by decide +kernel
theorem dX11_writeState_62 : decode cX11_writeState 62 = .ok (.sipush 130, 3) := by decide +kernel
theorem dX11_writeState_65 : decode cX11_writeState 65 = .ok (.invokevirtual 183, 3) := by decide +kernel
theorem dX11_writeState_68 : decode cX11_writeState 68 = .ok (.invokevirtual 190, 3) := by decide +kernel
theorem dX11_writeState_71 : decode cX11_writeState 71 = .ok (.goto 82, 3) := by decide +kernel
theorem dX11_writeState_74 : decode cX11_writeState 74 = .ok (.aload_n 2, 1) := by decide +kernel
theorem dX11_writeState_75 : decode cX11_writeState 75 = .ok (.iload 6, 2) := by decide +kernel
theorem dX11_writeState_77 : decode cX11_writeState 77 = .ok (.lload_n 3, 1) := by decide +kernel
theorem dX11_writeState_78 : decode cX11_writeState 78 = .ok (.invokevirtual 384, 3) := by decide +kernel
theorem dX11_writeState_81 : decode cX11_writeState 81 = .ok (.ifCond .eq 55, 3) := by decide +kernel
theorem dX11_writeState_84 : decode cX11_writeState 84 = .ok (.aload_n 0, 1) := by decide +kernel
theorem dX11_writeState_85 : decode cX11_writeState 85 = .ok (.getfield 18, 3) := by decide +kernel
theorem dX11_writeState_88 : decode cX11_writeState 88 = .ok (.sipush 161, 3) := by decide +kernel
theorem dX11_writeState_91 : decode cX11_writeState 91 = .ok (.invokevirtual 183, 3) := by decide +kernel
theorem dX11_writeState_94 : decode cX11_writeState 94 = .ok (.istore 7, 2) := by decide +kernel
theorem dX11_writeState_96 : decode cX11_writeState 96 = .ok (.aload_n 0, 1) := by decide +kernel
theorem dX11_writeState_97 : decode cX11_writeState 97 = .ok (.getfield 18, 3) := by decide +kernel
theorem dX11_writeState_100 : decode cX11_writeState 100 = .ok (.aload_n 2, 1) := by decide +kernel
theorem dX11_writeState_101 : decode cX11_writeState 101 = .ok (.getfield 125, 3) := by decide +kernel
theorem dX11_writeState_104 : decode cX11_writeState 104 = .ok (.iload 6, 2) := by decide +kernel
theorem dX11_writeState_106 : decode cX11_writeState 106 = .ok (.laload, 1) := by decide +kernel
theorem dX11_writeState_107 : decode cX11_writeState 107 = .ok (.invokevirtual 344, 3) := by decide +kernel
theorem dX11_writeState_110 : decode cX11_writeState 110 = .ok (.aload_n 0, 1) := by decide +kernel
theorem dX11_writeState_111 : decode cX11_writeState 111 = .ok (.getfield 18, 3) := by decide +kernel
theorem dX11_writeState_114 : decode cX11_writeState 114 = .ok (.aload_n 2, 1) := by decide +kernel
theorem dX11_writeState_115 : decode cX11_writeState 115 = .ok (.getfield 131, 3) := by decide +kernel
theorem dX11_writeState_118 : decode cX11_writeState 118 = .ok (.iload 6, 2) := by decide +kernel
theorem dX11_writeState_120 : decode cX11_writeState 120 = .ok (.iaload, 1) := by decide +kernel
theorem dX11_writeState_121 : decode cX11_writeState 121 = .ok (.invokevirtual 337, 3) := by decide +kernel
theorem dX11_writeState_124 : decode cX11_writeState 124 = .ok (.aload_n 0, 1) := by decide +kernel
theorem dX11_writeState_125 : decode cX11_writeState 125 = .ok (.getfield 18, 3) := by decide +kernel
theorem dX11_writeState_128 : decode cX11_writeState 128 = .ok (.iload 7, 2) := by decide +kernel
theorem dX11_writeState_130 : decode cX11_writeState 130 = .ok (.invokevirtual 190, 3) := by decide +kernel
theorem dX11_writeState_133 : decode cX11_writeState 133 = .ok (.goto 20, 3) := by decide +kernel
theorem dX11_writeState_136 : decode cX11_writeState 136 = .ok (.aload_n 0, 1) := by decide +kernel
theorem dX11_writeState_137 : decode cX11_writeState 137 = .ok (.getfield 18, 3) := by decide +kernel
theorem dX11_writeState_140 : decode cX11_writeState 140 = .ok (.aload_n 0, 1) := by decide +kernel
theorem dX11_writeState_141 : decode cX11_writeState 141 = .ok (.getfield 18, 3) := by decide +kernel
theorem dX11_writeState_144 : decode cX11_writeState 144 = .ok (.sipush 128, 3) := by decide +kernel
theorem dX11_writeState_147 : decode cX11_writeState 147 = .ok (.invokevirtual 183, 3) := by decide +kernel
theorem dX11_writeState_150 : decode cX11_writeState 150 = .ok (.invokevirtual 190, 3) := by decide +kernel
theorem dX11_writeState_153 : decode cX11_writeState 153 = .ok (.return_, 1) := by decide +kernel
theorem dX11_verdictOnText_0 : decode cX11_verdictOnText 0 = .ok (.aload_n 0, 1) := by decide +kernel
theorem dX11_verdictOnText_1 : decode cX11_verdictOnText 1 = .ok (.getfield 57, 3) := by decide +kernel
theorem dX11_verdictOnText_4 : decode cX11_verdictOnText 4 = .ok (.getfield 296, 3) := by decide +kernel
theorem dX11_verdictOnText_7 : decode cX11_verdictOnText 7 = .ok (.iconst (-1), 1) := by decide +kernel
theorem dX11_verdictOnText_8 : decode cX11_verdictOnText 8 = .ok (.if_icmp .eq 6, 3) := by decide +kernel
theorem dX11_verdictOnText_11 : decode cX11_verdictOnText 11 = .ok (.bipush 21, 2) := by decide +kernel
theorem dX11_verdictOnText_13 : decode cX11_verdictOnText 13 = .ok (.ireturn, 1) := by decide +kernel
theorem dX11_verdictOnText_14 : decode cX11_verdictOnText 14 = .ok (.aload_n 0, 1) := by decide +kernel
theorem dX11_verdictOnText_15 : decode cX11_verdictOnText 15 = .ok (.getfield 71, 3) := by decide +kernel
theorem dX11_verdictOnText_18 : decode cX11_verdictOnText 18 = .ok (.getfield 388, 3) := by decide +kernel
theorem dX11_verdictOnText_21 : decode cX11_verdictOnText 21 = .ok (.ifCond .eq 6, 3) := by decide +kernel
theorem dX11_verdictOnText_24 : decode cX11_verdictOnText 24 = .ok (.bipush 22, 2) := by decide +kernel
theorem dX11_verdictOnText_26 : decode cX11_verdictOnText 26 = .ok (.ireturn, 1) := by decide +kernel
theorem dX11_verdictOnText_27 : decode cX11_verdictOnText 27 = .ok (.aload_n 0, 1) := by decide +kernel
theorem dX11_verdictOnText_28 : decode cX11_verdictOnText 28 = .ok (.getfield 71, 3) := by decide +kernel
theorem dX11_verdictOnText_31 : decode cX11_verdictOnText 31 = .ok (.aload_n 0, 1) := by decide +kernel
theorem dX11_verdictOnText_32 : decode cX11_verdictOnText 32 = .ok (.getfield 14, 3) := by decide +kernel
theorem dX11_verdictOnText_35 : decode cX11_verdictOnText 35 = .ok (.aload_n 1, 1) := by decide +kernel
theorem dX11_verdictOnText_36 : decode cX11_verdictOnText 36 = .ok (.getfield 322, 3) := by decide +kernel
theorem dX11_verdictOnText_39 : decode cX11_verdictOnText 39 = .ok (.aload_n 1, 1) := by decide +kernel
theorem dX11_verdictOnText_40 : decode cX11_verdictOnText 40 = .ok (.getfield 176, 3) := by decide +kernel
theorem dX11_verdictOnText_43 : decode cX11_verdictOnText 43 = .ok (.invokevirtual 391, 3) := by decide +kernel
theorem dX11_verdictOnText_46 : decode cX11_verdictOnText 46 = .ok (.istore 4, 2) := by decide +kernel
theorem dX11_verdictOnText_48 : decode cX11_verdictOnText 48 = .ok (.iload 4, 2) := by decide +kernel
theorem dX11_verdictOnText_50 : decode cX11_verdictOnText 50 = .ok (.ifCond .eq 7, 3) := by decide +kernel
theorem dX11_verdictOnText_53 : decode cX11_verdictOnText 53 = .ok (.iconst 0, 1) := by decide +kernel
theorem dX11_verdictOnText_54 : decode cX11_verdictOnText 54 = .ok (.goto 9, 3) := by decide +kernel
theorem dX11_verdictOnText_57 : decode cX11_verdictOnText 57 = .ok (.aload_n 0, 1) := by decide +kernel
theorem dX11_verdictOnText_58 : decode cX11_verdictOnText 58 = .ok (.aload_n 1, 1) := by decide +kernel
theorem dX11_verdictOnText_59 : decode cX11_verdictOnText 59 = .ok (.lload_n 2, 1) := by decide +kernel
theorem dX11_verdictOnText_60 : decode cX11_verdictOnText 60 = .ok (.invokevirtual 395, 3) := by decide +kernel
theorem dX11_verdictOnText_63 : decode cX11_verdictOnText 63 = .ok (.istore 5, 2) := by decide +kernel
theorem dX11_verdictOnText_65 : decode cX11_verdictOnText 65 = .ok (.iload 5, 2) := by decide +kernel
theorem dX11_verdictOnText_67 : decode cX11_verdictOnText 67 = .ok (.ifCond .eq 6, 3) := by decide +kernel
theorem dX11_verdictOnText_70 : decode cX11_verdictOnText 70 = .ok (.iload 5, 2) := by decide +kernel
theorem dX11_verdictOnText_72 : decode cX11_verdictOnText 72 = .ok (.ireturn, 1) := by decide +kernel
theorem dX11_verdictOnText_73 : decode cX11_verdictOnText 73 = .ok (.iload 4, 2) := by decide +kernel
theorem dX11_verdictOnText_75 : decode cX11_verdictOnText 75 = .ok (.ifCond .eq 11, 3) := by decide +kernel
theorem dX11_verdictOnText_78 : decode cX11_verdictOnText 78 = .ok (.aload_n 1, 1) := by decide +kernel
theorem dX11_verdictOnText_79 : decode cX11_verdictOnText 79 = .ok (.getfield 314, 3) := by decide +kernel
theorem dX11_verdictOnText_82 : decode cX11_verdictOnText 82 = .ok (.i2l, 1) := by decide +kernel
theorem dX11_verdictOnText_83 : decode cX11_verdictOnText 83 = .ok (.goto 13, 3) := by decide +kernel
theorem dX11_verdictOnText_86 : decode cX11_verdictOnText 86 = .ok (.aload_n 0, 1) := by decide +kernel
theorem dX11_verdictOnText_87 : decode cX11_verdictOnText 87 = .ok (.getfield 71, 3) := by decide +kernel
theorem dX11_verdictOnText_90 : decode cX11_verdictOnText 90 = .ok (.getfield 285, 3) := by decide +kernel
theorem dX11_verdictOnText_93 : decode cX11_verdictOnText 93 = .ok (.getfield 398, 3) := by decide +kernel
theorem dX11_verdictOnText_96 : decode cX11_verdictOnText 96 = .ok (.lstore 6, 2) := by decide +kernel
theorem dX11_verdictOnText_98 : decode cX11_verdictOnText 98 = .ok (.aload_n 0, 1) := by decide +kernel
theorem dX11_verdictOnText_99 : decode cX11_verdictOnText 99 = .ok (.getfield 14, 3) := by decide +kernel
theorem dX11_verdictOnText_102 : decode cX11_verdictOnText 102 = .ok (.aload_n 0, 1) := by decide +kernel
theorem dX11_verdictOnText_103 : decode cX11_verdictOnText 103 = .ok (.getfield 71, 3) := by decide +kernel
theorem dX11_verdictOnText_106 : decode cX11_verdictOnText 106 = .ok (.getfield 400, 3) := by decide +kernel
theorem dX11_verdictOnText_109 : decode cX11_verdictOnText 109 = .ok (.aload_n 0, 1) := by decide +kernel
theorem dX11_verdictOnText_110 : decode cX11_verdictOnText 110 = .ok (.getfield 71, 3) := by decide +kernel
theorem dX11_verdictOnText_113 : decode cX11_verdictOnText 113 = .ok (.getfield 403, 3) := by decide +kernel
theorem dX11_verdictOnText_116 : decode cX11_verdictOnText 116 = .ok (.invokevirtual 310, 3) := by decide +kernel
theorem dX11_verdictOnText_119 : decode cX11_verdictOnText 119 = .ok (.lstore 8, 2) := by decide +kernel
theorem dX11_verdictOnText_121 : decode cX11_verdictOnText 121 = .ok (.aload_n 0, 1) := by decide +kernel
theorem dX11_verdictOnText_122 : decode cX11_verdictOnText 122 = .ok (.getfield 71, 3) := by decide +kernel
theorem dX11_verdictOnText_125 : decode cX11_verdictOnText 125 = .ok (.getfield 406, 3) := by decide +kernel
theorem dX11_verdictOnText_128 : decode cX11_verdictOnText 128 = .ok (.lload 6, 2) := by decide +kernel
theorem dX11_verdictOnText_130 : decode cX11_verdictOnText 130 = .ok (.lload 8, 2) := by decide +kernel
theorem dX11_verdictOnText_132 : decode cX11_verdictOnText 132 = .ok (.invokestatic 408, 3) := by decide +kernel
theorem dX11_verdictOnText_135 : decode cX11_verdictOnText 135 = .ok (.ifCond .ne 6, 3) := by decide +kernel
theorem dX11_verdictOnText_138 : decode cX11_verdictOnText 138 = .ok (.bipush 28, 2) := by decide +kernel
theorem dX11_verdictOnText_140 : decode cX11_verdictOnText 140 = .ok (.ireturn, 1) := by decide +kernel
theorem dX11_verdictOnText_141 : decode cX11_verdictOnText 141 = .ok (.aload_n 0, 1) := by decide +kernel
theorem dX11_verdictOnText_142 : decode cX11_verdictOnText 142 = .ok (.getfield 21, 3) := by decide +kernel
theorem dX11_verdictOnText_145 : decode cX11_verdictOnText 145 = .ok (.aload_n 0, 1) := by decide +kernel
theorem dX11_verdictOnText_146 : decode cX11_verdictOnText 146 = .ok (.getfield 14, 3) := by decide +kernel
theorem dX11_verdictOnText_149 : decode cX11_verdictOnText 149 = .ok (.aload_n 0, 1) := by decide +kernel
theorem dX11_verdictOnText_150 : decode cX11_verdictOnText 150 = .ok (.getfield 71, 3) := by decide +kernel
theorem dX11_verdictOnText_153 : decode cX11_verdictOnText 153 = .ok (.getfield 412, 3) := by decide +kernel
theorem dX11_verdictOnText_156 : decode cX11_verdictOnText 156 = .ok (.aload_n 0, 1) := by decide +kernel
theorem dX11_verdictOnText_157 : decode cX11_verdictOnText 157 = .ok (.getfield 71, 3) := by decide +kernel
theorem dX11_verdictOnText_160 : decode cX11_verdictOnText 160 = .ok (.getfield 413, 3) := by decide +kernel
theorem dX11_verdictOnText_163 : decode cX11_verdictOnText 163 = .ok (.invokevirtual 325, 3) := by decide +kernel
theorem dX11_verdictOnText_166 : decode cX11_verdictOnText 166 = .ok (.istore 10, 2) := by decide +kernel
theorem dX11_verdictOnText_168 : decode cX11_verdictOnText 168 = .ok (.aload_n 0, 1) := by decide +kernel
theorem dX11_verdictOnText_169 : decode cX11_verdictOnText 169 = .ok (.getfield 21, 3) := by decide +kernel
theorem dX11_verdictOnText_172 : decode cX11_verdictOnText 172 = .ok (.getfield 81, 3) := by decide +kernel
theorem dX11_verdictOnText_175 : decode cX11_verdictOnText 175 = .ok (.ifCond .le 13, 3) := by decide +kernel
theorem dX11_verdictOnText_178 : decode cX11_verdictOnText 178 = .ok (.iload 10, 2) := by decide +kernel
theorem dX11_verdictOnText_180 : decode cX11_verdictOnText 180 = .ok (.ifCond .ne 8, 3) := by decide +kernel
theorem dX11_verdictOnText_183 : decode cX11_verdictOnText 183 = .ok (.bipush 29, 2) := by decide +kernel
theorem dX11_verdictOnText_185 : decode cX11_verdictOnText 185 = .ok (.goto 4, 3) := by decide +kernel
theorem dX11_verdictOnText_188 : decode cX11_verdictOnText 188 = .ok (.iconst 0, 1) := by decide +kernel
theorem dX11_verdictOnText_189 : decode cX11_verdictOnText 189 = .ok (.ireturn, 1) := by decide +kernel
theorem dX11_verdictOnCert_0 : decode cX11_verdictOnCert 0 = .ok (.aload_n 0, 1) := by decide +kernel
theorem dX11_verdictOnCert_1 : decode cX11_verdictOnCert 1 = .ok (.getfield 71, 3) := by decide +kernel
theorem dX11_verdictOnCert_4 : decode cX11_verdictOnCert 4 = .ok (.getfield 285, 3) := by decide +kernel
theorem dX11_verdictOnCert_7 : decode cX11_verdictOnCert 7 = .ok (.astore 4, 2) := by decide +kernel
theorem dX11_verdictOnCert_9 : decode cX11_verdictOnCert 9 = .ok (.aload_n 0, 1) := by decide +kernel
theorem dX11_verdictOnCert_10 : decode cX11_verdictOnCert 10 = .ok (.getfield 71, 3) := by decide +kernel
theorem dX11_verdictOnCert_13 : decode cX11_verdictOnCert 13 = .ok (.getfield 414, 3) := by decide +kernel
theorem dX11_verdictOnCert_16 : decode cX11_verdictOnCert 16 = .ok (.ifCond .eq 17, 3) := by decide +kernel
theorem dX11_verdictOnCert_19 : decode cX11_verdictOnCert 19 = .ok (.aload_n 0, 1) := by decide +kernel
theorem dX11_verdictOnCert_20 : decode cX11_verdictOnCert 20 = .ok (.getfield 71, 3) := by decide +kernel
theorem dX11_verdictOnCert_23 : decode cX11_verdictOnCert 23 = .ok (.aload_n 0, 1) := by decide +kernel
theorem dX11_verdictOnCert_24 : decode cX11_verdictOnCert 24 = .ok (.getfield 14, 3) := by decide +kernel
theorem dX11_verdictOnCert_27 : decode cX11_verdictOnCert 27 = .ok (.invokevirtual 417, 3) := by decide +kernel
theorem dX11_verdictOnCert_30 : decode cX11_verdictOnCert 30 = .ok (.ifCond .ne 6, 3) := by decide +kernel
theorem dX11_verdictOnCert_33 : decode cX11_verdictOnCert 33 = .ok (.bipush 23, 2) := by decide +kernel
theorem dX11_verdictOnCert_35 : decode cX11_verdictOnCert 35 = .ok (.ireturn, 1) := by decide +kernel
theorem dX11_verdictOnCert_36 : decode cX11_verdictOnCert 36 = .ok (.aload_n 0, 1) := by decide +kernel
theorem dX11_verdictOnCert_37 : decode cX11_verdictOnCert 37 = .ok (.getfield 14, 3) := by decide +kernel
theorem dX11_verdictOnCert_40 : decode cX11_verdictOnCert 40 = .ok (.aload 4, 2) := by decide +kernel
theorem dX11_verdictOnCert_42 : decode cX11_verdictOnCert 42 = .ok (.getfield 420, 3) := by decide +kernel
theorem dX11_verdictOnCert_45 : decode cX11_verdictOnCert 45 = .ok (.aload 4, 2) := by decide +kernel
theorem dX11_verdictOnCert_47 : decode cX11_verdictOnCert 47 = .ok (.getfield 423, 3) := by decide +kernel
theorem dX11_verdictOnCert_50 : decode cX11_verdictOnCert 50 = .ok (.invokevirtual 310, 3) := by decide +kernel
theorem dX11_verdictOnCert_53 : decode cX11_verdictOnCert 53 = .ok (.lstore 5, 2) := by decide +kernel
theorem dX11_verdictOnCert_55 : decode cX11_verdictOnCert 55 = .ok (.aload_n 1, 1) := by decide +kernel
theorem dX11_verdictOnCert_56 : decode cX11_verdictOnCert 56 = .ok (.getfield 322, 3) := by decide +kernel
theorem dX11_verdictOnCert_59 : decode cX11_verdictOnCert 59 = .ok (.aload_n 0, 1) := by decide +kernel
theorem dX11_verdictOnCert_60 : decode cX11_verdictOnCert 60 = .ok (.getfield 14, 3) := by decide +kernel
theorem dX11_verdictOnCert_63 : decode cX11_verdictOnCert 63 = .ok (.aload 4, 2) := by decide +kernel
theorem dX11_verdictOnCert_65 : decode cX11_verdictOnCert 65 = .ok (.getfield 426, 3) := by decide +kernel
theorem dX11_verdictOnCert_68 : decode cX11_verdictOnCert 68 = .ok (.aload 4, 2) := by decide +kernel
theorem dX11_verdictOnCert_70 : decode cX11_verdictOnCert 70 = .ok (.getfield 429, 3) := by decide +kernel
theorem dX11_verdictOnCert_73 : decode cX11_verdictOnCert 73 = .ok (.invokevirtual 325, 3) := by decide +kernel
theorem dX11_verdictOnCert_76 : decode cX11_verdictOnCert 76 = .ok (.ifCond .eq 21, 3) := by decide +kernel
theorem dX11_verdictOnCert_79 : decode cX11_verdictOnCert 79 = .ok (.aload 4, 2) := by decide +kernel
theorem dX11_verdictOnCert_81 : decode cX11_verdictOnCert 81 = .ok (.getfield 432, 3) := by decide +kernel
theorem dX11_verdictOnCert_84 : decode cX11_verdictOnCert 84 = .ok (.aload_n 1, 1) := by decide +kernel
theorem dX11_verdictOnCert_85 : decode cX11_verdictOnCert 85 = .ok (.getfield 314, 3) := by decide +kernel
theorem dX11_verdictOnCert_88 : decode cX11_verdictOnCert 88 = .ok (.i2l, 1) := by decide +kernel
theorem dX11_verdictOnCert_89 : decode cX11_verdictOnCert 89 = .ok (.lload 5, 2) := by decide +kernel
theorem dX11_verdictOnCert_91 : decode cX11_verdictOnCert 91 = .ok (.invokestatic 408, 3) := by decide +kernel
theorem dX11_verdictOnCert_94 : decode cX11_verdictOnCert 94 = .ok (.ifCond .ne 6, 3) := by decide +kernel
theorem dX11_verdictOnCert_97 : decode cX11_verdictOnCert 97 = .ok (.bipush 24, 2) := by decide +kernel
theorem dX11_verdictOnCert_99 : decode cX11_verdictOnCert 99 = .ok (.ireturn, 1) := by decide +kernel
theorem dX11_verdictOnCert_100 : decode cX11_verdictOnCert 100 = .ok (.aload 4, 2) := by decide +kernel
theorem dX11_verdictOnCert_102 : decode cX11_verdictOnCert 102 = .ok (.getfield 433, 3) := by decide +kernel
theorem dX11_verdictOnCert_105 : decode cX11_verdictOnCert 105 = .ok (.iconst 1, 1) := by decide +kernel
theorem dX11_verdictOnCert_106 : decode cX11_verdictOnCert 106 = .ok (.iand, 1) := by decide +kernel
theorem dX11_verdictOnCert_107 : decode cX11_verdictOnCert 107 = .ok (.ifCond .ne 6, 3) := by decide +kernel
theorem dX11_verdictOnCert_110 : decode cX11_verdictOnCert 110 = .ok (.bipush 25, 2) := by decide +kernel
theorem dX11_verdictOnCert_112 : decode cX11_verdictOnCert 112 = .ok (.ireturn, 1) := by decide +kernel
theorem dX11_verdictOnCert_113 : decode cX11_verdictOnCert 113 = .ok (.lload_n 2, 1) := by decide +kernel
theorem dX11_verdictOnCert_114 : decode cX11_verdictOnCert 114 = .ok (.aload 4, 2) := by decide +kernel
theorem dX11_verdictOnCert_116 : decode cX11_verdictOnCert 116 = .ok (.getfield 436, 3) := by decide +kernel
theorem dX11_verdictOnCert_119 : decode cX11_verdictOnCert 119 = .ok (.lcmp, 1) := by decide +kernel
theorem dX11_verdictOnCert_120 : decode cX11_verdictOnCert 120 = .ok (.ifCond .lt 13, 3) := by decide +kernel
theorem dX11_verdictOnCert_123 : decode cX11_verdictOnCert 123 = .ok (.lload_n 2, 1) := by decide +kernel
theorem dX11_verdictOnCert_124 : decode cX11_verdictOnCert 124 = .ok (.aload 4, 2) := by decide +kernel
theorem dX11_verdictOnCert_126 : decode cX11_verdictOnCert 126 = .ok (.getfield 437, 3) := by decide +kernel
theorem dX11_verdictOnCert_129 : decode cX11_verdictOnCert 129 = .ok (.lcmp, 1) := by decide +kernel
theorem dX11_verdictOnCert_130 : decode cX11_verdictOnCert 130 = .ok (.ifCond .le 6, 3) := by decide +kernel
theorem dX11_verdictOnCert_133 : decode cX11_verdictOnCert 133 = .ok (.bipush 26, 2) := by decide +kernel
theorem dX11_verdictOnCert_135 : decode cX11_verdictOnCert 135 = .ok (.ireturn, 1) := by decide +kernel
theorem dX11_verdictOnCert_136 : decode cX11_verdictOnCert 136 = .ok (.aload 4, 2) := by decide +kernel
theorem dX11_verdictOnCert_138 : decode cX11_verdictOnCert 138 = .ok (.getfield 433, 3) := by decide +kernel
theorem dX11_verdictOnCert_141 : decode cX11_verdictOnCert 141 = .ok (.iconst 2, 1) := by decide +kernel
theorem dX11_verdictOnCert_142 : decode cX11_verdictOnCert 142 = .ok (.iand, 1) := by decide +kernel
theorem dX11_verdictOnCert_143 : decode cX11_verdictOnCert 143 = .ok (.ifCond .ne 7, 3) := by decide +kernel
theorem dX11_verdictOnCert_146 : decode cX11_verdictOnCert 146 = .ok (.iconst 1, 1) := by decide +kernel
theorem dX11_verdictOnCert_147 : decode cX11_verdictOnCert 147 = .ok (.goto 4, 3) := by decide +kernel
theorem dX11_verdictOnCert_150 : decode cX11_verdictOnCert 150 = .ok (.iconst 0, 1) := by decide +kernel
theorem dX11_verdictOnCert_151 : decode cX11_verdictOnCert 151 = .ok (.istore 7, 2) := by decide +kernel
theorem dX11_verdictOnCert_153 : decode cX11_verdictOnCert 153 = .ok (.iload 7, 2) := by decide +kernel
theorem dX11_verdictOnCert_155 : decode cX11_verdictOnCert 155 = .ok (.ifCond .eq 23, 3) := by decide +kernel
theorem dX11_verdictOnCert_158 : decode cX11_verdictOnCert 158 = .ok (.aload_n 1, 1) := by decide +kernel
theorem dX11_verdictOnCert_159 : decode cX11_verdictOnCert 159 = .ok (.aload_n 1, 1) := by decide +kernel
theorem dX11_verdictOnCert_160 : decode cX11_verdictOnCert 160 = .ok (.aload 4, 2) := by decide +kernel
theorem dX11_verdictOnCert_162 : decode cX11_verdictOnCert 162 = .ok (.getfield 440, 3) := by decide +kernel
theorem dX11_verdictOnCert_165 : decode cX11_verdictOnCert 165 = .ok (.invokevirtual 110, 3) := by decide +kernel
theorem dX11_verdictOnCert_168 : decode cX11_verdictOnCert 168 = .ok (.lload_n 2, 1) := by decide +kernel
theorem dX11_verdictOnCert_169 : decode cX11_verdictOnCert 169 = .ok (.invokevirtual 384, 3) := by decide +kernel
theorem dX11_verdictOnCert_172 : decode cX11_verdictOnCert 172 = .ok (.ifCond .eq 6, 3) := by decide +kernel
theorem dX11_verdictOnCert_175 : decode cX11_verdictOnCert 175 = .ok (.bipush 27, 2) := by decide +kernel
theorem dX11_verdictOnCert_177 : decode cX11_verdictOnCert 177 = .ok (.ireturn, 1) := by decide +kernel
theorem dX11_verdictOnCert_178 : decode cX11_verdictOnCert 178 = .ok (.iconst 0, 1) := by decide +kernel
theorem dX11_verdictOnCert_179 : decode cX11_verdictOnCert 179 = .ok (.ireturn, 1) := by decide +kernel
