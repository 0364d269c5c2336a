theorem dX12_readAnswer_158 : decode cX12_readAnswer 158 = .ok (.aload_n 0, 1) := by decide +kernel
theorem dX12_readAnswer_159 : decode cX12_readAnswer 159 = .ok (.getfield 276, 3) := by decide +kernel
theorem dX12_readAnswer_162 : decode cX12_readAnswer 162 = .ok (.istore 4, 2) := by decide +kernel
theorem dX12_readAnswer_164 : decode cX12_readAnswer 164 = .ok (.aload_n 0, 1) := by decide +kernel
theorem dX12_readAnswer_165 : decode cX12_readAnswer 165 = .ok (.iconst 1, 1) := by decide +kernel
theorem dX12_readAnswer_166 : decode cX12_readAnswer 166 = .ok (.putfield 401, 3) := by decide +kernel
theorem dX12_readAnswer_169 : decode cX12_readAnswer 169 = .ok (.aload_n 0, 1) := by decide +kernel
theorem dX12_readAnswer_170 : decode cX12_readAnswer 170 = .ok (.iload 4, 2) := by decide +kernel
theorem dX12_readAnswer_172 : decode cX12_readAnswer 172 = .ok (.invokevirtual 414, 3) := by decide +kernel
theorem dX12_readAnswer_175 : decode cX12_readAnswer 175 = .ok (.ifCond .eq 12, 3) := by decide +kernel
theorem dX12_readAnswer_178 : decode cX12_readAnswer 178 = .ok (.aload_n 0, 1) := by decide +kernel
theorem dX12_readAnswer_179 : decode cX12_readAnswer 179 = .ok (.iload 4, 2) := by decide +kernel
theorem dX12_readAnswer_181 : decode cX12_readAnswer 181 = .ok (.invokevirtual 350, 3) := by decide +kernel
theorem dX12_readAnswer_184 : decode cX12_readAnswer 184 = .ok (.ifCond .ne 5, 3) := by decide +kernel
theorem dX12_readAnswer_187 : decode cX12_readAnswer 187 = .ok (.iconst 0, 1) := by decide +kernel
theorem dX12_readAnswer_188 : decode cX12_readAnswer 188 = .ok (.ireturn, 1) := by decide +kernel
theorem dX12_readAnswer_189 : decode cX12_readAnswer 189 = .ok (.aload_n 0, 1) := by decide +kernel
theorem dX12_readAnswer_190 : decode cX12_readAnswer 190 = .ok (.iload_n 3, 1) := by decide +kernel
theorem dX12_readAnswer_191 : decode cX12_readAnswer 191 = .ok (.invokevirtual 350, 3) := by decide +kernel
theorem dX12_readAnswer_194 : decode cX12_readAnswer 194 = .ok (.ifCond .eq 34, 3) := by decide +kernel
theorem dX12_readAnswer_197 : decode cX12_readAnswer 197 = .ok (.aload_n 0, 1) := by decide +kernel
theorem dX12_readAnswer_198 : decode cX12_readAnswer 198 = .ok (.iload_n 2, 1) := by decide +kernel
theorem dX12_readAnswer_199 : decode cX12_readAnswer 199 = .ok (.invokevirtual 350, 3) := by decide +kernel
theorem dX12_readAnswer_202 : decode cX12_readAnswer 202 = .ok (.ifCond .eq 26, 3) := by decide +kernel
theorem dX12_readAnswer_205 : decode cX12_readAnswer 205 = .ok (.aload_n 0, 1) := by decide +kernel
theorem dX12_readAnswer_206 : decode cX12_readAnswer 206 = .ok (.iload_n 1, 1) := by decide +kernel
theorem dX12_readAnswer_207 : decode cX12_readAnswer 207 = .ok (.invokevirtual 350, 3) := by decide +kernel
theorem dX12_readAnswer_210 : decode cX12_readAnswer 210 = .ok (.ifCond .eq 18, 3) := by decide +kernel
theorem dX12_readAnswer_213 : decode cX12_readAnswer 213 = .ok (.aload_n 0, 1) := by decide +kernel
theorem dX12_readAnswer_214 : decode cX12_readAnswer 214 = .ok (.aload_n 0, 1) := by decide +kernel
theorem dX12_readAnswer_215 : decode cX12_readAnswer 215 = .ok (.getfield 121, 3) := by decide +kernel
theorem dX12_readAnswer_218 : decode cX12_readAnswer 218 = .ok (.invokevirtual 350, 3) := by decide +kernel
theorem dX12_readAnswer_221 : decode cX12_readAnswer 221 = .ok (.ifCond .eq 7, 3) := by decide +kernel
theorem dX12_readAnswer_224 : decode cX12_readAnswer 224 = .ok (.iconst 1, 1) := by decide +kernel
theorem dX12_readAnswer_225 : decode cX12_readAnswer 225 = .ok (.goto 4, 3) := by decide +kernel
theorem dX12_readAnswer_228 : decode cX12_readAnswer 228 = .ok (.iconst 0, 1) := by decide +kernel
theorem dX12_readAnswer_229 : decode cX12_readAnswer 229 = .ok (.ireturn, 1) := by decide +kernel
theorem dX12_reads_0 : decode cX12_reads 0 = .ok (.aload_n 0, 1) := by decide +kernel
theorem dX12_reads_1 : decode cX12_reads 1 = .ok (.iconst 0, 1) := by decide +kernel
theorem dX12_reads_2 : decode cX12_reads 2 = .ok (.putfield 259, 3) := by decide +kernel
theorem dX12_reads_5 : decode cX12_reads 5 = .ok (.aload_n 0, 1) := by decide +kernel
theorem dX12_reads_6 : decode cX12_reads 6 = .ok (.iconst 0, 1) := by decide +kernel
theorem dX12_reads_7 : decode cX12_reads 7 = .ok (.putfield 279, 3) := by decide +kernel
theorem dX12_reads_10 : decode cX12_reads 10 = .ok (.aload_n 0, 1) := by decide +kernel
theorem dX12_reads_11 : decode cX12_reads 11 = .ok (.iconst (-1), 1) := by decide +kernel
theorem dX12_reads_12 : decode cX12_reads 12 = .ok (.putfield 256, 3) := by decide +kernel
theorem dX12_reads_15 : decode cX12_reads 15 = .ok (.iload_n 1, 1) := by decide +kernel
theorem dX12_reads_16 : decode cX12_reads 16 = .ok (.ifCond .ne 31, 3) := by decide +kernel
theorem dX12_reads_19 : decode cX12_reads 19 = .ok (.aload_n 0, 1) := by decide +kernel
theorem dX12_reads_20 : decode cX12_reads 20 = .ok (.aload_n 0, 1) := by decide +kernel
theorem dX12_reads_21 : decode cX12_reads 21 = .ok (.getfield 121, 3) := by decide +kernel
theorem dX12_reads_24 : decode cX12_reads 24 = .ok (.invokevirtual 414, 3) := by decide +kernel
theorem dX12_reads_27 : decode cX12_reads 27 = .ok (.ifCond .eq 18, 3) := by decide +kernel
theorem dX12_reads_30 : decode cX12_reads 30 = .ok (.aload_n 0, 1) := by decide +kernel
theorem dX12_reads_31 : decode cX12_reads 31 = .ok (.aload_n 0, 1) := by decide +kernel
theorem dX12_reads_32 : decode cX12_reads 32 = .ok (.getfield 121, 3) := by decide +kernel
theorem dX12_reads_35 : decode cX12_reads 35 = .ok (.invokevirtual 350, 3) := by decide +kernel
theorem dX12_reads_38 : decode cX12_reads 38 = .ok (.ifCond .eq 7, 3) := by decide +kernel
theorem dX12_reads_41 : decode cX12_reads 41 = .ok (.iconst 1, 1) := by decide +kernel
theorem dX12_reads_42 : decode cX12_reads 42 = .ok (.goto 4, 3) := by decide +kernel
theorem dX12_reads_45 : decode cX12_reads 45 = .ok (.iconst 0, 1) := by decide +kernel
theorem dX12_reads_46 : decode cX12_reads 46 = .ok (.ireturn, 1) := by decide +kernel
theorem dX12_reads_47 : decode cX12_reads 47 = .ok (.iload_n 1, 1) := by decide +kernel
theorem dX12_reads_48 : decode cX12_reads 48 = .ok (.iconst 1, 1) := by decide +kernel
theorem dX12_reads_49 : decode cX12_reads 49 = .ok (.if_icmp .ne 10, 3) := by decide +kernel
theorem dX12_reads_52 : decode cX12_reads 52 = .ok (.aload_n 0, 1) := by decide +kernel
theorem dX12_reads_53 : decode cX12_reads 53 = .ok (.invokevirtual 417, 3) := by decide +kernel
theorem dX12_reads_56 : decode cX12_reads 56 = .ok (.goto 7, 3) := by decide +kernel
theorem dX12_reads_59 : decode cX12_reads 59 = .ok (.aload_n 0, 1) := by decide +kernel
theorem dX12_reads_60 : decode cX12_reads 60 = .ok (.invokevirtual 421, 3) := by decide +kernel
theorem dX12_reads_63 : decode cX12_reads 63 = .ok (.ireturn, 1) := by decide +kernel
theorem dX12_check_0 : decode cX12_check 0 = .ok (.iload_n 1, 1) := by decide +kernel
theorem dX12_check_1 : decode cX12_check 1 = .ok (.i2l, 1) := by decide +kernel
theorem dX12_check_2 : decode cX12_check 2 = .ok (.lconst 0, 1) := by decide +kernel
theorem dX12_check_3 : decode cX12_check 3 = .ok (.ldc2_w 156, 3) := by decide +kernel
theorem dX12_check_6 : decode cX12_check 6 = .ok (.invokestatic 117, 3) := by decide +kernel
theorem dX12_check_9 : decode cX12_check 9 = .ok (.ifCond .ne 6, 3) := by decide +kernel
theorem dX12_check_12 : decode cX12_check 12 = .ok (.bipush (-2), 2) := by decide +kernel
theorem dX12_check_14 : decode cX12_check 14 = .ok (.ireturn, 1) := by decide +kernel
theorem dX12_check_15 : decode cX12_check 15 = .ok (.aload_n 0, 1) := by decide +kernel
theorem dX12_check_16 : decode cX12_check 16 = .ok (.iload_n 1, 1) := by decide +kernel
theorem dX12_check_17 : decode cX12_check 17 = .ok (.invokevirtual 424, 3) := by decide +kernel
theorem dX12_check_20 : decode cX12_check 20 = .ok (.ifCond .eq 10, 3) := by decide +kernel
theorem dX12_check_23 : decode cX12_check 23 = .ok (.aload_n 0, 1) := by decide +kernel
theorem dX12_check_24 : decode cX12_check 24 = .ok (.getfield 279, 3) := by decide +kernel
theorem dX12_check_27 : decode cX12_check 27 = .ok (.goto 10, 3) := by decide +kernel
theorem dX12_check_30 : decode cX12_check 30 = .ok (.bipush (-10), 2) := by decide +kernel
theorem dX12_check_32 : decode cX12_check 32 = .ok (.aload_n 0, 1) := by decide +kernel
theorem dX12_check_33 : decode cX12_check 33 = .ok (.getfield 256, 3) := by decide +kernel
theorem dX12_check_36 : decode cX12_check 36 = .ok (.isub, 1) := by decide +kernel
theorem dX12_check_37 : decode cX12_check 37 = .ok (.ireturn, 1) := by decide +kernel
theorem dX12_hash_0 : decode cX12_hash 0 = .ok (.aload_n 0, 1) := by decide +kernel
theorem dX12_hash_1 : decode cX12_hash 1 = .ok (.aload_n 0, 1) := by decide +kernel
theorem dX12_hash_2 : decode cX12_hash 2 = .ok (.getfield 7, 3) := by decide +kernel
theorem dX12_hash_5 : decode cX12_hash 5 = .ok (.iconst 0, 1) := by decide +kernel
theorem dX12_hash_6 : decode cX12_hash 6 = .ok (.aload_n 0, 1) := by decide +kernel
theorem dX12_hash_7 : decode cX12_hash 7 = .ok (.getfield 121, 3) := by decide +kernel
theorem dX12_hash_10 : decode cX12_hash 10 = .ok (.invokevirtual 160, 3) := by decide +kernel
theorem dX12_hash_13 : decode cX12_hash 13 = .ok (.lreturn, 1) := by decide +kernel
theorem dX12_isAuthority_0 : decode cX12_isAuthority 0 = .ok (.iload_n 1, 1) := by decide +kernel
theorem dX12_isAuthority_1 : decode cX12_isAuthority 1 = .ok (.i2l, 1) := by decide +kernel
theorem dX12_isAuthority_2 : decode cX12_isAuthority 2 = .ok (.lconst 0, 1) := by decide +kernel
theorem dX12_isAuthority_3 : decode cX12_isAuthority 3 = .ok (.aload_n 0, 1) := by decide +kernel
theorem dX12_isAuthority_4 : decode cX12_isAuthority 4 = .ok (.getfield 427, 3) := by decide +kernel
theorem dX12_isAuthority_7 : decode cX12_isAuthority 7 = .ok (.iconst 1, 1) := by decide +kernel
theorem dX12_isAuthority_8 : decode cX12_isAuthority 8 = .ok (.isub, 1) := by decide +kernel
theorem dX12_isAuthority_9 : decode cX12_isAuthority 9 = .ok (.i2l, 1) := by decide +kernel
theorem dX12_isAuthority_10 : decode cX12_isAuthority 10 = .ok (.invokestatic 117, 3) := by decide +kernel
theorem dX12_isAuthority_13 : decode cX12_isAuthority 13 = .ok (.ireturn, 1) := by decide +kernel
theorem dX12_authority_0 : decode cX12_authority 0 = .ok (.aload_n 0, 1) := by decide +kernel
theorem dX12_authority_1 : decode cX12_authority 1 = .ok (.getfield 121, 3) := by decide +kernel
theorem dX12_authority_4 : decode cX12_authority 4 = .ok (.istore_n 2, 1) := by decide +kernel
theorem dX12_authority_5 : decode cX12_authority 5 = .ok (.aload_n 0, 1) := by decide +kernel
theorem dX12_authority_6 : decode cX12_authority 6 = .ok (.iconst 0, 1) := by decide +kernel
theorem dX12_authority_7 : decode cX12_authority 7 = .ok (.putfield 121, 3) := by decide +kernel
theorem dX12_authority_10 : decode cX12_authority 10 = .ok (.iload_n 2, 1) := by decide +kernel
theorem dX12_authority_11 : decode cX12_authority 11 = .ok (.i2l, 1) := by decide +kernel
theorem dX12_authority_12 : decode cX12_authority 12 = .ok (.lconst 1, 1) := by decide +kernel
theorem dX12_authority_13 : decode cX12_authority 13 = .ok (.ldc2_w 430, 3) := by decide +kernel
theorem dX12_authority_16 : decode cX12_authority 16 = .ok (.invokestatic 117, 3) := by decide +kernel
theorem dX12_authority_19 : decode cX12_authority 19 = .ok (.ifCond .eq 15, 3) := by decide +kernel
theorem dX12_authority_22 : decode cX12_authority 22 = .ok (.iload_n 1, 1) := by decide +kernel
theorem dX12_authority_23 : decode cX12_authority 23 = .ok (.i2l, 1) := by decide +kernel
theorem dX12_authority_24 : decode cX12_authority 24 = .ok (.lconst 1, 1) := by decide +kernel
theorem dX12_authority_25 : decode cX12_authority 25 = .ok (.ldc2_w 168, 3) := by decide +kernel
theorem dX12_authority_28 : decode cX12_authority 28 = .ok (.invokestatic 117, 3) := by decide +kernel
theorem dX12_authority_31 : decode cX12_authority 31 = .ok (.ifCond .ne 6, 3) := by decide +kernel
theorem dX12_authority_34 : decode cX12_authority 34 = .ok (.bipush (-2), 2) := by decide +kernel
theorem dX12_authority_36 : decode cX12_authority 36 = .ok (.ireturn, 1) := by decide +kernel
theorem dX12_authority_37 : decode cX12_authority 37 = .ok (.aload_n 0, 1) := by decide +kernel
theorem dX12_authority_38 : decode cX12_authority 38 = .ok (.getfield 427, 3) := by decide +kernel
theorem dX12_authority_41 : decode cX12_authority 41 = .ok (.iconst 4, 1) := by decide +kernel
theorem dX12_authority_42 : decode cX12_authority 42 = .ok (.if_icmp .ne 7, 3) := by decide +kernel
theorem dX12_authority_45 : decode cX12_authority 45 = .ok (.iconst 1, 1) := by decide +kernel
theorem dX12_authority_46 : decode cX12_authority 46 = .ok (.goto 4, 3) := by decide +kernel
theorem dX12_authority_49 : decode cX12_authority 49 = .ok (.iconst 0, 1) := by decide +kernel
theorem dX12_authority_50 : decode cX12_authority 50 = .ok (.istore_n 3, 1) := by decide +kernel
theorem dX12_authority_51 : decode cX12_authority 51 = .ok (.iconst 0, 1) := by decide +kernel
theorem dX12_authority_52 : decode cX12_authority 52 = .ok (.istore 4, 2) := by decide +kernel
theorem dX12_authority_54 : decode cX12_authority 54 = .ok (.iload 4, 2) := by decide +kernel
theorem dX12_authority_56 : decode cX12_authority 56 = .ok (.aload_n 0, 1) := by decide +kernel
theorem dX12_authority_57 : decode cX12_authority 57 = .ok (.getfield 427, 3) := by decide +kernel
theorem dX12_authority_60 : decode cX12_authority 60 = .ok (.if_icmp .ge 53, 3) := by decide +kernel
theorem dX12_authority_63 : decode cX12_authority 63 = .ok (.iload_n 3, 1) := by decide +kernel
theorem dX12_authority_64 : decode cX12_authority 64 = .ok (.ifCond .ne 37, 3) := by decide +kernel
theorem dX12_authority_67 : decode cX12_authority 67 = .ok (.aload_n 0, 1) := by decide +kernel
theorem dX12_authority_68 : decode cX12_authority 68 = .ok (.getfield 16, 3) := by decide +kernel
theorem dX12_authority_71 : decode cX12_authority 71 = .ok (.bipush 16, 2) := by decide +kernel
theorem dX12_authority_73 : decode cX12_authority 73 = .ok (.iload 4, 2) := by decide +kernel
theorem dX12_authority_75 : decode cX12_authority 75 = .ok (.imul, 1) := by decide +kernel
theorem dX12_authority_76 : decode cX12_authority 76 = .ok (.bipush 16, 2) := by decide +kernel
theorem dX12_authority_78 : decode cX12_authority 78 = .ok (.iload 4, 2) := by decide +kernel
theorem dX12_authority_80 : decode cX12_authority 80 = .ok (.imul, 1) := by decide +kernel
theorem dX12_authority_81 : decode cX12_authority 81 = .ok (.aload_n 0, 1) := by decide +kernel
theorem dX12_authority_82 : decode cX12_authority 82 = .ok (.getfield 19, 3) := by decide +kernel
theorem dX12_authority_85 : decode cX12_authority 85 = .ok (.iload 4, 2) := by decide +kernel
theorem dX12_authority_87 : decode cX12_authority 87 = .ok (.iaload, 1) := by decide +kernel
theorem dX12_authority_88 : decode cX12_authority 88 = .ok (.iadd, 1) := by decide +kernel
theorem dX12_authority_89 : decode cX12_authority 89 = .ok (.aload_n 0, 1) := by decide +kernel
theorem dX12_authority_90 : decode cX12_authority 90 = .ok (.getfield 7, 3) := by decide +kernel
theorem dX12_authority_93 : decode cX12_authority 93 = .ok (.iconst 0, 1) := by decide +kernel
theorem dX12_authority_94 : decode cX12_authority 94 = .ok (.iload_n 2, 1) := by decide +kernel
theorem dX12_authority_95 : decode cX12_authority 95 = .ok (.invokestatic 432, 3) := by decide +kernel
theorem dX12_authority_98 : decode cX12_authority 98 = .ok (.ifCond .eq 7, 3) := by decide +kernel
theorem dX12_authority_101 : decode cX12_authority 101 = .ok (.iconst 1, 1) := by decide +kernel
theorem dX12_authority_102 : decode cX12_authority 102 = .ok (.goto 4, 3) := by decide +kernel
theorem dX12_authority_105 : decode cX12_authority 105 = .ok (.iconst 0, 1) := by decide +kernel
theorem dX12_authority_106 : decode cX12_authority 106 = .ok (.istore_n 3, 1) := by decide +kernel
theorem dX12_authority_107 : decode cX12_authority 107 = .ok (.iinc 4 1, 3) := by decide +kernel
theorem dX12_authority_110 : decode cX12_authority 110 = .ok (.goto (-56), 3) := by decide +kernel
theorem dX12_authority_113 : decode cX12_authority 113 = .ok (.iload_n 3, 1) := by decide +kernel
theorem dX12_authority_114 : decode cX12_authority 114 = .ok (.ifCond .eq 6, 3) := by decide +kernel
theorem dX12_authority_117 : decode cX12_authority 117 = .ok (.bipush (-3), 2) := by decide +kernel
theorem dX12_authority_119 : decode cX12_authority 119 = .ok (.ireturn, 1) := by decide +kernel
theorem dX12_authority_120 : decode cX12_authority 120 = .ok (.iconst 0, 1) := by decide +kernel
theorem dX12_authority_121 : decode cX12_authority 121 = .ok (.istore 4, 2) := by decide +kernel
theorem dX12_authority_123 : decode cX12_authority 123 = .ok (.iload 4, 2) := by decide +kernel
theorem dX12_authority_125 : decode cX12_authority 125 = .ok (.iload_n 2, 1) := by decide +kernel
theorem dX12_authority_126 : decode cX12_authority 126 = .ok (.if_icmp .ge 31, 3) := by decide +kernel
theorem dX12_authority_129 : decode cX12_authority 129 = .ok (.aload_n 0, 1) := by decide +kernel
theorem dX12_authority_130 : decode cX12_authority 130 = .ok (.getfield 16, 3) := by decide +kernel
theorem dX12_authority_133 : decode cX12_authority 133 = .ok (.bipush 16, 2) := by decide +kernel
theorem dX12_authority_135 : decode cX12_authority 135 = .ok (.aload_n 0, 1) := by decide +kernel
theorem dX12_authority_136 : decode cX12_authority 136 = .ok (.getfield 427, 3) := by decide +kernel
theorem dX12_authority_139 : decode cX12_authority 139 = .ok (.imul, 1) := by decide +kernel
theorem dX12_authority_140 : decode cX12_authority 140 = .ok (.iload 4, 2) := by decide +kernel
theorem dX12_authority_142 : decode cX12_authority 142 = .ok (.iadd, 1) := by decide +kernel
theorem dX12_authority_143 : decode cX12_authority 143 = .ok (.aload_n 0, 1) := by decide +kernel
theorem dX12_authority_144 : decode cX12_authority 144 = .ok (.getfield 7, 3) := by decide +kernel
theorem dX12_authority_147 : decode cX12_authority 147 = .ok (.iload 4, 2) := by decide +kernel
theorem dX12_authority_149 : decode cX12_authority 149 = .ok (.baload, 1) := by decide +kernel
theorem dX12_authority_150 : decode cX12_authority 150 = .ok (.bastore, 1) := by decide +kernel
theorem dX12_authority_151 : decode cX12_authority 151 = .ok (.iinc 4 1, 3) := by decide +kernel
theorem dX12_authority_154 : decode cX12_authority 154 = .ok (.goto (-31), 3) := by decide +kernel
theorem dX12_authority_157 : decode cX12_authority 157 = .ok (.aload_n 0, 1) := by decide +kernel
theorem dX12_authority_158 : decode cX12_authority 158 = .ok (.getfield 19, 3) := by decide +kernel
theorem dX12_authority_161 : decode cX12_authority 161 = .ok (.aload_n 0, 1) := by decide +kernel
theorem dX12_authority_162 : decode cX12_authority 162 = .ok (.getfield 427, 3) := by decide +kernel
theorem dX12_authority_165 : decode cX12_authority 165 = .ok (.iload_n 2, 1) := by decide +kernel
theorem dX12_authority_166 : decode cX12_authority 166 = .ok (.iastore, 1) := by decide +kernel
theorem dX12_authority_167 : decode cX12_authority 167 = .ok (.aload_n 0, 1) := by decide +kernel
theorem dX12_authority_168 : decode cX12_authority 168 = .ok (.getfield 23, 3) := by decide +kernel
theorem dX12_authority_171 : decode cX12_authority 171 = .ok (.aload_n 0, 1) := by decide +kernel
theorem dX12_authority_172 : decode cX12_authority 172 = .ok (.getfield 427, 3) := by decide +kernel
theorem dX12_authority_175 : decode cX12_authority 175 = .ok (.iload_n 1, 1) := by decide +kernel
theorem dX12_authority_176 : decode cX12_authority 176 = .ok (.i2l, 1) := by decide +kernel
theorem dX12_authority_177 : decode cX12_authority 177 = .ok (.lastore, 1) := by decide +kernel
theorem dX12_authority_178 : decode cX12_authority 178 = .ok (.aload_n 0, 1) := by decide +kernel
theorem dX12_authority_179 : decode cX12_authority 179 = .ok (.getfield 27, 3) := by decide +kernel
theorem dX12_authority_182 : decode cX12_authority 182 = .ok (.aload_n 0, 1) := by decide +kernel
theorem dX12_authority_183 : decode cX12_authority 183 = .ok (.getfield 427, 3) := by decide +kernel
theorem dX12_authority_186 : decode cX12_authority 186 = .ok (.ldc2_w 173, 3) := by decide +kernel
theorem dX12_authority_189 : decode cX12_authority 189 = .ok (.iload_n 1, 1) := by decide +kernel
theorem dX12_authority_190 : decode cX12_authority 190 = .ok (.i2l, 1) := by decide +kernel
theorem dX12_authority_191 : decode cX12_authority 191 = .ok (.invokestatic 175, 3) := by decide +kernel
theorem dX12_authority_194 : decode cX12_authority 194 = .ok (.lastore, 1) := by decide +kernel
theorem dX12_authority_195 : decode cX12_authority 195 = .ok (.aload_n 0, 1) := by decide +kernel
theorem dX12_authority_196 : decode cX12_authority 196 = .ok (.dup, 1) := by decide +kernel
theorem dX12_authority_197 : decode cX12_authority 197 = .ok (.getfield 427, 3) := by decide +kernel
theorem dX12_authority_200 : decode cX12_authority 200 = .ok (.iconst 1, 1) := by decide +kernel
theorem dX12_authority_201 : decode cX12_authority 201 = .ok (.iadd, 1) := by decide +kernel
theorem dX12_authority_202 : decode cX12_authority 202 = .ok (.putfield 427, 3) := by decide +kernel
theorem dX12_authority_205 : decode cX12_authority 205 = .ok (.aload_n 0, 1) := by decide +kernel
theorem dX12_authority_206 : decode cX12_authority 206 = .ok (.getfield 427, 3) := by decide +kernel
theorem dX12_authority_209 : decode cX12_authority 209 = .ok (.iconst 1, 1) := by decide +kernel
theorem dX12_authority_210 : decode cX12_authority 210 = .ok (.isub, 1) := by decide +kernel
theorem dX12_authority_211 : decode cX12_authority 211 = .ok (.ireturn, 1) := by decide +kernel
theorem dX12_isSame_0 : decode cX12_isSame 0 = .ok (.iload_n 2, 1) := by decide +kernel
theorem dX12_isSame_1 : decode cX12_isSame 1 = .ok (.iload_n 1, 1) := by decide +kernel
theorem dX12_isSame_2 : decode cX12_isSame 2 = .ok (.isub, 1) := by decide +kernel
theorem dX12_isSame_3 : decode cX12_isSame 3 = .ok (.iload 5, 2) := by decide +kernel
theorem dX12_isSame_5 : decode cX12_isSame 5 = .ok (.iload 4, 2) := by decide +kernel
theorem dX12_isSame_7 : decode cX12_isSame 7 = .ok (.isub, 1) := by decide +kernel
theorem dX12_isSame_8 : decode cX12_isSame 8 = .ok (.if_icmp .ne 7, 3) := by decide +kernel
theorem dX12_isSame_11 : decode cX12_isSame 11 = .ok (.iconst 1, 1) := by decide +kernel
theorem dX12_isSame_12 : decode cX12_isSame 12 = .ok (.goto 4, 3) := by decide +kernel
theorem dX12_isSame_15 : decode cX12_isSame 15 = .ok (.iconst 0, 1) := by decide +kernel
theorem dX12_isSame_16 : decode cX12_isSame 16 = .ok (.istore 6, 2) := by decide +kernel
theorem dX12_isSame_18 : decode cX12_isSame 18 = .ok (.iconst 0, 1) := by decide +kernel
theorem dX12_isSame_19 : decode cX12_isSame 19 = .ok (.istore 7, 2) := by decide +kernel
theorem dX12_isSame_21 : decode cX12_isSame 21 = .ok (.iload 7, 2) := by decide +kernel
theorem dX12_isSame_23 : decode cX12_isSame 23 = .ok (.iload_n 2, 1) := by decide +kernel
theorem dX12_isSame_24 : decode cX12_isSame 24 = .ok (.iload_n 1, 1) := by decide +kernel
theorem dX12_isSame_25 : decode cX12_isSame 25 = .ok (.isub, 1) := by decide +kernel
theorem dX12_isSame_26 : decode cX12_isSame 26 = .ok (.if_icmp .ge 37, 3) := by decide +kernel
theorem dX12_isSame_29 : decode cX12_isSame 29 = .ok (.iload 6, 2) := by decide +kernel
theorem dX12_isSame_31 : decode cX12_isSame 31 = .ok (.ifCond .eq 32, 3) := by decide +kernel
theorem dX12_isSame_34 : decode cX12_isSame 34 = .ok (.aload_n 0, 1) := by decide +kernel
theorem dX12_isSame_35 : decode cX12_isSame 35 = .ok (.iload_n 1, 1) := by decide +kernel
theorem dX12_isSame_36 : decode cX12_isSame 36 = .ok (.iload 7, 2) := by decide +kernel
theorem dX12_isSame_38 : decode cX12_isSame 38 = .ok (.iadd, 1) := by decide +kernel
theorem dX12_isSame_39 : decode cX12_isSame 39 = .ok (.baload, 1) := by decide +kernel
theorem dX12_isSame_40 : decode cX12_isSame 40 = .ok (.aload_n 3, 1) := by decide +kernel
theorem dX12_isSame_41 : decode cX12_isSame 41 = .ok (.iload 4, 2) := by decide +kernel
theorem dX12_isSame_43 : decode cX12_isSame 43 = .ok (.iload 7, 2) := by decide +kernel
theorem dX12_isSame_45 : decode cX12_isSame 45 = .ok (.iadd, 1) := by decide +kernel
theorem dX12_isSame_46 : decode cX12_isSame 46 = .ok (.baload, 1) := by decide +kernel
theorem dX12_isSame_47 : decode cX12_isSame 47 = .ok (.if_icmp .ne 7, 3) := by decide +kernel
theorem dX12_isSame_50 : decode cX12_isSame 50 = .ok (.iconst 1, 1) := by decide +kernel
theorem dX12_isSame_51 : decode cX12_isSame 51 = .ok (.goto 4, 3) := by decide +kernel
theorem dX12_isSame_54 : decode cX12_isSame 54 = .ok (.iconst 0, 1) := by decide +kernel
theorem dX12_isSame_55 : decode cX12_isSame 55 = .ok (.istore 6, 2) := by decide +kernel
theorem dX12_isSame_57 : decode cX12_isSame 57 = .ok (.iinc 7 1, 3) := by decide +kernel
theorem dX12_isSame_60 : decode cX12_isSame 60 = .ok (.goto (-39), 3) := by decide +kernel
theorem dX12_isSame_63 : decode cX12_isSame 63 = .ok (.iload 6, 2) := by decide +kernel
theorem dX12_isSame_65 : decode cX12_isSame 65 = .ok (.ireturn, 1) := by decide +kernel
theorem dX12_find_0 : decode cX12_find 0 = .ok (.iconst (-1), 1) := by decide +kernel
theorem dX12_find_1 : decode cX12_find 1 = .ok (.istore 4, 2) := by decide +kernel
theorem dX12_find_3 : decode cX12_find 3 = .ok (.bipush 32, 2) := by decide +kernel
theorem dX12_find_5 : decode cX12_find 5 = .ok (.iload_n 1, 1) := by decide +kernel
theorem dX12_find_6 : decode cX12_find 6 = .ok (.imul, 1) := by decide +kernel
theorem dX12_find_7 : decode cX12_find 7 = .ok (.istore 5, 2) := by decide +kernel
theorem dX12_find_9 : decode cX12_find 9 = .ok (.iload 5, 2) := by decide +kernel
theorem dX12_find_11 : decode cX12_find 11 = .ok (.bipush 32, 2) := by decide +kernel
theorem dX12_find_13 : decode cX12_find 13 = .ok (.iload_n 1, 1) := by decide +kernel
theorem dX12_find_14 : decode cX12_find 14 = .ok (.imul, 1) := by decide +kernel
theorem dX12_find_15 : decode cX12_find 15 = .ok (.aload_n 0, 1) := by decide +kernel
theorem dX12_find_16 : decode cX12_find 16 = .ok (.getfield 30, 3) := by decide +kernel
theorem dX12_find_19 : decode cX12_find 19 = .ok (.iload_n 1, 1) := by decide +kernel
theorem dX12_find_20 : decode cX12_find 20 = .ok (.iaload, 1) := by decide +kernel
theorem dX12_find_21 : decode cX12_find 21 = .ok (.iadd, 1) := by decide +kernel
theorem dX12_find_22 : decode cX12_find 22 = .ok (.if_icmp .ge 31, 3) := by decide +kernel
theorem dX12_find_25 : decode cX12_find 25 = .ok (.aload_n 0, 1) := by decide +kernel
theorem dX12_find_26 : decode cX12_find 26 = .ok (.getfield 33, 3) := by decide +kernel
theorem dX12_find_29 : decode cX12_find 29 = .ok (.iload 5, 2) := by decide +kernel
theorem dX12_find_31 : decode cX12_find 31 = .ok (.iaload, 1) := by decide +kernel
theorem dX12_find_32 : decode cX12_find 32 = .ok (.i2l, 1) := by decide +kernel
theorem dX12_find_33 : decode cX12_find 33 = .ok (.lload_n 2, 1) := by decide +kernel
theorem dX12_find_34 : decode cX12_find 34 = .ok (.lcmp, 1) := by decide +kernel
theorem dX12_find_35 : decode cX12_find 35 = .ok (.ifCond .ne 8, 3) := by decide +kernel
theorem dX12_find_38 : decode cX12_find 38 = .ok (.iload 5, 2) := by decide +kernel
theorem dX12_find_40 : decode cX12_find 40 = .ok (.goto 5, 3) := by decide +kernel
theorem dX12_find_43 : decode cX12_find 43 = .ok (.iload 4, 2) := by decide +kernel
theorem dX12_find_45 : decode cX12_find 45 = .ok (.istore 4, 2) := by decide +kernel
theorem dX12_find_47 : decode cX12_find 47 = .ok (.iinc 5 1, 3) := by decide +kernel
theorem dX12_find_50 : decode cX12_find 50 = .ok (.goto (-41), 3) := by decide +kernel
theorem dX12_find_53 : decode cX12_find 53 = .ok (.iload 4, 2) := by decide +kernel
theorem dX12_find_55 : decode cX12_find 55 = .ok (.ireturn, 1) := by decide +kernel
theorem dX12_enter_0 : decode cX12_enter 0 = .ok (.bipush 32, 2) := by decide +kernel
theorem dX12_enter_2 : decode cX12_enter 2 = .ok (.iload_n 1, 1) := by decide +kernel
theorem dX12_enter_3 : decode cX12_enter 3 = .ok (.imul, 1) := by decide +kernel
theorem dX12_enter_4 : decode cX12_enter 4 = .ok (.aload_n 0, 1) := by decide +kernel
theorem dX12_enter_5 : decode cX12_enter 5 = .ok (.getfield 30, 3) := by decide +kernel
theorem dX12_enter_8 : decode cX12_enter 8 = .ok (.iload_n 1, 1) := by decide +kernel
theorem dX12_enter_9 : decode cX12_enter 9 = .ok (.iaload, 1) := by decide +kernel
theorem dX12_enter_10 : decode cX12_enter 10 = .ok (.iadd, 1) := by decide +kernel
theorem dX12_enter_11 : decode cX12_enter 11 = .ok (.istore_n 3, 1) := by decide +kernel
theorem dX12_enter_12 : decode cX12_enter 12 = .ok (.aload_n 0, 1) := by decide +kernel
theorem dX12_enter_13 : decode cX12_enter 13 = .ok (.getfield 33, 3) := by decide +kernel
theorem dX12_enter_16 : decode cX12_enter 16 = .ok (.iload_n 3, 1) := by decide +kernel
theorem dX12_enter_17 : decode cX12_enter 17 = .ok (.iload_n 2, 1) := by decide +kernel
theorem dX12_enter_18 : decode cX12_enter 18 = .ok (.iastore, 1) := by decide +kernel
theorem dX12_enter_19 : decode cX12_enter 19 = .ok (.aload_n 0, 1) := by decide +kernel
theorem dX12_enter_20 : decode cX12_enter 20 = .ok (.getfield 36, 3) := by decide +kernel
theorem dX12_enter_23 : decode cX12_enter 23 = .ok (.iload_n 3, 1) := by decide +kernel
theorem dX12_enter_24 : decode cX12_enter 24 = .ok (.ldc2_w 213, 3) := by decide +kernel
theorem dX12_enter_27 : decode cX12_enter 27 = .ok (.lastore, 1) := by decide +kernel
theorem dX12_enter_28 : decode cX12_enter 28 = .ok (.aload_n 0, 1) := by decide +kernel
theorem dX12_enter_29 : decode cX12_enter 29 = .ok (.getfield 39, 3) := by decide +kernel
theorem dX12_enter_32 : decode cX12_enter 32 = .ok (.iload_n 3, 1) := by decide +kernel
theorem dX12_enter_33 : decode cX12_enter 33 = .ok (.iconst (-1), 1) := by decide +kernel
theorem dX12_enter_34 : decode cX12_enter 34 = .ok (.iastore, 1) := by decide +kernel
theorem dX12_enter_35 : decode cX12_enter 35 = .ok (.aload_n 0, 1) := by decide +kernel
theorem dX12_enter_36 : decode cX12_enter 36 = .ok (.getfield 30, 3) := by decide +kernel
theorem dX12_enter_39 : decode cX12_enter 39 = .ok (.iload_n 1, 1) := by decide +kernel
theorem dX12_enter_40 : decode cX12_enter 40 = .ok (.dup2, 1) := by decide +kernel
theorem dX12_enter_41 : decode cX12_enter 41 = .ok (.iaload, 1) := by decide +kernel
theorem dX12_enter_42 : decode cX12_enter 42 = .ok (.iconst 1, 1) := by decide +kernel
theorem dX12_enter_43 : decode cX12_enter 43 = .ok (.iadd, 1) := by decide +kernel
theorem dX12_enter_44 : decode cX12_enter 44 = .ok (.iastore, 1) := by decide +kernel
theorem dX12_enter_45 : decode cX12_enter 45 = .ok (.return_, 1) := by decide +kernel
theorem dX12_issue_0 : decode cX12_issue 0 = .ok (.aload_n 0, 1) := by decide +kernel
theorem dX12_issue_1 : decode cX12_issue 1 = .ok (.iload_n 1, 1) := by decide +kernel
theorem dX12_issue_2 : decode cX12_issue 2 = .ok (.invokevirtual 436, 3) := by decide +kernel
theorem dX12_issue_5 : decode cX12_issue 5 = .ok (.ifCond .eq 7, 3) := by decide +kernel
theorem dX12_issue_8 : decode cX12_issue 8 = .ok (.iload_n 2, 1) := by decide +kernel
theorem dX12_issue_9 : decode cX12_issue 9 = .ok (.ifCond .ge 6, 3) := by decide +kernel
theorem dX12_issue_12 : decode cX12_issue 12 = .ok (.bipush (-2), 2) := by decide +kernel
theorem dX12_issue_14 : decode cX12_issue 14 = .ok (.ireturn, 1) := by decide +kernel
theorem dX12_issue_15 : decode cX12_issue 15 = .ok (.aload_n 0, 1) := by decide +kernel
theorem dX12_issue_16 : decode cX12_issue 16 = .ok (.getfield 30, 3) := by decide +kernel
theorem dX12_issue_19 : decode cX12_issue 19 = .ok (.iload_n 1, 1) := by decide +kernel
theorem dX12_issue_20 : decode cX12_issue 20 = .ok (.iaload, 1) := by decide +kernel
theorem dX12_issue_21 : decode cX12_issue 21 = .ok (.bipush 32, 2) := by decide +kernel
theorem dX12_issue_23 : decode cX12_issue 23 = .ok (.if_icmp .eq 14, 3) := by decide +kernel
theorem dX12_issue_26 : decode cX12_issue 26 = .ok (.aload_n 0, 1) := by decide +kernel
theorem dX12_issue_27 : decode cX12_issue 27 = .ok (.iload_n 1, 1) := by decide +kernel
theorem dX12_issue_28 : decode cX12_issue 28 = .ok (.iload_n 2, 1) := by decide +kernel
theorem dX12_issue_29 : decode cX12_issue 29 = .ok (.i2l, 1) := by decide +kernel
theorem dX12_issue_30 : decode cX12_issue 30 = .ok (.invokevirtual 439, 3) := by decide +kernel
theorem dX12_issue_33 : decode cX12_issue 33 = .ok (.iconst (-1), 1) := by decide +kernel
theorem dX12_issue_34 : decode cX12_issue 34 = .ok (.if_icmp .eq 6, 3) := by decide +kernel
theorem dX12_issue_37 : decode cX12_issue 37 = .ok (.bipush (-3), 2) := by decide +kernel
theorem dX12_issue_39 : decode cX12_issue 39 = .ok (.ireturn, 1) := by decide +kernel
theorem dX12_issue_40 : decode cX12_issue 40 = .ok (.aload_n 0, 1) := by decide +kernel
theorem dX12_issue_41 : decode cX12_issue 41 = .ok (.iload_n 1, 1) := by decide +kernel
theorem dX12_issue_42 : decode cX12_issue 42 = .ok (.iload_n 2, 1) := by decide +kernel
theorem dX12_issue_43 : decode cX12_issue 43 = .ok (.invokevirtual 442, 3) := by decide +kernel
theorem dX12_issue_46 : decode cX12_issue 46 = .ok (.aload_n 0, 1) := by decide +kernel
theorem dX12_issue_47 : decode cX12_issue 47 = .ok (.getfield 30, 3) := by decide +kernel
theorem dX12_issue_50 : decode cX12_issue 50 = .ok (.iload_n 1, 1) := by decide +kernel
theorem dX12_issue_51 : decode cX12_issue 51 = .ok (.iaload, 1) := by decide +kernel
theorem dX12_issue_52 : decode cX12_issue 52 = .ok (.ireturn, 1) := by decide +kernel
theorem dX12_takeBack_0 : decode cX12_takeBack 0 = .ok (.aload_n 0, 1) := by decide +kernel
theorem dX12_takeBack_1 : decode cX12_takeBack 1 = .ok (.iload_n 1, 1) := by decide +kernel
theorem dX12_takeBack_2 : decode cX12_takeBack 2 = .ok (.invokevirtual 436, 3) := by decide +kernel
theorem dX12_takeBack_5 : decode cX12_takeBack 5 = .ok (.ifCond .eq 31, 3) := by decide +kernel
theorem dX12_takeBack_8 : decode cX12_takeBack 8 = .ok (.iload_n 2, 1) := by decide +kernel
theorem dX12_takeBack_9 : decode cX12_takeBack 9 = .ok (.ifCond .lt 27, 3) := by decide +kernel
theorem dX12_takeBack_12 : decode cX12_takeBack 12 = .ok (.lload_n 3, 1) := by decide +kernel
theorem dX12_takeBack_13 : decode cX12_takeBack 13 = .ok (.lconst 0, 1) := by decide +kernel
theorem dX12_takeBack_14 : decode cX12_takeBack 14 = .ok (.ldc2_w 198, 3) := by decide +kernel
theorem dX12_takeBack_17 : decode cX12_takeBack 17 = .ok (.invokestatic 117, 3) := by decide +kernel
theorem dX12_takeBack_20 : decode cX12_takeBack 20 = .ok (.ifCond .eq 16, 3) := by decide +kernel
theorem dX12_takeBack_23 : decode cX12_takeBack 23 = .ok (.iload 5, 2) := by decide +kernel
theorem dX12_takeBack_25 : decode cX12_takeBack 25 = .ok (.i2l, 1) := by decide +kernel
theorem dX12_takeBack_26 : decode cX12_takeBack 26 = .ok (.lconst 0, 1) := by decide +kernel
theorem dX12_takeBack_27 : decode cX12_takeBack 27 = .ok (.ldc2_w 292, 3) := by decide +kernel
theorem dX12_takeBack_30 : decode cX12_takeBack 30 = .ok (.invokestatic 117, 3) := by decide +kernel
theorem dX12_takeBack_33 : decode cX12_takeBack 33 = .ok (.ifCond .ne 6, 3) := by decide +kernel
theorem dX12_takeBack_36 : decode cX12_takeBack 36 = .ok (.bipush (-2), 2) := by decide +kernel
theorem dX12_takeBack_38 : decode cX12_takeBack 38 = .ok (.ireturn, 1) := by decide +kernel
theorem dX12_takeBack_39 : decode cX12_takeBack 39 = .ok (.aload_n 0, 1) := by decide +kernel
theorem dX12_takeBack_40 : decode cX12_takeBack 40 = .ok (.iload_n 1, 1) := by decide +kernel
theorem dX12_takeBack_41 : decode cX12_takeBack 41 = .ok (.iload_n 2, 1) := by decide +kernel
theorem dX12_takeBack_42 : decode cX12_takeBack 42 = .ok (.i2l, 1) := by decide +kernel
theorem dX12_takeBack_43 : decode cX12_takeBack 43 = .ok (.invokevirtual 439, 3) := by decide +kernel
theorem dX12_takeBack_46 : decode cX12_takeBack 46 = .ok (.istore 6, 2) := by decide +kernel
theorem dX12_takeBack_48 : decode cX12_takeBack 48 = .ok (.iload 6, 2) := by decide +kernel
theorem dX12_takeBack_50 : decode cX12_takeBack 50 = .ok (.iconst (-1), 1) := by decide +kernel
theorem dX12_takeBack_51 : decode cX12_takeBack 51 = .ok (.if_icmp .ne 5, 3) := by decide +kernel
theorem dX12_takeBack_54 : decode cX12_takeBack 54 = .ok (.iconst (-1), 1) := by decide +kernel
theorem dX12_takeBack_55 : decode cX12_takeBack 55 = .ok (.ireturn, 1) := by decide +kernel
theorem dX12_takeBack_56 : decode cX12_takeBack 56 = .ok (.aload_n 0, 1) := by decide +kernel
theorem dX12_takeBack_57 : decode cX12_takeBack 57 = .ok (.getfield 36, 3) := by decide +kernel
theorem dX12_takeBack_60 : decode cX12_takeBack 60 = .ok (.iload 6, 2) := by decide +kernel
theorem dX12_takeBack_62 : decode cX12_takeBack 62 = .ok (.laload, 1) := by decide +kernel
theorem dX12_takeBack_63 : decode cX12_takeBack 63 = .ok (.ldc2_w 213, 3) := by decide +kernel
theorem dX12_takeBack_66 : decode cX12_takeBack 66 = .ok (.lcmp, 1) := by decide +kernel
theorem dX12_takeBack_67 : decode cX12_takeBack 67 = .ok (.ifCond .eq 6, 3) := by decide +kernel
theorem dX12_takeBack_70 : decode cX12_takeBack 70 = .ok (.bipush (-3), 2) := by decide +kernel
theorem dX12_takeBack_72 : decode cX12_takeBack 72 = .ok (.ireturn, 1) := by decide +kernel
theorem dX12_takeBack_73 : decode cX12_takeBack 73 = .ok (.aload_n 0, 1) := by decide +kernel
theorem dX12_takeBack_74 : decode cX12_takeBack 74 = .ok (.getfield 36, 3) := by decide +kernel
theorem dX12_takeBack_77 : decode cX12_takeBack 77 = .ok (.iload 6, 2) := by decide +kernel
theorem dX12_takeBack_79 : decode cX12_takeBack 79 = .ok (.lload_n 3, 1) := by decide +kernel
theorem dX12_takeBack_80 : decode cX12_takeBack 80 = .ok (.lastore, 1) := by decide +kernel
theorem dX12_takeBack_81 : decode cX12_takeBack 81 = .ok (.aload_n 0, 1) := by decide +kernel
theorem dX12_takeBack_82 : decode cX12_takeBack 82 = .ok (.getfield 39, 3) := by decide +kernel
theorem dX12_takeBack_85 : decode cX12_takeBack 85 = .ok (.iload 6, 2) := by decide +kernel
theorem dX12_takeBack_87 : decode cX12_takeBack 87 = .ok (.iload 5, 2) := by decide +kernel
theorem dX12_takeBack_89 : decode cX12_takeBack 89 = .ok (.iastore, 1) := by decide +kernel
theorem dX12_takeBack_90 : decode cX12_takeBack 90 = .ok (.iconst 0, 1) := by decide +kernel
theorem dX12_takeBack_91 : decode cX12_takeBack 91 = .ok (.istore 7, 2) := by decide +kernel
theorem dX12_takeBack_93 : decode cX12_takeBack 93 = .ok (.bipush 32, 2) := by decide +kernel
theorem dX12_takeBack_95 : decode cX12_takeBack 95 = .ok (.iload_n 1, 1) := by decide +kernel
theorem dX12_takeBack_96 : decode cX12_takeBack 96 = .ok (.imul, 1) := by decide +kernel
theorem dX12_takeBack_97 : decode cX12_takeBack 97 = .ok (.istore 8, 2) := by decide +kernel
theorem dX12_takeBack_99 : decode cX12_takeBack 99 = .ok (.iload 8, 2) := by decide +kernel
theorem dX12_takeBack_101 : decode cX12_takeBack 101 = .ok (.bipush 32, 2) := by decide +kernel
theorem dX12_takeBack_103 : decode cX12_takeBack 103 = .ok (.iload_n 1, 1) := by decide +kernel
theorem dX12_takeBack_104 : decode cX12_takeBack 104 = .ok (.imul, 1) := by decide +kernel
theorem dX12_takeBack_105 : decode cX12_takeBack 105 = .ok (.aload_n 0, 1) := by decide +kernel
theorem dX12_takeBack_106 : decode cX12_takeBack 106 = .ok (.getfield 30, 3) := by decide +kernel
theorem dX12_takeBack_109 : decode cX12_takeBack 109 = .ok (.iload_n 1, 1) := by decide +kernel
theorem dX12_takeBack_110 : decode cX12_takeBack 110 = .ok (.iaload, 1) := by decide +kernel
theorem dX12_takeBack_111 : decode cX12_takeBack 111 = .ok (.iadd, 1) := by decide +kernel
theorem dX12_takeBack_112 : decode cX12_takeBack 112 = .ok (.if_icmp .ge 33, 3) := by decide +kernel
theorem dX12_takeBack_115 : decode cX12_takeBack 115 = .ok (.iload 7, 2) := by decide +kernel
theorem dX12_takeBack_117 : decode cX12_takeBack 117 = .ok (.aload_n 0, 1) := by decide +kernel
theorem dX12_takeBack_118 : decode cX12_takeBack 118 = .ok (.getfield 36, 3) := by decide +kernel
theorem dX12_takeBack_121 : decode cX12_takeBack 121 = .ok (.iload 8, 2) := by decide +kernel
theorem dX12_takeBack_123 : decode cX12_takeBack 123 = .ok (.laload, 1) := by decide +kernel
theorem dX12_takeBack_124 : decode cX12_takeBack 124 = .ok (.ldc2_w 213, 3) := by decide +kernel
theorem dX12_takeBack_127 : decode cX12_takeBack 127 = .ok (.lcmp, 1) := by decide +kernel
theorem dX12_takeBack_128 : decode cX12_takeBack 128 = .ok (.ifCond .eq 7, 3) := by decide +kernel
theorem dX12_takeBack_131 : decode cX12_takeBack 131 = .ok (.iconst 1, 1) := by decide +kernel
theorem dX12_takeBack_132 : decode cX12_takeBack 132 = .ok (.goto 4, 3) := by decide +kernel
theorem dX12_takeBack_135 : decode cX12_takeBack 135 = .ok (.iconst 0, 1) := by decide +kernel
theorem dX12_takeBack_136 : decode cX12_takeBack 136 = .ok (.iadd, 1) := by decide +kernel
theorem dX12_takeBack_137 : decode cX12_takeBack 137 = .ok (.istore 7, 2) := by decide +kernel
theorem dX12_takeBack_139 : decode cX12_takeBack 139 = .ok (.iinc 8 1, 3) := by decide +kernel
theorem dX12_takeBack_142 : decode cX12_takeBack 142 = .ok (.goto (-43), 3) := by decide +kernel
theorem dX12_takeBack_145 : decode cX12_takeBack 145 = .ok (.iload 7, 2) := by decide +kernel
theorem dX12_takeBack_147 : decode cX12_takeBack 147 = .ok (.ireturn, 1) := by decide +kernel
theorem dX12_lift_0 : decode cX12_lift 0 = .ok (.aload_n 0, 1) := by decide +kernel
theorem dX12_lift_1 : decode cX12_lift 1 = .ok (.iload_n 1, 1) := by decide +kernel
theorem dX12_lift_2 : decode cX12_lift 2 = .ok (.invokevirtual 436, 3) := by decide +kernel
theorem dX12_lift_5 : decode cX12_lift 5 = .ok (.ifCond .eq 13, 3) := by decide +kernel
theorem dX12_lift_8 : decode cX12_lift 8 = .ok (.aload_n 0, 1) := by decide +kernel
theorem dX12_lift_9 : decode cX12_lift 9 = .ok (.iload_n 1, 1) := by decide +kernel
theorem dX12_lift_10 : decode cX12_lift 10 = .ok (.iload_n 2, 1) := by decide +kernel
theorem dX12_lift_11 : decode cX12_lift 11 = .ok (.i2l, 1) := by decide +kernel
theorem dX12_lift_12 : decode cX12_lift 12 = .ok (.invokevirtual 439, 3) := by decide +kernel
theorem dX12_lift_15 : decode cX12_lift 15 = .ok (.goto 4, 3) := by decide +kernel
theorem dX12_lift_18 : decode cX12_lift 18 = .ok (.iconst (-1), 1) := by decide +kernel
theorem dX12_lift_19 : decode cX12_lift 19 = .ok (.istore_n 3, 1) := by decide +kernel
theorem dX12_lift_20 : decode cX12_lift 20 = .ok (.iload_n 3, 1) := by decide +kernel
theorem dX12_lift_21 : decode cX12_lift 21 = .ok (.iconst (-1), 1) := by decide +kernel
theorem dX12_lift_22 : decode cX12_lift 22 = .ok (.if_icmp .eq 27, 3) := by decide +kernel
theorem dX12_lift_25 : decode cX12_lift 25 = .ok (.aload_n 0, 1) := by decide +kernel
theorem dX12_lift_26 : decode cX12_lift 26 = .ok (.getfield 36, 3) := by decide +kernel
theorem dX12_lift_29 : decode cX12_lift 29 = .ok (.iload_n 3, 1) := by decide +kernel
theorem dX12_lift_30 : decode cX12_lift 30 = .ok (.laload, 1) := by decide +kernel
theorem dX12_lift_31 : decode cX12_lift 31 = .ok (.ldc2_w 213, 3) := by decide +kernel
theorem dX12_lift_34 : decode cX12_lift 34 = .ok (.lcmp, 1) := by decide +kernel
theorem dX12_lift_35 : decode cX12_lift 35 = .ok (.ifCond .eq 14, 3) := by decide +kernel
theorem dX12_lift_38 : decode cX12_lift 38 = .ok (.aload_n 0, 1) := by decide +kernel
theorem dX12_lift_39 : decode cX12_lift 39 = .ok (.getfield 39, 3) := by decide +kernel
theorem dX12_lift_42 : decode cX12_lift 42 = .ok (.iload_n 3, 1) := by decide +kernel
theorem dX12_lift_43 : decode cX12_lift 43 = .ok (.iaload, 1) := by decide +kernel
theorem dX12_lift_44 : decode cX12_lift 44 = .ok (.bipush 6, 2) := by decide +kernel
theorem dX12_lift_46 : decode cX12_lift 46 = .ok (.if_icmp .eq 5, 3) := by decide +kernel
theorem dX12_lift_49 : decode cX12_lift 49 = .ok (.iconst 0, 1) := by decide +kernel
theorem dX12_lift_50 : decode cX12_lift 50 = .ok (.ireturn, 1) := by decide +kernel
theorem dX12_lift_51 : decode cX12_lift 51 = .ok (.aload_n 0, 1) := by decide +kernel
theorem dX12_lift_52 : decode cX12_lift 52 = .ok (.getfield 36, 3) := by decide +kernel
theorem dX12_lift_55 : decode cX12_lift 55 = .ok (.iload_n 3, 1) := by decide +kernel
theorem dX12_lift_56 : decode cX12_lift 56 = .ok (.ldc2_w 213, 3) := by decide +kernel
theorem dX12_lift_59 : decode cX12_lift 59 = .ok (.lastore, 1) := by decide +kernel
theorem dX12_lift_60 : decode cX12_lift 60 = .ok (.aload_n 0, 1) := by decide +kernel
theorem dX12_lift_61 : decode cX12_lift 61 = .ok (.getfield 39, 3) := by decide +kernel
theorem dX12_lift_64 : decode cX12_lift 64 = .ok (.iload_n 3, 1) := by decide +kernel
theorem dX12_lift_65 : decode cX12_lift 65 = .ok (.iconst (-1), 1) := by decide +kernel
theorem dX12_lift_66 : decode cX12_lift 66 = .ok (.iastore, 1) := by decide +kernel
theorem dX12_lift_67 : decode cX12_lift 67 = .ok (.iconst 1, 1) := by decide +kernel
theorem dX12_lift_68 : decode cX12_lift 68 = .ok (.ireturn, 1) := by decide +kernel
theorem dX12_signer_0 : decode cX12_signer 0 = .ok (.aload_n 0, 1) := by decide +kernel
theorem dX12_signer_1 : decode cX12_signer 1 = .ok (.getfield 121, 3) := by decide +kernel
theorem dX12_signer_4 : decode cX12_signer 4 = .ok (.istore 9, 2) := by decide +kernel
theorem dX12_signer_6 : decode cX12_signer 6 = .ok (.aload_n 0, 1) := by decide +kernel
theorem dX12_signer_7 : decode cX12_signer 7 = .ok (.iconst 0, 1) := by decide +kernel
theorem dX12_signer_8 : decode cX12_signer 8 = .ok (.putfield 121, 3) := by decide +kernel
theorem dX12_signer_11 : decode cX12_signer 11 = .ok (.iload 9, 2) := by decide +kernel
theorem dX12_signer_13 : decode cX12_signer 13 = .ok (.i2l, 1) := by decide +kernel
theorem dX12_signer_14 : decode cX12_signer 14 = .ok (.lconst 1, 1) := by decide +kernel
theorem dX12_signer_15 : decode cX12_signer 15 = .ok (.ldc2_w 430, 3) := by decide +kernel
theorem dX12_signer_18 : decode cX12_signer 18 = .ok (.invokestatic 117, 3) := by decide +kernel
theorem dX12_signer_21 : decode cX12_signer 21 = .ok (.ifCond .eq 64, 3) := by decide +kernel
theorem dX12_signer_24 : decode cX12_signer 24 = .ok (.aload_n 0, 1) := by decide +kernel
theorem dX12_signer_25 : decode cX12_signer 25 = .ok (.iload_n 1, 1) := by decide +kernel
theorem dX12_signer_26 : decode cX12_signer 26 = .ok (.invokevirtual 436, 3) := by decide +kernel
theorem dX12_signer_29 : decode cX12_signer 29 = .ok (.ifCond .eq 56, 3) := by decide +kernel
theorem dX12_signer_32 : decode cX12_signer 32 = .ok (.iload_n 2, 1) := by decide +kernel
theorem dX12_signer_33 : decode cX12_signer 33 = .ok (.i2l, 1) := by decide +kernel
theorem dX12_signer_34 : decode cX12_signer 34 = .ok (.lconst 1, 1) := by decide +kernel
theorem dX12_signer_35 : decode cX12_signer 35 = .ok (.ldc2_w 168, 3) := by decide +kernel
theorem dX12_signer_38 : decode cX12_signer 38 = .ok (.invokestatic 117, 3) := by decide +kernel
theorem dX12_signer_41 : decode cX12_signer 41 = .ok (.ifCond .eq 44, 3) := by decide +kernel
theorem dX12_signer_44 : decode cX12_signer 44 = .ok (.iload_n 3, 1) := by decide +kernel
theorem dX12_signer_45 : decode cX12_signer 45 = .ok (.ifCond .lt 40, 3) := by decide +kernel
theorem dX12_signer_48 : decode cX12_signer 48 = .ok (.lload 4, 2) := by decide +kernel
theorem dX12_signer_50 : decode cX12_signer 50 = .ok (.lconst 0, 1) := by decide +kernel
theorem dX12_signer_51 : decode cX12_signer 51 = .ok (.ldc2_w 198, 3) := by decide +kernel
theorem dX12_signer_54 : decode cX12_signer 54 = .ok (.invokestatic 117, 3) := by decide +kernel
theorem dX12_signer_57 : decode cX12_signer 57 = .ok (.ifCond .eq 28, 3) := by decide +kernel
theorem dX12_signer_60 : decode cX12_signer 60 = .ok (.lload 6, 2) := by decide +kernel
theorem dX12_signer_62 : decode cX12_signer 62 = .ok (.lconst 0, 1) := by decide +kernel
theorem dX12_signer_63 : decode cX12_signer 63 = .ok (.ldc2_w 198, 3) := by decide +kernel
theorem dX12_signer_66 : decode cX12_signer 66 = .ok (.invokestatic 117, 3) := by decide +kernel
theorem dX12_signer_69 : decode cX12_signer 69 = .ok (.ifCond .eq 16, 3) := by decide +kernel
theorem dX12_signer_72 : decode cX12_signer 72 = .ok (.iload 8, 2) := by decide +kernel
theorem dX12_signer_74 : decode cX12_signer 74 = .ok (.i2l, 1) := by decide +kernel
theorem dX12_signer_75 : decode cX12_signer 75 = .ok (.lconst 0, 1) := by decide +kernel
theorem dX12_signer_76 : decode cX12_signer 76 = .ok (.ldc2_w 345, 3) := by decide +kernel
theorem dX12_signer_79 : decode cX12_signer 79 = .ok (.invokestatic 117, 3) := by decide +kernel
theorem dX12_signer_82 : decode cX12_signer 82 = .ok (.ifCond .ne 6, 3) := by decide +kernel
theorem dX12_signer_85 : decode cX12_signer 85 = .ok (.bipush (-2), 2) := by decide +kernel
theorem dX12_signer_87 : decode cX12_signer 87 = .ok (.ireturn, 1) := by decide +kernel
theorem dX12_signer_88 : decode cX12_signer 88 = .ok (.aload_n 0, 1) := by decide +kernel
theorem dX12_signer_89 : decode cX12_signer 89 = .ok (.iload_n 1, 1) := by decide +kernel
theorem dX12_signer_90 : decode cX12_signer 90 = .ok (.iload_n 3, 1) := by decide +kernel
theorem dX12_signer_91 : decode cX12_signer 91 = .ok (.i2l, 1) := by decide +kernel
theorem dX12_signer_92 : decode cX12_signer 92 = .ok (.invokevirtual 439, 3) := by decide +kernel
theorem dX12_signer_95 : decode cX12_signer 95 = .ok (.iconst (-1), 1) := by decide +kernel
theorem dX12_signer_96 : decode cX12_signer 96 = .ok (.if_icmp .eq 7, 3) := by decide +kernel
theorem dX12_signer_99 : decode cX12_signer 99 = .ok (.iconst 1, 1) := by decide +kernel
theorem dX12_signer_100 : decode cX12_signer 100 = .ok (.goto 4, 3) := by decide +kernel
theorem dX12_signer_103 : decode cX12_signer 103 = .ok (.iconst 0, 1) := by decide +kernel
theorem dX12_signer_104 : decode cX12_signer 104 = .ok (.istore 10, 2) := by decide +kernel
theorem dX12_signer_106 : decode cX12_signer 106 = .ok (.aload_n 0, 1) := by decide +kernel
theorem dX12_signer_107 : decode cX12_signer 107 = .ok (.getfield 445, 3) := by decide +kernel
theorem dX12_signer_110 : decode cX12_signer 110 = .ok (.bipush 8, 2) := by decide +kernel
theorem dX12_signer_112 : decode cX12_signer 112 = .ok (.if_icmp .eq 19, 3) := by decide +kernel
theorem dX12_signer_115 : decode cX12_signer 115 = .ok (.iload 10, 2) := by decide +kernel
theorem dX12_signer_117 : decode cX12_signer 117 = .ok (.ifCond .ne 17, 3) := by decide +kernel
theorem dX12_signer_120 : decode cX12_signer 120 = .ok (.aload_n 0, 1) := by decide +kernel
theorem dX12_signer_121 : decode cX12_signer 121 = .ok (.getfield 30, 3) := by decide +kernel
theorem dX12_signer_124 : decode cX12_signer 124 = .ok (.iload_n 1, 1) := by decide +kernel
theorem dX12_signer_125 : decode cX12_signer 125 = .ok (.iaload, 1) := by decide +kernel
theorem dX12_signer_126 : decode cX12_signer 126 = .ok (.bipush 32, 2) := by decide +kernel
theorem dX12_signer_128 : decode cX12_signer 128 = .ok (.if_icmp .ne 6, 3) := by decide +kernel
theorem dX12_signer_131 : decode cX12_signer 131 = .ok (.bipush (-3), 2) := by decide +kernel
theorem dX12_signer_133 : decode cX12_signer 133 = .ok (.ireturn, 1) := by decide +kernel
theorem dX12_signer_134 : decode cX12_signer 134 = .ok (.iload 10, 2) := by decide +kernel
theorem dX12_signer_136 : decode cX12_signer 136 = .ok (.ifCond .ne 9, 3) := by decide +kernel
theorem dX12_signer_139 : decode cX12_signer 139 = .ok (.aload_n 0, 1) := by decide +kernel
theorem dX12_signer_140 : decode cX12_signer 140 = .ok (.iload_n 1, 1) := by decide +kernel
theorem dX12_signer_141 : decode cX12_signer 141 = .ok (.iload_n 3, 1) := by decide +kernel
theorem dX12_signer_142 : decode cX12_signer 142 = .ok (.invokevirtual 442, 3) := by decide +kernel
theorem dX12_signer_145 : decode cX12_signer 145 = .ok (.aload_n 0, 1) := by decide +kernel
theorem dX12_signer_146 : decode cX12_signer 146 = .ok (.getfield 42, 3) := by decide +kernel
theorem dX12_signer_149 : decode cX12_signer 149 = .ok (.aload_n 0, 1) := by decide +kernel
theorem dX12_signer_150 : decode cX12_signer 150 = .ok (.getfield 445, 3) := by decide +kernel
theorem dX12_signer_153 : decode cX12_signer 153 = .ok (.iload_n 1, 1) := by decide +kernel
theorem dX12_signer_154 : decode cX12_signer 154 = .ok (.iastore, 1) := by decide +kernel
theorem dX12_signer_155 : decode cX12_signer 155 = .ok (.aload_n 0, 1) := by decide +kernel
theorem dX12_signer_156 : decode cX12_signer 156 = .ok (.getfield 45, 3) := by decide +kernel
theorem dX12_signer_159 : decode cX12_signer 159 = .ok (.aload_n 0, 1) := by decide +kernel
theorem dX12_signer_160 : decode cX12_signer 160 = .ok (.getfield 445, 3) := by decide +kernel
theorem dX12_signer_163 : decode cX12_signer 163 = .ok (.iload_n 2, 1) := by decide +kernel
theorem dX12_signer_164 : decode cX12_signer 164 = .ok (.i2l, 1) := by decide +kernel
theorem dX12_signer_165 : decode cX12_signer 165 = .ok (.lastore, 1) := by decide +kernel
theorem dX12_signer_166 : decode cX12_signer 166 = .ok (.aload_n 0, 1) := by decide +kernel
theorem dX12_signer_167 : decode cX12_signer 167 = .ok (.getfield 48, 3) := by decide +kernel
theorem dX12_signer_170 : decode cX12_signer 170 = .ok (.aload_n 0, 1) := by decide +kernel
theorem dX12_signer_171 : decode cX12_signer 171 = .ok (.getfield 445, 3) := by decide +kernel
theorem dX12_signer_174 : decode cX12_signer 174 = .ok (.ldc2_w 173, 3) := by decide +kernel
theorem dX12_signer_177 : decode cX12_signer 177 = .ok (.iload_n 2, 1) := by decide +kernel
theorem dX12_signer_178 : decode cX12_signer 178 = .ok (.i2l, 1) := by decide +kernel
theorem dX12_signer_179 : decode cX12_signer 179 = .ok (.invokestatic 175, 3) := by decide +kernel
theorem dX12_signer_182 : decode cX12_signer 182 = .ok (.lastore, 1) := by decide +kernel
theorem dX12_signer_183 : decode cX12_signer 183 = .ok (.aload_n 0, 1) := by decide +kernel
theorem dX12_signer_184 : decode cX12_signer 184 = .ok (.iconst 0, 1) := by decide +kernel
theorem dX12_signer_185 : decode cX12_signer 185 = .ok (.putfield 229, 3) := by decide +kernel
theorem dX12_signer_188 : decode cX12_signer 188 = .ok (.aload_n 0, 1) := by decide +kernel
theorem dX12_signer_189 : decode cX12_signer 189 = .ok (.iload_n 3, 1) := by decide +kernel
theorem dX12_signer_190 : decode cX12_signer 190 = .ok (.i2l, 1) := by decide +kernel
theorem dX12_signer_191 : decode cX12_signer 191 = .ok (.invokevirtual 253, 3) := by decide +kernel
theorem dX12_signer_194 : decode cX12_signer 194 = .ok (.aload_n 0, 1) := by decide +kernel
theorem dX12_signer_195 : decode cX12_signer 195 = .ok (.getfield 229, 3) := by decide +kernel
theorem dX12_signer_198 : decode cX12_signer 198 = .ok (.istore 11, 2) := by decide +kernel
theorem dX12_signer_200 : decode cX12_signer 200 = .ok (.aload_n 0, 1) := by decide +kernel
theorem dX12_signer_201 : decode cX12_signer 201 = .ok (.aload_n 0, 1) := by decide +kernel
theorem dX12_signer_202 : decode cX12_signer 202 = .ok (.getfield 16, 3) := by decide +kernel
theorem dX12_signer_205 : decode cX12_signer 205 = .ok (.bipush 16, 2) := by decide +kernel
theorem dX12_signer_207 : decode cX12_signer 207 = .ok (.iload_n 1, 1) := by decide +kernel
theorem dX12_signer_208 : decode cX12_signer 208 = .ok (.imul, 1) := by decide +kernel
theorem dX12_signer_209 : decode cX12_signer 209 = .ok (.bipush 16, 2) := by decide +kernel
theorem dX12_signer_211 : decode cX12_signer 211 = .ok (.iload_n 1, 1) := by decide +kernel
theorem dX12_signer_212 : decode cX12_signer 212 = .ok (.imul, 1) := by decide +kernel
theorem dX12_signer_213 : decode cX12_signer 213 = .ok (.aload_n 0, 1) := by decide +kernel
theorem dX12_signer_214 : decode cX12_signer 214 = .ok (.getfield 19, 3) := by decide +kernel
theorem dX12_signer_217 : decode cX12_signer 217 = .ok (.iload_n 1, 1) := by decide +kernel
theorem dX12_signer_218 : decode cX12_signer 218 = .ok (.iaload, 1) := by decide +kernel
theorem dX12_signer_219 : decode cX12_signer 219 = .ok (.iadd, 1) := by decide +kernel
theorem dX12_signer_220 : decode cX12_signer 220 = .ok (.invokevirtual 448, 3) := by decide +kernel
theorem dX12_signer_223 : decode cX12_signer 223 = .ok (.aload_n 0, 1) := by decide +kernel
theorem dX12_signer_224 : decode cX12_signer 224 = .ok (.iload 11, 2) := by decide +kernel
theorem dX12_signer_226 : decode cX12_signer 226 = .ok (.iconst 4, 1) := by decide +kernel
theorem dX12_signer_227 : decode cX12_signer 227 = .ok (.invokevirtual 235, 3) := by decide +kernel
theorem dX12_signer_230 : decode cX12_signer 230 = .ok (.aload_n 0, 1) := by decide +kernel
theorem dX12_signer_231 : decode cX12_signer 231 = .ok (.getfield 229, 3) := by decide +kernel
theorem dX12_signer_234 : decode cX12_signer 234 = .ok (.istore 11, 2) := by decide +kernel
theorem dX12_signer_236 : decode cX12_signer 236 = .ok (.aload_n 0, 1) := by decide +kernel
theorem dX12_signer_237 : decode cX12_signer 237 = .ok (.aload_n 0, 1) := by decide +kernel
theorem dX12_signer_238 : decode cX12_signer 238 = .ok (.getfield 7, 3) := by decide +kernel
theorem dX12_signer_241 : decode cX12_signer 241 = .ok (.iconst 0, 1) := by decide +kernel
theorem dX12_signer_242 : decode cX12_signer 242 = .ok (.iload 9, 2) := by decide +kernel
theorem dX12_signer_244 : decode cX12_signer 244 = .ok (.invokevirtual 448, 3) := by decide +kernel
theorem dX12_signer_247 : decode cX12_signer 247 = .ok (.aload_n 0, 1) := by decide +kernel
theorem dX12_signer_248 : decode cX12_signer 248 = .ok (.iload 11, 2) := by decide +kernel
theorem dX12_signer_250 : decode cX12_signer 250 = .ok (.iconst 4, 1) := by decide +kernel
theorem dX12_signer_251 : decode cX12_signer 251 = .ok (.invokevirtual 235, 3) := by decide +kernel
theorem dX12_signer_254 : decode cX12_signer 254 = .ok (.aload_n 0, 1) := by decide +kernel
theorem dX12_signer_255 : decode cX12_signer 255 = .ok (.lload 4, 2) := by decide +kernel
theorem dX12_signer_257 : decode cX12_signer 257 = .ok (.invokevirtual 451, 3) := by decide +kernel
theorem dX12_signer_260 : decode cX12_signer 260 = .ok (.aload_n 0, 1) := by decide +kernel
theorem dX12_signer_261 : decode cX12_signer 261 = .ok (.lload 6, 2) := by decide +kernel
theorem dX12_signer_263 : decode cX12_signer 263 = .ok (.invokevirtual 451, 3) := by decide +kernel
theorem dX12_signer_266 : decode cX12_signer 266 = .ok (.aload_n 0, 1) := by decide +kernel
theorem dX12_signer_267 : decode cX12_signer 267 = .ok (.aload_n 0, 1) := by decide +kernel
theorem dX12_signer_268 : decode cX12_signer 268 = .ok (.getfield 48, 3) := by decide +kernel
theorem dX12_signer_271 : decode cX12_signer 271 = .ok (.aload_n 0, 1) := by decide +kernel
theorem dX12_signer_272 : decode cX12_signer 272 = .ok (.getfield 445, 3) := by decide +kernel
theorem dX12_signer_275 : decode cX12_signer 275 = .ok (.laload, 1) := by decide +kernel
theorem dX12_signer_276 : decode cX12_signer 276 = .ok (.invokevirtual 253, 3) := by decide +kernel
theorem dX12_signer_279 : decode cX12_signer 279 = .ok (.aload_n 0, 1) := by decide +kernel
theorem dX12_signer_280 : decode cX12_signer 280 = .ok (.iload 8, 2) := by decide +kernel
theorem dX12_signer_282 : decode cX12_signer 282 = .ok (.i2l, 1) := by decide +kernel
theorem dX12_signer_283 : decode cX12_signer 283 = .ok (.invokevirtual 253, 3) := by decide +kernel
theorem dX12_signer_286 : decode cX12_signer 286 = .ok (.aload_n 0, 1) := by decide +kernel
theorem dX12_signer_287 : decode cX12_signer 287 = .ok (.iconst 0, 1) := by decide +kernel
theorem dX12_signer_288 : decode cX12_signer 288 = .ok (.bipush 48, 2) := by decide +kernel
theorem dX12_signer_290 : decode cX12_signer 290 = .ok (.invokevirtual 235, 3) := by decide +kernel
theorem dX12_signer_293 : decode cX12_signer 293 = .ok (.aload_n 0, 1) := by decide +kernel
theorem dX12_signer_294 : decode cX12_signer 294 = .ok (.aload_n 0, 1) := by decide +kernel
theorem dX12_signer_295 : decode cX12_signer 295 = .ok (.getfield 23, 3) := by decide +kernel
theorem dX12_signer_298 : decode cX12_signer 298 = .ok (.iload_n 1, 1) := by decide +kernel
theorem dX12_signer_299 : decode cX12_signer 299 = .ok (.laload, 1) := by decide +kernel
theorem dX12_signer_300 : decode cX12_signer 300 = .ok (.iconst 0, 1) := by decide +kernel
theorem dX12_signer_301 : decode cX12_signer 301 = .ok (.aload_n 0, 1) := by decide +kernel
theorem dX12_signer_302 : decode cX12_signer 302 = .ok (.getfield 229, 3) := by decide +kernel
theorem dX12_signer_305 : decode cX12_signer 305 = .ok (.invokevirtual 454, 3) := by decide +kernel
theorem dX12_signer_308 : decode cX12_signer 308 = .ok (.aload_n 0, 1) := by decide +kernel
theorem dX12_signer_309 : decode cX12_signer 309 = .ok (.iconst 0, 1) := by decide +kernel
theorem dX12_signer_310 : decode cX12_signer 310 = .ok (.bipush 48, 2) := by decide +kernel
theorem dX12_signer_312 : decode cX12_signer 312 = .ok (.invokevirtual 235, 3) := by decide +kernel
theorem dX12_signer_315 : decode cX12_signer 315 = .ok (.iconst 0, 1) := by decide +kernel
theorem dX12_signer_316 : decode cX12_signer 316 = .ok (.istore 12, 2) := by decide +kernel
theorem dX12_signer_318 : decode cX12_signer 318 = .ok (.iload 12, 2) := by decide +kernel
theorem dX12_signer_320 : decode cX12_signer 320 = .ok (.aload_n 0, 1) := by decide +kernel
theorem dX12_signer_321 : decode cX12_signer 321 = .ok (.getfield 229, 3) := by decide +kernel
theorem dX12_signer_324 : decode cX12_signer 324 = .ok (.if_icmp .ge 32, 3) := by decide +kernel
theorem dX12_signer_327 : decode cX12_signer 327 = .ok (.aload_n 0, 1) := by decide +kernel
theorem dX12_signer_328 : decode cX12_signer 328 = .ok (.getfield 51, 3) := by decide +kernel
theorem dX12_signer_331 : decode cX12_signer 331 = .ok (.sipush 300, 3) := by decide +kernel
theorem dX12_signer_334 : decode cX12_signer 334 = .ok (.aload_n 0, 1) := by decide +kernel
theorem dX12_signer_335 : decode cX12_signer 335 = .ok (.getfield 445, 3) := by decide +kernel
theorem dX12_signer_338 : decode cX12_signer 338 = .ok (.imul, 1) := by decide +kernel
theorem dX12_signer_339 : decode cX12_signer 339 = .ok (.iload 12, 2) := by decide +kernel
theorem dX12_signer_341 : decode cX12_signer 341 = .ok (.iadd, 1) := by decide +kernel
theorem dX12_signer_342 : decode cX12_signer 342 = .ok (.aload_n 0, 1) := by decide +kernel
theorem dX12_signer_343 : decode cX12_signer 343 = .ok (.getfield 69, 3) := by decide +kernel
theorem dX12_signer_346 : decode cX12_signer 346 = .ok (.iload 12, 2) := by decide +kernel
theorem dX12_signer_348 : decode cX12_signer 348 = .ok (.baload, 1) := by decide +kernel
theorem dX12_signer_349 : decode cX12_signer 349 = .ok (.bastore, 1) := by decide +kernel
theorem dX12_signer_350 : decode cX12_signer 350 = .ok (.iinc 12 1, 3) := by decide +kernel
theorem dX12_signer_353 : decode cX12_signer 353 = .ok (.goto (-35), 3) := by decide +kernel
theorem dX12_signer_356 : decode cX12_signer 356 = .ok (.aload_n 0, 1) := by decide +kernel
theorem dX12_signer_357 : decode cX12_signer 357 = .ok (.getfield 54, 3) := by decide +kernel
theorem dX12_signer_360 : decode cX12_signer 360 = .ok (.aload_n 0, 1) := by decide +kernel
theorem dX12_signer_361 : decode cX12_signer 361 = .ok (.getfield 445, 3) := by decide +kernel
theorem dX12_signer_364 : decode cX12_signer 364 = .ok (.aload_n 0, 1) := by decide +kernel
theorem dX12_signer_365 : decode cX12_signer 365 = .ok (.getfield 229, 3) := by decide +kernel
theorem dX12_signer_368 : decode cX12_signer 368 = .ok (.iastore, 1) := by decide +kernel
theorem dX12_signer_369 : decode cX12_signer 369 = .ok (.aload_n 0, 1) := by decide +kernel
theorem dX12_signer_370 : decode cX12_signer 370 = .ok (.dup, 1) := by decide +kernel
theorem dX12_signer_371 : decode cX12_signer 371 = .ok (.getfield 445, 3) := by decide +kernel
theorem dX12_signer_374 : decode cX12_signer 374 = .ok (.iconst 1, 1) := by decide +kernel
theorem dX12_signer_375 : decode cX12_signer 375 = .ok (.iadd, 1) := by decide +kernel
theorem dX12_signer_376 : decode cX12_signer 376 = .ok (.putfield 445, 3) := by decide +kernel
theorem dX12_signer_379 : decode cX12_signer 379 = .ok (.aload_n 0, 1) := by decide +kernel
theorem dX12_signer_380 : decode cX12_signer 380 = .ok (.invokevirtual 458, 3) := by decide +kernel
theorem dX12_signer_383 : decode cX12_signer 383 = .ok (.istore 12, 2) := by decide +kernel
theorem dX12_signer_385 : decode cX12_signer 385 = .ok (.aload_n 0, 1) := by decide +kernel
theorem dX12_signer_386 : decode cX12_signer 386 = .ok (.getfield 445, 3) := by decide +kernel
theorem dX12_signer_389 : decode cX12_signer 389 = .ok (.iconst 1, 1) := by decide +kernel
theorem dX12_signer_390 : decode cX12_signer 390 = .ok (.isub, 1) := by decide +kernel
theorem dX12_signer_391 : decode cX12_signer 391 = .ok (.ireturn, 1) := by decide +kernel
theorem dX12_cert_0 : decode cX12_cert 0 = .ok (.iload_n 1, 1) := by decide +kernel
theorem dX12_cert_1 : decode cX12_cert 1 = .ok (.i2l, 1) := by decide +kernel
theorem dX12_cert_2 : decode cX12_cert 2 = .ok (.lconst 0, 1) := by decide +kernel
theorem dX12_cert_3 : decode cX12_cert 3 = .ok (.aload_n 0, 1) := by decide +kernel
theorem dX12_cert_4 : decode cX12_cert 4 = .ok (.getfield 445, 3) := by decide +kernel
theorem dX12_cert_7 : decode cX12_cert 7 = .ok (.iconst 1, 1) := by decide +kernel
theorem dX12_cert_8 : decode cX12_cert 8 = .ok (.isub, 1) := by decide +kernel
theorem dX12_cert_9 : decode cX12_cert 9 = .ok (.i2l, 1) := by decide +kernel
theorem dX12_cert_10 : decode cX12_cert 10 = .ok (.invokestatic 117, 3) := by decide +kernel
theorem dX12_cert_13 : decode cX12_cert 13 = .ok (.ifCond .ne 6, 3) := by decide +kernel
theorem dX12_cert_16 : decode cX12_cert 16 = .ok (.bipush (-2), 2) := by decide +kernel
theorem dX12_cert_18 : decode cX12_cert 18 = .ok (.ireturn, 1) := by decide +kernel
theorem dX12_cert_19 : decode cX12_cert 19 = .ok (.aload_n 0, 1) := by decide +kernel
theorem dX12_cert_20 : decode cX12_cert 20 = .ok (.iconst 0, 1) := by decide +kernel
theorem dX12_cert_21 : decode cX12_cert 21 = .ok (.putfield 229, 3) := by decide +kernel
theorem dX12_cert_24 : decode cX12_cert 24 = .ok (.aload_n 0, 1) := by decide +kernel
theorem dX12_cert_25 : decode cX12_cert 25 = .ok (.aload_n 0, 1) := by decide +kernel
theorem dX12_cert_26 : decode cX12_cert 26 = .ok (.getfield 51, 3) := by decide +kernel
theorem dX12_cert_29 : decode cX12_cert 29 = .ok (.sipush 300, 3) := by decide +kernel
theorem dX12_cert_32 : decode cX12_cert 32 = .ok (.iload_n 1, 1) := by decide +kernel
theorem dX12_cert_33 : decode cX12_cert 33 = .ok (.imul, 1) := by decide +kernel
theorem dX12_cert_34 : decode cX12_cert 34 = .ok (.sipush 300, 3) := by decide +kernel
theorem dX12_cert_37 : decode cX12_cert 37 = .ok (.iload_n 1, 1) := by decide +kernel
theorem dX12_cert_38 : decode cX12_cert 38 = .ok (.imul, 1) := by decide +kernel
theorem dX12_cert_39 : decode cX12_cert 39 = .ok (.aload_n 0, 1) := by decide +kernel
theorem dX12_cert_40 : decode cX12_cert 40 = .ok (.getfield 54, 3) := by decide +kernel
theorem dX12_cert_43 : decode cX12_cert 43 = .ok (.iload_n 1, 1) := by decide +kernel
theorem dX12_cert_44 : decode cX12_cert 44 = .ok (.iaload, 1) := by decide +kernel
theorem dX12_cert_45 : decode cX12_cert 45 = .ok (.iadd, 1) := by decide +kernel
theorem dX12_cert_46 : decode cX12_cert 46 = .ok (.invokevirtual 448, 3) := by decide +kernel
theorem dX12_cert_49 : decode cX12_cert 49 = .ok (.aload_n 0, 1) := by decide +kernel
theorem dX12_cert_50 : decode cX12_cert 50 = .ok (.invokevirtual 458, 3) := by decide +kernel
theorem dX12_cert_53 : decode cX12_cert 53 = .ok (.ireturn, 1) := by decide +kernel
theorem dX12_want_0 : decode cX12_want 0 = .ok (.aload_n 0, 1) := by decide +kernel
theorem dX12_want_1 : decode cX12_want 1 = .ok (.iload_n 1, 1) := by decide +kernel
theorem dX12_want_2 : decode cX12_want 2 = .ok (.invokevirtual 436, 3) := by decide +kernel
theorem dX12_want_5 : decode cX12_want 5 = .ok (.ifCond .eq 7, 3) := by decide +kernel
theorem dX12_want_8 : decode cX12_want 8 = .ok (.iload_n 2, 1) := by decide +kernel
theorem dX12_want_9 : decode cX12_want 9 = .ok (.ifCond .ge 6, 3) := by decide +kernel
theorem dX12_want_12 : decode cX12_want 12 = .ok (.bipush (-2), 2) := by decide +kernel
theorem dX12_want_14 : decode cX12_want 14 = .ok (.ireturn, 1) := by decide +kernel
theorem dX12_want_15 : decode cX12_want 15 = .ok (.aload_n 0, 1) := by decide +kernel
theorem dX12_want_16 : decode cX12_want 16 = .ok (.getfield 462, 3) := by decide +kernel
theorem dX12_want_19 : decode cX12_want 19 = .ok (.bipush 8, 2) := by decide +kernel
theorem dX12_want_21 : decode cX12_want 21 = .ok (.if_icmp .ne 6, 3) := by decide +kernel
theorem dX12_want_24 : decode cX12_want 24 = .ok (.bipush (-3), 2) := by decide +kernel
theorem dX12_want_26 : decode cX12_want 26 = .ok (.ireturn, 1) := by decide +kernel
theorem dX12_want_27 : decode cX12_want 27 = .ok (.aload_n 0, 1) := by decide +kernel
theorem dX12_want_28 : decode cX12_want 28 = .ok (.getfield 57, 3) := by decide +kernel
theorem dX12_want_31 : decode cX12_want 31 = .ok (.aload_n 0, 1) := by decide +kernel
theorem dX12_want_32 : decode cX12_want 32 = .ok (.getfield 462, 3) := by decide +kernel
theorem dX12_want_35 : decode cX12_want 35 = .ok (.iload_n 1, 1) := by decide +kernel
theorem dX12_want_36 : decode cX12_want 36 = .ok (.iastore, 1) := by decide +kernel
theorem dX12_want_37 : decode cX12_want 37 = .ok (.aload_n 0, 1) := by decide +kernel
theorem dX12_want_38 : decode cX12_want 38 = .ok (.getfield 60, 3) := by decide +kernel
theorem dX12_want_41 : decode cX12_want 41 = .ok (.aload_n 0, 1) := by decide +kernel
theorem dX12_want_42 : decode cX12_want 42 = .ok (.getfield 462, 3) := by decide +kernel
theorem dX12_want_45 : decode cX12_want 45 = .ok (.iload_n 2, 1) := by decide +kernel
theorem dX12_want_46 : decode cX12_want 46 = .ok (.iastore, 1) := by decide +kernel
theorem dX12_want_47 : decode cX12_want 47 = .ok (.aload_n 0, 1) := by decide +kernel
theorem dX12_want_48 : decode cX12_want 48 = .ok (.dup, 1) := by decide +kernel
theorem dX12_want_49 : decode cX12_want 49 = .ok (.getfield 462, 3) := by decide +kernel
theorem dX12_want_52 : decode cX12_want 52 = .ok (.iconst 1, 1) := by decide +kernel
theorem dX12_want_53 : decode cX12_want 53 = .ok (.iadd, 1) := by decide +kernel
theorem dX12_want_54 : decode cX12_want 54 = .ok (.putfield 462, 3) := by decide +kernel
theorem dX12_want_57 : decode cX12_want 57 = .ok (.aload_n 0, 1) := by decide +kernel
theorem dX12_want_58 : decode cX12_want 58 = .ok (.getfield 462, 3) := by decide +kernel
theorem dX12_want_61 : decode cX12_want 61 = .ok (.ireturn, 1) := by decide +kernel
theorem dX12_nonce_0 : decode cX12_nonce 0 = .ok (.iload_n 3, 1) := by decide +kernel
theorem dX12_nonce_1 : decode cX12_nonce 1 = .ok (.i2l, 1) := by decide +kernel
theorem dX12_nonce_2 : decode cX12_nonce 2 = .ok (.lconst 0, 1) := by decide +kernel
theorem dX12_nonce_3 : decode cX12_nonce 3 = .ok (.ldc2_w 115, 3) := by decide +kernel
theorem dX12_nonce_6 : decode cX12_nonce 6 = .ok (.invokestatic 117, 3) := by decide +kernel
theorem dX12_nonce_9 : decode cX12_nonce 9 = .ok (.ifCond .ne 6, 3) := by decide +kernel
theorem dX12_nonce_12 : decode cX12_nonce 12 = .ok (.bipush (-2), 2) := by decide +kernel
theorem dX12_nonce_14 : decode cX12_nonce 14 = .ok (.ireturn, 1) := by decide +kernel
theorem dX12_nonce_15 : decode cX12_nonce 15 = .ok (.iconst 0, 1) := by decide +kernel
theorem dX12_nonce_16 : decode cX12_nonce 16 = .ok (.istore 4, 2) := by decide +kernel
theorem dX12_nonce_18 : decode cX12_nonce 18 = .ok (.iload 4, 2) := by decide +kernel
theorem dX12_nonce_20 : decode cX12_nonce 20 = .ok (.iload_n 3, 1) := by decide +kernel
theorem dX12_nonce_21 : decode cX12_nonce 21 = .ok (.if_icmp .ge 25, 3) := by decide +kernel
theorem dX12_nonce_24 : decode cX12_nonce 24 = .ok (.aload_n 0, 1) := by decide +kernel
theorem dX12_nonce_25 : decode cX12_nonce 25 = .ok (.getfield 63, 3) := by decide +kernel
theorem dX12_nonce_28 : decode cX12_nonce 28 = .ok (.iload 4, 2) := by decide +kernel
theorem dX12_nonce_30 : decode cX12_nonce 30 = .ok (.lload_n 1, 1) := by decide +kernel
theorem dX12_nonce_31 : decode cX12_nonce 31 = .ok (.bipush 8, 2) := by decide +kernel
theorem dX12_nonce_33 : decode cX12_nonce 33 = .ok (.iload 4, 2) := by decide +kernel
theorem dX12_nonce_35 : decode cX12_nonce 35 = .ok (.imul, 1) := by decide +kernel
theorem dX12_nonce_36 : decode cX12_nonce 36 = .ok (.lshr, 1) := by decide +kernel
theorem dX12_nonce_37 : decode cX12_nonce 37 = .ok (.l2i, 1) := by decide +kernel
theorem dX12_nonce_38 : decode cX12_nonce 38 = .ok (.i2b, 1) := by decide +kernel
theorem dX12_nonce_39 : decode cX12_nonce 39 = .ok (.bastore, 1) := by decide +kernel
theorem dX12_nonce_40 : decode cX12_nonce 40 = .ok (.iinc 4 1, 3) := by decide +kernel
theorem dX12_nonce_43 : decode cX12_nonce 43 = .ok (.goto (-25), 3) := by decide +kernel
theorem dX12_nonce_46 : decode cX12_nonce 46 = .ok (.aload_n 0, 1) := by decide +kernel
theorem dX12_nonce_47 : decode cX12_nonce 47 = .ok (.iload_n 3, 1) := by decide +kernel
theorem dX12_nonce_48 : decode cX12_nonce 48 = .ok (.putfield 465, 3) := by decide +kernel
theorem dX12_nonce_51 : decode cX12_nonce 51 = .ok (.iload_n 3, 1) := by decide +kernel
theorem dX12_nonce_52 : decode cX12_nonce 52 = .ok (.ireturn, 1) := by decide +kernel
theorem dX12_ask_0 : decode cX12_ask 0 = .ok (.aload_n 0, 1) := by decide +kernel
theorem dX12_ask_1 : decode cX12_ask 1 = .ok (.getfield 462, 3) := by decide +kernel
theorem dX12_ask_4 : decode cX12_ask 4 = .ok (.ifCond .ne 5, 3) := by decide +kernel
theorem dX12_ask_7 : decode cX12_ask 7 = .ok (.iconst (-1), 1) := by decide +kernel
theorem dX12_ask_8 : decode cX12_ask 8 = .ok (.ireturn, 1) := by decide +kernel
theorem dX12_ask_9 : decode cX12_ask 9 = .ok (.aload_n 0, 1) := by decide +kernel
theorem dX12_ask_10 : decode cX12_ask 10 = .ok (.iconst 0, 1) := by decide +kernel
theorem dX12_ask_11 : decode cX12_ask 11 = .ok (.putfield 229, 3) := by decide +kernel
theorem dX12_ask_14 : decode cX12_ask 14 = .ok (.iconst 0, 1) := by decide +kernel
theorem dX12_ask_15 : decode cX12_ask 15 = .ok (.istore_n 1, 1) := by decide +kernel
theorem dX12_ask_16 : decode cX12_ask 16 = .ok (.iload_n 1, 1) := by decide +kernel
theorem dX12_ask_17 : decode cX12_ask 17 = .ok (.aload_n 0, 1) := by decide +kernel
theorem dX12_ask_18 : decode cX12_ask 18 = .ok (.getfield 462, 3) := by decide +kernel
theorem dX12_ask_21 : decode cX12_ask 21 = .ok (.if_icmp .ge 26, 3) := by decide +kernel
theorem dX12_ask_24 : decode cX12_ask 24 = .ok (.aload_n 0, 1) := by decide +kernel
theorem dX12_ask_25 : decode cX12_ask 25 = .ok (.aload_n 0, 1) := by decide +kernel
theorem dX12_ask_26 : decode cX12_ask 26 = .ok (.getfield 57, 3) := by decide +kernel
theorem dX12_ask_29 : decode cX12_ask 29 = .ok (.iload_n 1, 1) := by decide +kernel
theorem dX12_ask_30 : decode cX12_ask 30 = .ok (.iaload, 1) := by decide +kernel
theorem dX12_ask_31 : decode cX12_ask 31 = .ok (.aload_n 0, 1) := by decide +kernel
theorem dX12_ask_32 : decode cX12_ask 32 = .ok (.getfield 60, 3) := by decide +kernel
theorem dX12_ask_35 : decode cX12_ask 35 = .ok (.iload_n 1, 1) := by decide +kernel
theorem dX12_ask_36 : decode cX12_ask 36 = .ok (.iaload, 1) := by decide +kernel
theorem dX12_ask_37 : decode cX12_ask 37 = .ok (.i2l, 1) := by decide +kernel
theorem dX12_ask_38 : decode cX12_ask 38 = .ok (.invokevirtual 468, 3) := by decide +kernel
theorem dX12_ask_41 : decode cX12_ask 41 = .ok (.iinc 1 1, 3) := by decide +kernel
theorem dX12_ask_44 : decode cX12_ask 44 = .ok (.goto (-28), 3) := by decide +kernel
theorem dX12_ask_47 : decode cX12_ask 47 = .ok (.aload_n 0, 1) := by decide +kernel
theorem dX12_ask_48 : decode cX12_ask 48 = .ok (.iconst 0, 1) := by decide +kernel
theorem dX12_ask_49 : decode cX12_ask 49 = .ok (.bipush 48, 2) := by decide +kernel
theorem dX12_ask_51 : decode cX12_ask 51 = .ok (.invokevirtual 235, 3) := by decide +kernel
theorem dX12_ask_54 : decode cX12_ask 54 = .ok (.aload_n 0, 1) := by decide +kernel
theorem dX12_ask_55 : decode cX12_ask 55 = .ok (.getfield 465, 3) := by decide +kernel
theorem dX12_ask_58 : decode cX12_ask 58 = .ok (.ifCond .le 35, 3) := by decide +kernel
theorem dX12_ask_61 : decode cX12_ask 61 = .ok (.aload_n 0, 1) := by decide +kernel
theorem dX12_ask_62 : decode cX12_ask 62 = .ok (.getfield 229, 3) := by decide +kernel
theorem dX12_ask_65 : decode cX12_ask 65 = .ok (.istore_n 1, 1) := by decide +kernel
theorem dX12_ask_66 : decode cX12_ask 66 = .ok (.aload_n 0, 1) := by decide +kernel
theorem dX12_ask_67 : decode cX12_ask 67 = .ok (.aload_n 0, 1) := by decide +kernel
theorem dX12_ask_68 : decode cX12_ask 68 = .ok (.getfield 63, 3) := by decide +kernel
theorem dX12_ask_71 : decode cX12_ask 71 = .ok (.iconst 0, 1) := by decide +kernel
theorem dX12_ask_72 : decode cX12_ask 72 = .ok (.aload_n 0, 1) := by decide +kernel
theorem dX12_ask_73 : decode cX12_ask 73 = .ok (.getfield 465, 3) := by decide +kernel
theorem dX12_ask_76 : decode cX12_ask 76 = .ok (.invokevirtual 448, 3) := by decide +kernel
theorem dX12_ask_79 : decode cX12_ask 79 = .ok (.aload_n 0, 1) := by decide +kernel
theorem dX12_ask_80 : decode cX12_ask 80 = .ok (.iload_n 1, 1) := by decide +kernel
theorem dX12_ask_81 : decode cX12_ask 81 = .ok (.iconst 4, 1) := by decide +kernel
theorem dX12_ask_82 : decode cX12_ask 82 = .ok (.invokevirtual 235, 3) := by decide +kernel
theorem dX12_ask_85 : decode cX12_ask 85 = .ok (.aload_n 0, 1) := by decide +kernel
theorem dX12_ask_86 : decode cX12_ask 86 = .ok (.iload_n 1, 1) := by decide +kernel
theorem dX12_ask_87 : decode cX12_ask 87 = .ok (.sipush 162, 3) := by decide +kernel
theorem dX12_ask_90 : decode cX12_ask 90 = .ok (.invokevirtual 235, 3) := by decide +kernel
theorem dX12_ask_93 : decode cX12_ask 93 = .ok (.aload_n 0, 1) := by decide +kernel
theorem dX12_ask_94 : decode cX12_ask 94 = .ok (.iconst 0, 1) := by decide +kernel
theorem dX12_ask_95 : decode cX12_ask 95 = .ok (.bipush 48, 2) := by decide +kernel
theorem dX12_ask_97 : decode cX12_ask 97 = .ok (.invokevirtual 235, 3) := by decide +kernel
theorem dX12_ask_100 : decode cX12_ask 100 = .ok (.aload_n 0, 1) := by decide +kernel
theorem dX12_ask_101 : decode cX12_ask 101 = .ok (.iconst 0, 1) := by decide +kernel
theorem dX12_ask_102 : decode cX12_ask 102 = .ok (.putfield 462, 3) := by decide +kernel
theorem dX12_ask_105 : decode cX12_ask 105 = .ok (.aload_n 0, 1) := by decide +kernel
theorem dX12_ask_106 : decode cX12_ask 106 = .ok (.invokevirtual 458, 3) := by decide +kernel
theorem dX12_ask_109 : decode cX12_ask 109 = .ok (.ireturn, 1) := by decide +kernel
theorem dX12_isHash_0 : decode cX12_isHash 0 = .ok (.iconst 1, 1) := by decide +kernel
theorem dX12_isHash_1 : decode cX12_isHash 1 = .ok (.istore 4, 2) := by decide +kernel
theorem dX12_isHash_3 : decode cX12_isHash 3 = .ok (.iconst 0, 1) := by decide +kernel
theorem dX12_isHash_4 : decode cX12_isHash 4 = .ok (.istore 5, 2) := by decide +kernel
theorem dX12_isHash_6 : decode cX12_isHash 6 = .ok (.iload 5, 2) := by decide +kernel
theorem dX12_isHash_8 : decode cX12_isHash 8 = .ok (.bipush 8, 2) := by decide +kernel
theorem dX12_isHash_10 : decode cX12_isHash 10 = .ok (.if_icmp .ge 53, 3) := by decide +kernel
theorem dX12_isHash_13 : decode cX12_isHash 13 = .ok (.iload 4, 2) := by decide +kernel
theorem dX12_isHash_15 : decode cX12_isHash 15 = .ok (.ifCond .eq 39, 3) := by decide +kernel
theorem dX12_isHash_18 : decode cX12_isHash 18 = .ok (.aload_n 0, 1) := by decide +kernel
theorem dX12_isHash_19 : decode cX12_isHash 19 = .ok (.getfield 7, 3) := by decide +kernel
theorem dX12_isHash_22 : decode cX12_isHash 22 = .ok (.iload_n 1, 1) := by decide +kernel
theorem dX12_isHash_23 : decode cX12_isHash 23 = .ok (.iload 5, 2) := by decide +kernel
theorem dX12_isHash_25 : decode cX12_isHash 25 = .ok (.iadd, 1) := by decide +kernel
theorem dX12_isHash_26 : decode cX12_isHash 26 = .ok (.baload, 1) := by decide +kernel
theorem dX12_isHash_27 : decode cX12_isHash 27 = .ok (.sipush 255, 3) := by decide +kernel
theorem dX12_isHash_30 : decode cX12_isHash 30 = .ok (.iand, 1) := by decide +kernel
theorem dX12_isHash_31 : decode cX12_isHash 31 = .ok (.i2l, 1) := by decide +kernel
theorem dX12_isHash_32 : decode cX12_isHash 32 = .ok (.lload_n 2, 1) := by decide +kernel
theorem dX12_isHash_33 : decode cX12_isHash 33 = .ok (.bipush 56, 2) := by decide +kernel
theorem dX12_isHash_35 : decode cX12_isHash 35 = .ok (.bipush 8, 2) := by decide +kernel
theorem dX12_isHash_37 : decode cX12_isHash 37 = .ok (.iload 5, 2) := by decide +kernel
theorem dX12_isHash_39 : decode cX12_isHash 39 = .ok (.imul, 1) := by decide +kernel
theorem dX12_isHash_40 : decode cX12_isHash 40 = .ok (.isub, 1) := by decide +kernel
theorem dX12_isHash_41 : decode cX12_isHash 41 = .ok (.lshr, 1) := by decide +kernel
theorem dX12_isHash_42 : decode cX12_isHash 42 = .ok (.ldc2_w 186, 3) := by decide +kernel
theorem dX12_isHash_45 : decode cX12_isHash 45 = .ok (.land, 1) := by decide +kernel
theorem dX12_isHash_46 : decode cX12_isHash 46 = .ok (.lcmp, 1) := by decide +kernel
theorem dX12_isHash_47 : decode cX12_isHash 47 = .ok (.ifCond .ne 7, 3) := by decide +kernel
theorem dX12_isHash_50 : decode cX12_isHash 50 = .ok (.iconst 1, 1) := by decide +kernel
theorem dX12_isHash_51 : decode cX12_isHash 51 = .ok (.goto 4, 3) := by decide +kernel
theorem dX12_isHash_54 : decode cX12_isHash 54 = .ok (.iconst 0, 1) := by decide +kernel
theorem dX12_isHash_55 : decode cX12_isHash 55 = .ok (.istore 4, 2) := by decide +kernel
theorem dX12_isHash_57 : decode cX12_isHash 57 = .ok (.iinc 5 1, 3) := by decide +kernel
theorem dX12_isHash_60 : decode cX12_isHash 60 = .ok (.goto (-54), 3) := by decide +kernel
theorem dX12_isHash_63 : decode cX12_isHash 63 = .ok (.iload 4, 2) := by decide +kernel
theorem dX12_isHash_65 : decode cX12_isHash 65 = .ok (.ireturn, 1) := by decide +kernel
theorem dX12_isOf_0 : decode cX12_isOf 0 = .ok (.aload_n 0, 1) := by decide +kernel
theorem dX12_isOf_1 : decode cX12_isOf 1 = .ok (.aload_n 0, 1) := by decide +kernel
theorem dX12_isOf_2 : decode cX12_isOf 2 = .ok (.getfield 72, 3) := by decide +kernel
theorem dX12_isOf_5 : decode cX12_isOf 5 = .ok (.iload_n 1, 1) := by decide +kernel
theorem dX12_isOf_6 : decode cX12_isOf 6 = .ok (.iaload, 1) := by decide +kernel
theorem dX12_isOf_7 : decode cX12_isOf 7 = .ok (.aload_n 0, 1) := by decide +kernel
theorem dX12_isOf_8 : decode cX12_isOf 8 = .ok (.aload_n 0, 1) := by decide +kernel
theorem dX12_isOf_9 : decode cX12_isOf 9 = .ok (.getfield 16, 3) := by decide +kernel
theorem dX12_isOf_12 : decode cX12_isOf 12 = .ok (.bipush 16, 2) := by decide +kernel
theorem dX12_isOf_14 : decode cX12_isOf 14 = .ok (.iload_n 2, 1) := by decide +kernel
theorem dX12_isOf_15 : decode cX12_isOf 15 = .ok (.imul, 1) := by decide +kernel
theorem dX12_isOf_16 : decode cX12_isOf 16 = .ok (.bipush 16, 2) := by decide +kernel
theorem dX12_isOf_18 : decode cX12_isOf 18 = .ok (.iload_n 2, 1) := by decide +kernel
theorem dX12_isOf_19 : decode cX12_isOf 19 = .ok (.imul, 1) := by decide +kernel
theorem dX12_isOf_20 : decode cX12_isOf 20 = .ok (.aload_n 0, 1) := by decide +kernel
theorem dX12_isOf_21 : decode cX12_isOf 21 = .ok (.getfield 19, 3) := by decide +kernel
theorem dX12_isOf_24 : decode cX12_isOf 24 = .ok (.iload_n 2, 1) := by decide +kernel
theorem dX12_isOf_25 : decode cX12_isOf 25 = .ok (.iaload, 1) := by decide +kernel
theorem dX12_isOf_26 : decode cX12_isOf 26 = .ok (.iadd, 1) := by decide +kernel
theorem dX12_isOf_27 : decode cX12_isOf 27 = .ok (.invokevirtual 160, 3) := by decide +kernel
theorem dX12_isOf_30 : decode cX12_isOf 30 = .ok (.invokevirtual 472, 3) := by decide +kernel
theorem dX12_isOf_33 : decode cX12_isOf 33 = .ok (.ifCond .eq 30, 3) := by decide +kernel
theorem dX12_isOf_36 : decode cX12_isOf 36 = .ok (.aload_n 0, 1) := by decide +kernel
theorem dX12_isOf_37 : decode cX12_isOf 37 = .ok (.aload_n 0, 1) := by decide +kernel
theorem dX12_isOf_38 : decode cX12_isOf 38 = .ok (.getfield 75, 3) := by decide +kernel
theorem dX12_isOf_41 : decode cX12_isOf 41 = .ok (.iload_n 1, 1) := by decide +kernel
theorem dX12_isOf_42 : decode cX12_isOf 42 = .ok (.iaload, 1) := by decide +kernel
theorem dX12_isOf_43 : decode cX12_isOf 43 = .ok (.aload_n 0, 1) := by decide +kernel
theorem dX12_isOf_44 : decode cX12_isOf 44 = .ok (.aload_n 0, 1) := by decide +kernel
theorem dX12_isOf_45 : decode cX12_isOf 45 = .ok (.getfield 27, 3) := by decide +kernel
theorem dX12_isOf_48 : decode cX12_isOf 48 = .ok (.iload_n 2, 1) := by decide +kernel
theorem dX12_isOf_49 : decode cX12_isOf 49 = .ok (.laload, 1) := by decide +kernel
theorem dX12_isOf_50 : decode cX12_isOf 50 = .ok (.invokevirtual 249, 3) := by decide +kernel
theorem dX12_isOf_53 : decode cX12_isOf 53 = .ok (.invokevirtual 472, 3) := by decide +kernel
theorem dX12_isOf_56 : decode cX12_isOf 56 = .ok (.ifCond .eq 7, 3) := by decide +kernel
theorem dX12_isOf_59 : decode cX12_isOf 59 = .ok (.iconst 1, 1) := by decide +kernel
theorem dX12_isOf_60 : decode cX12_isOf 60 = .ok (.goto 4, 3) := by decide +kernel
theorem dX12_isOf_63 : decode cX12_isOf 63 = .ok (.iconst 0, 1) := by decide +kernel
theorem dX12_isOf_64 : decode cX12_isOf 64 = .ok (.ireturn, 1) := by decide +kernel
theorem dX12_tellStatus_0 : decode cX12_tellStatus 0 = .ok (.aload_n 0, 1) := by decide +kernel
theorem dX12_tellStatus_1 : decode cX12_tellStatus 1 = .ok (.iconst 0, 1) := by decide +kernel
theorem dX12_tellStatus_2 : decode cX12_tellStatus 2 = .ok (.putfield 229, 3) := by decide +kernel
theorem dX12_tellStatus_5 : decode cX12_tellStatus 5 = .ok (.aload_n 0, 1) := by decide +kernel
theorem dX12_tellStatus_6 : decode cX12_tellStatus 6 = .ok (.iload_n 1, 1) := by decide +kernel
theorem dX12_tellStatus_7 : decode cX12_tellStatus 7 = .ok (.invokevirtual 476, 3) := by decide +kernel
theorem dX12_tellStatus_10 : decode cX12_tellStatus 10 = .ok (.aload_n 0, 1) := by decide +kernel
theorem dX12_tellStatus_11 : decode cX12_tellStatus 11 = .ok (.iconst 0, 1) := by decide +kernel
theorem dX12_tellStatus_12 : decode cX12_tellStatus 12 = .ok (.bipush 48, 2) := by decide +kernel
theorem dX12_tellStatus_14 : decode cX12_tellStatus 14 = .ok (.invokevirtual 235, 3) := by decide +kernel
theorem dX12_tellStatus_17 : decode cX12_tellStatus 17 = .ok (.aload_n 0, 1) := by decide +kernel
theorem dX12_tellStatus_18 : decode cX12_tellStatus 18 = .ok (.invokevirtual 458, 3) := by decide +kernel
theorem dX12_tellStatus_21 : decode cX12_tellStatus 21 = .ok (.istore_n 2, 1) := by decide +kernel
theorem dX12_tellStatus_22 : decode cX12_tellStatus 22 = .ok (.aload_n 0, 1) := by decide +kernel
theorem dX12_tellStatus_23 : decode cX12_tellStatus 23 = .ok (.dup, 1) := by decide +kernel
theorem dX12_tellStatus_24 : decode cX12_tellStatus 24 = .ok (.getfield 479, 3) := by decide +kernel
theorem dX12_tellStatus_27 : decode cX12_tellStatus 27 = .ok (.iconst 1, 1) := by decide +kernel
theorem dX12_tellStatus_28 : decode cX12_tellStatus 28 = .ok (.iadd, 1) := by decide +kernel
theorem dX12_tellStatus_29 : decode cX12_tellStatus 29 = .ok (.putfield 479, 3) := by decide +kernel
theorem dX12_tellStatus_32 : decode cX12_tellStatus 32 = .ok (.iload_n 1, 1) := by decide +kernel
theorem dX12_tellStatus_33 : decode cX12_tellStatus 33 = .ok (.ireturn, 1) := by decide +kernel
theorem dX12_laySingle_0 : decode cX12_laySingle 0 = .ok (.aload_n 0, 1) := by decide +kernel
theorem dX12_laySingle_1 : decode cX12_laySingle 1 = .ok (.getfield 229, 3) := by decide +kernel
theorem dX12_laySingle_4 : decode cX12_laySingle 4 = .ok (.istore 7, 2) := by decide +kernel
theorem dX12_laySingle_6 : decode cX12_laySingle 6 = .ok (.aload_n 0, 1) := by decide +kernel
theorem dX12_laySingle_7 : decode cX12_laySingle 7 = .ok (.getfield 229, 3) := by decide +kernel
theorem dX12_laySingle_10 : decode cX12_laySingle 10 = .ok (.istore 8, 2) := by decide +kernel
theorem dX12_laySingle_12 : decode cX12_laySingle 12 = .ok (.aload_n 0, 1) := by decide +kernel
theorem dX12_laySingle_13 : decode cX12_laySingle 13 = .ok (.aload_n 0, 1) := by decide +kernel
theorem dX12_laySingle_14 : decode cX12_laySingle 14 = .ok (.getfield 7, 3) := by decide +kernel
theorem dX12_laySingle_17 : decode cX12_laySingle 17 = .ok (.aload_n 0, 1) := by decide +kernel
theorem dX12_laySingle_18 : decode cX12_laySingle 18 = .ok (.getfield 72, 3) := by decide +kernel
theorem dX12_laySingle_21 : decode cX12_laySingle 21 = .ok (.iload_n 1, 1) := by decide +kernel
theorem dX12_laySingle_22 : decode cX12_laySingle 22 = .ok (.iaload, 1) := by decide +kernel
theorem dX12_laySingle_23 : decode cX12_laySingle 23 = .ok (.aload_n 0, 1) := by decide +kernel
theorem dX12_laySingle_24 : decode cX12_laySingle 24 = .ok (.getfield 72, 3) := by decide +kernel
theorem dX12_laySingle_27 : decode cX12_laySingle 27 = .ok (.iload_n 1, 1) := by decide +kernel
theorem dX12_laySingle_28 : decode cX12_laySingle 28 = .ok (.iaload, 1) := by decide +kernel
theorem dX12_laySingle_29 : decode cX12_laySingle 29 = .ok (.bipush 8, 2) := by decide +kernel
theorem dX12_laySingle_31 : decode cX12_laySingle 31 = .ok (.iadd, 1) := by decide +kernel
theorem dX12_laySingle_32 : decode cX12_laySingle 32 = .ok (.invokevirtual 448, 3) := by decide +kernel
theorem dX12_laySingle_35 : decode cX12_laySingle 35 = .ok (.aload_n 0, 1) := by decide +kernel
theorem dX12_laySingle_36 : decode cX12_laySingle 36 = .ok (.iload 8, 2) := by decide +kernel
theorem dX12_laySingle_38 : decode cX12_laySingle 38 = .ok (.iconst 4, 1) := by decide +kernel
theorem dX12_laySingle_39 : decode cX12_laySingle 39 = .ok (.invokevirtual 235, 3) := by decide +kernel
theorem dX12_laySingle_42 : decode cX12_laySingle 42 = .ok (.aload_n 0, 1) := by decide +kernel
theorem dX12_laySingle_43 : decode cX12_laySingle 43 = .ok (.getfield 229, 3) := by decide +kernel
theorem dX12_laySingle_46 : decode cX12_laySingle 46 = .ok (.istore 8, 2) := by decide +kernel
theorem dX12_laySingle_48 : decode cX12_laySingle 48 = .ok (.aload_n 0, 1) := by decide +kernel
theorem dX12_laySingle_49 : decode cX12_laySingle 49 = .ok (.aload_n 0, 1) := by decide +kernel
theorem dX12_laySingle_50 : decode cX12_laySingle 50 = .ok (.getfield 7, 3) := by decide +kernel
theorem dX12_laySingle_53 : decode cX12_laySingle 53 = .ok (.aload_n 0, 1) := by decide +kernel
theorem dX12_laySingle_54 : decode cX12_laySingle 54 = .ok (.getfield 75, 3) := by decide +kernel
theorem dX12_laySingle_57 : decode cX12_laySingle 57 = .ok (.iload_n 1, 1) := by decide +kernel
theorem dX12_laySingle_58 : decode cX12_laySingle 58 = .ok (.iaload, 1) := by decide +kernel
theorem dX12_laySingle_59 : decode cX12_laySingle 59 = .ok (.aload_n 0, 1) := by decide +kernel
theorem dX12_laySingle_60 : decode cX12_laySingle 60 = .ok (.getfield 75, 3) := by decide +kernel
theorem dX12_laySingle_63 : decode cX12_laySingle 63 = .ok (.iload_n 1, 1) := by decide +kernel
theorem dX12_laySingle_64 : decode cX12_laySingle 64 = .ok (.iaload, 1) := by decide +kernel
theorem dX12_laySingle_65 : decode cX12_laySingle 65 = .ok (.bipush 8, 2) := by decide +kernel
theorem dX12_laySingle_67 : decode cX12_laySingle 67 = .ok (.iadd, 1) := by decide +kernel
theorem dX12_laySingle_68 : decode cX12_laySingle 68 = .ok (.invokevirtual 448, 3) := by decide +kernel
theorem dX12_laySingle_71 : decode cX12_laySingle 71 = .ok (.aload_n 0, 1) := by decide +kernel
theorem dX12_laySingle_72 : decode cX12_laySingle 72 = .ok (.iload 8, 2) := by decide +kernel
theorem dX12_laySingle_74 : decode cX12_laySingle 74 = .ok (.iconst 4, 1) := by decide +kernel
theorem dX12_laySingle_75 : decode cX12_laySingle 75 = .ok (.invokevirtual 235, 3) := by decide +kernel
theorem dX12_laySingle_78 : decode cX12_laySingle 78 = .ok (.aload_n 0, 1) := by decide +kernel
theorem dX12_laySingle_79 : decode cX12_laySingle 79 = .ok (.aload_n 0, 1) := by decide +kernel
theorem dX12_laySingle_80 : decode cX12_laySingle 80 = .ok (.getfield 78, 3) := by decide +kernel
theorem dX12_laySingle_83 : decode cX12_laySingle 83 = .ok (.iload_n 1, 1) := by decide +kernel
theorem dX12_laySingle_84 : decode cX12_laySingle 84 = .ok (.laload, 1) := by decide +kernel
theorem dX12_laySingle_85 : decode cX12_laySingle 85 = .ok (.invokevirtual 253, 3) := by decide +kernel
theorem dX12_laySingle_88 : decode cX12_laySingle 88 = .ok (.aload_n 0, 1) := by decide +kernel
theorem dX12_laySingle_89 : decode cX12_laySingle 89 = .ok (.iload 7, 2) := by decide +kernel
theorem dX12_laySingle_91 : decode cX12_laySingle 91 = .ok (.bipush 48, 2) := by decide +kernel
theorem dX12_laySingle_93 : decode cX12_laySingle 93 = .ok (.invokevirtual 235, 3) := by decide +kernel
theorem dX12_laySingle_96 : decode cX12_laySingle 96 = .ok (.aload_n 0, 1) := by decide +kernel
theorem dX12_laySingle_97 : decode cX12_laySingle 97 = .ok (.iload_n 1, 1) := by decide +kernel
theorem dX12_laySingle_98 : decode cX12_laySingle 98 = .ok (.iload_n 2, 1) := by decide +kernel
theorem dX12_laySingle_99 : decode cX12_laySingle 99 = .ok (.invokevirtual 482, 3) := by decide +kernel
theorem dX12_laySingle_102 : decode cX12_laySingle 102 = .ok (.ifCond .eq 17, 3) := by decide +kernel
theorem dX12_laySingle_105 : decode cX12_laySingle 105 = .ok (.aload_n 0, 1) := by decide +kernel
theorem dX12_laySingle_106 : decode cX12_laySingle 106 = .ok (.iload_n 2, 1) := by decide +kernel
theorem dX12_laySingle_107 : decode cX12_laySingle 107 = .ok (.aload_n 0, 1) := by decide +kernel
theorem dX12_laySingle_108 : decode cX12_laySingle 108 = .ok (.getfield 78, 3) := by decide +kernel
theorem dX12_laySingle_111 : decode cX12_laySingle 111 = .ok (.iload_n 1, 1) := by decide +kernel
theorem dX12_laySingle_112 : decode cX12_laySingle 112 = .ok (.laload, 1) := by decide +kernel
theorem dX12_laySingle_113 : decode cX12_laySingle 113 = .ok (.invokevirtual 439, 3) := by decide +kernel
theorem dX12_laySingle_116 : decode cX12_laySingle 116 = .ok (.goto 4, 3) := by decide +kernel
theorem dX12_laySingle_119 : decode cX12_laySingle 119 = .ok (.iconst (-1), 1) := by decide +kernel
theorem dX12_laySingle_120 : decode cX12_laySingle 120 = .ok (.istore 9, 2) := by decide +kernel
theorem dX12_laySingle_122 : decode cX12_laySingle 122 = .ok (.aload_n 0, 1) := by decide +kernel
theorem dX12_laySingle_123 : decode cX12_laySingle 123 = .ok (.getfield 229, 3) := by decide +kernel
theorem dX12_laySingle_126 : decode cX12_laySingle 126 = .ok (.istore 8, 2) := by decide +kernel
theorem dX12_laySingle_128 : decode cX12_laySingle 128 = .ok (.iload 9, 2) := by decide +kernel
theorem dX12_laySingle_130 : decode cX12_laySingle 130 = .ok (.iconst (-1), 1) := by decide +kernel
theorem dX12_laySingle_131 : decode cX12_laySingle 131 = .ok (.if_icmp .ne 15, 3) := by decide +kernel
theorem dX12_laySingle_134 : decode cX12_laySingle 134 = .ok (.aload_n 0, 1) := by decide +kernel
theorem dX12_laySingle_135 : decode cX12_laySingle 135 = .ok (.iload 8, 2) := by decide +kernel
theorem dX12_laySingle_137 : decode cX12_laySingle 137 = .ok (.sipush 130, 3) := by decide +kernel
theorem dX12_laySingle_140 : decode cX12_laySingle 140 = .ok (.invokevirtual 235, 3) := by decide +kernel
theorem dX12_laySingle_143 : decode cX12_laySingle 143 = .ok (.goto 72, 3) := by decide +kernel
theorem dX12_laySingle_146 : decode cX12_laySingle 146 = .ok (.aload_n 0, 1) := by decide +kernel
theorem dX12_laySingle_147 : decode cX12_laySingle 147 = .ok (.getfield 36, 3) := by decide +kernel
theorem dX12_laySingle_150 : decode cX12_laySingle 150 = .ok (.iload 9, 2) := by decide +kernel
theorem dX12_laySingle_152 : decode cX12_laySingle 152 = .ok (.laload, 1) := by decide +kernel
theorem dX12_laySingle_153 : decode cX12_laySingle 153 = .ok (.ldc2_w 213, 3) := by decide +kernel
theorem dX12_laySingle_156 : decode cX12_laySingle 156 = .ok (.lcmp, 1) := by decide +kernel
theorem dX12_laySingle_157 : decode cX12_laySingle 157 = .ok (.ifCond .eq 49, 3) := by decide +kernel
theorem dX12_laySingle_160 : decode cX12_laySingle 160 = .ok (.aload_n 0, 1) := by decide +kernel
theorem dX12_laySingle_161 : decode cX12_laySingle 161 = .ok (.getfield 36, 3) := by decide +kernel
theorem dX12_laySingle_164 : decode cX12_laySingle 164 = .ok (.iload 9, 2) := by decide +kernel
theorem dX12_laySingle_166 : decode cX12_laySingle 166 = .ok (.laload, 1) := by decide +kernel
theorem dX12_laySingle_167 : decode cX12_laySingle 167 = .ok (.lload_n 3, 1) := by decide +kernel
theorem dX12_laySingle_168 : decode cX12_laySingle 168 = .ok (.lcmp, 1) := by decide +kernel
theorem dX12_laySingle_169 : decode cX12_laySingle 169 = .ok (.ifCond .gt 37, 3) := by decide +kernel
theorem dX12_laySingle_172 : decode cX12_laySingle 172 = .ok (.aload_n 0, 1) := by decide +kernel
theorem dX12_laySingle_173 : decode cX12_laySingle 173 = .ok (.aload_n 0, 1) := by decide +kernel
theorem dX12_laySingle_174 : decode cX12_laySingle 174 = .ok (.getfield 36, 3) := by decide +kernel
theorem dX12_laySingle_177 : decode cX12_laySingle 177 = .ok (.iload 9, 2) := by decide +kernel
theorem dX12_laySingle_179 : decode cX12_laySingle 179 = .ok (.laload, 1) := by decide +kernel
theorem dX12_laySingle_180 : decode cX12_laySingle 180 = .ok (.invokevirtual 451, 3) := by decide +kernel
theorem dX12_laySingle_183 : decode cX12_laySingle 183 = .ok (.aload_n 0, 1) := by decide +kernel
theorem dX12_laySingle_184 : decode cX12_laySingle 184 = .ok (.aload_n 0, 1) := by decide +kernel
theorem dX12_laySingle_185 : decode cX12_laySingle 185 = .ok (.getfield 39, 3) := by decide +kernel
theorem dX12_laySingle_188 : decode cX12_laySingle 188 = .ok (.iload 9, 2) := by decide +kernel
theorem dX12_laySingle_190 : decode cX12_laySingle 190 = .ok (.iaload, 1) := by decide +kernel
theorem dX12_laySingle_191 : decode cX12_laySingle 191 = .ok (.invokevirtual 476, 3) := by decide +kernel
theorem dX12_laySingle_194 : decode cX12_laySingle 194 = .ok (.aload_n 0, 1) := by decide +kernel
theorem dX12_laySingle_195 : decode cX12_laySingle 195 = .ok (.iload 8, 2) := by decide +kernel
theorem dX12_laySingle_197 : decode cX12_laySingle 197 = .ok (.sipush 161, 3) := by decide +kernel
theorem dX12_laySingle_200 : decode cX12_laySingle 200 = .ok (.invokevirtual 235, 3) := by decide +kernel
theorem dX12_laySingle_203 : decode cX12_laySingle 203 = .ok (.goto 12, 3) := by decide +kernel
theorem dX12_laySingle_206 : decode cX12_laySingle 206 = .ok (.aload_n 0, 1) := by decide +kernel
theorem dX12_laySingle_207 : decode cX12_laySingle 207 = .ok (.iload 8, 2) := by decide +kernel
theorem dX12_laySingle_209 : decode cX12_laySingle 209 = .ok (.sipush 128, 3) := by decide +kernel
theorem dX12_laySingle_212 : decode cX12_laySingle 212 = .ok (.invokevirtual 235, 3) := by decide +kernel
theorem dX12_laySingle_215 : decode cX12_laySingle 215 = .ok (.aload_n 0, 1) := by decide +kernel
theorem dX12_laySingle_216 : decode cX12_laySingle 216 = .ok (.lload_n 3, 1) := by decide +kernel
theorem dX12_laySingle_217 : decode cX12_laySingle 217 = .ok (.invokevirtual 451, 3) := by decide +kernel
theorem dX12_laySingle_220 : decode cX12_laySingle 220 = .ok (.lload 5, 2) := by decide +kernel
theorem dX12_laySingle_222 : decode cX12_laySingle 222 = .ok (.lconst 0, 1) := by decide +kernel
theorem dX12_laySingle_223 : decode cX12_laySingle 223 = .ok (.lcmp, 1) := by decide +kernel
theorem dX12_laySingle_224 : decode cX12_laySingle 224 = .ok (.ifCond .le 26, 3) := by decide +kernel
theorem dX12_laySingle_227 : decode cX12_laySingle 227 = .ok (.aload_n 0, 1) := by decide +kernel
theorem dX12_laySingle_228 : decode cX12_laySingle 228 = .ok (.getfield 229, 3) := by decide +kernel
theorem dX12_laySingle_231 : decode cX12_laySingle 231 = .ok (.istore 8, 2) := by decide +kernel
theorem dX12_laySingle_233 : decode cX12_laySingle 233 = .ok (.aload_n 0, 1) := by decide +kernel
theorem dX12_laySingle_234 : decode cX12_laySingle 234 = .ok (.lload_n 3, 1) := by decide +kernel
theorem dX12_laySingle_235 : decode cX12_laySingle 235 = .ok (.lload 5, 2) := by decide +kernel
theorem dX12_laySingle_237 : decode cX12_laySingle 237 = .ok (.ladd, 1) := by decide +kernel
theorem dX12_laySingle_238 : decode cX12_laySingle 238 = .ok (.invokevirtual 451, 3) := by decide +kernel
theorem dX12_laySingle_241 : decode cX12_laySingle 241 = .ok (.aload_n 0, 1) := by decide +kernel
theorem dX12_laySingle_242 : decode cX12_laySingle 242 = .ok (.iload 8, 2) := by decide +kernel
theorem dX12_laySingle_244 : decode cX12_laySingle 244 = .ok (.sipush 160, 3) := by decide +kernel
theorem dX12_laySingle_247 : decode cX12_laySingle 247 = .ok (.invokevirtual 235, 3) := by decide +kernel
theorem dX12_laySingle_250 : decode cX12_laySingle 250 = .ok (.aload_n 0, 1) := by decide +kernel
theorem dX12_laySingle_251 : decode cX12_laySingle 251 = .ok (.iload 7, 2) := by decide +kernel
theorem dX12_laySingle_253 : decode cX12_laySingle 253 = .ok (.bipush 48, 2) := by decide +kernel
theorem dX12_laySingle_255 : decode cX12_laySingle 255 = .ok (.invokevirtual 235, 3) := by decide +kernel
theorem dX12_laySingle_258 : decode cX12_laySingle 258 = .ok (.return_, 1) := by decide +kernel
theorem dX12_answer_0 : decode cX12_answer 0 = .ok (.aload_n 0, 1) := by decide +kernel
theorem dX12_answer_1 : decode cX12_answer 1 = .ok (.getfield 121, 3) := by decide +kernel
theorem dX12_answer_4 : decode cX12_answer 4 = .ok (.istore 6, 2) := by decide +kernel
theorem dX12_answer_6 : decode cX12_answer 6 = .ok (.iload_n 1, 1) := by decide +kernel
theorem dX12_answer_7 : decode cX12_answer 7 = .ok (.iconst 4, 1) := by decide +kernel
theorem dX12_answer_8 : decode cX12_answer 8 = .ok (.if_icmp .lt 7, 3) := by decide +kernel
theorem dX12_answer_11 : decode cX12_answer 11 = .ok (.iconst 1, 1) := by decide +kernel
theorem dX12_answer_12 : decode cX12_answer 12 = .ok (.goto 4, 3) := by decide +kernel
theorem dX12_answer_15 : decode cX12_answer 15 = .ok (.iconst 0, 1) := by decide +kernel
theorem dX12_answer_16 : decode cX12_answer 16 = .ok (.istore 7, 2) := by decide +kernel
theorem dX12_answer_18 : decode cX12_answer 18 = .ok (.iload 7, 2) := by decide +kernel
theorem dX12_answer_20 : decode cX12_answer 20 = .ok (.ifCond .eq 21, 3) := by decide +kernel
theorem dX12_answer_23 : decode cX12_answer 23 = .ok (.iload_n 1, 1) := by decide +kernel
theorem dX12_answer_24 : decode cX12_answer 24 = .ok (.i2l, 1) := by decide +kernel
theorem dX12_answer_25 : decode cX12_answer 25 = .ok (.ldc2_w 173, 3) := by decide +kernel
theorem dX12_answer_28 : decode cX12_answer 28 = .ok (.iconst 3, 1) := by decide +kernel
theorem dX12_answer_29 : decode cX12_answer 29 = .ok (.aload_n 0, 1) := by decide +kernel
theorem dX12_answer_30 : decode cX12_answer 30 = .ok (.getfield 445, 3) := by decide +kernel
theorem dX12_answer_33 : decode cX12_answer 33 = .ok (.iadd, 1) := by decide +kernel
theorem dX12_answer_34 : decode cX12_answer 34 = .ok (.i2l, 1) := by decide +kernel
theorem dX12_answer_35 : decode cX12_answer 35 = .ok (.invokestatic 117, 3) := by decide +kernel
theorem dX12_answer_38 : decode cX12_answer 38 = .ok (.goto 8, 3) := by decide +kernel
theorem dX12_answer_41 : decode cX12_answer 41 = .ok (.aload_n 0, 1) := by decide +kernel
theorem dX12_answer_42 : decode cX12_answer 42 = .ok (.iload_n 1, 1) := by decide +kernel
theorem dX12_answer_43 : decode cX12_answer 43 = .ok (.invokevirtual 436, 3) := by decide +kernel
theorem dX12_answer_46 : decode cX12_answer 46 = .ok (.istore 8, 2) := by decide +kernel
theorem dX12_answer_48 : decode cX12_answer 48 = .ok (.iload 8, 2) := by decide +kernel
theorem dX12_answer_50 : decode cX12_answer 50 = .ok (.ifCond .eq 28, 3) := by decide +kernel
theorem dX12_answer_53 : decode cX12_answer 53 = .ok (.lload_n 2, 1) := by decide +kernel
theorem dX12_answer_54 : decode cX12_answer 54 = .ok (.lconst 0, 1) := by decide +kernel
theorem dX12_answer_55 : decode cX12_answer 55 = .ok (.ldc2_w 198, 3) := by decide +kernel
theorem dX12_answer_58 : decode cX12_answer 58 = .ok (.invokestatic 117, 3) := by decide +kernel
theorem dX12_answer_61 : decode cX12_answer 61 = .ok (.ifCond .eq 17, 3) := by decide +kernel
theorem dX12_answer_64 : decode cX12_answer 64 = .ok (.lload 4, 2) := by decide +kernel
theorem dX12_answer_66 : decode cX12_answer 66 = .ok (.lconst 0, 1) := by decide +kernel
theorem dX12_answer_67 : decode cX12_answer 67 = .ok (.ldc2_w 198, 3) := by decide +kernel
theorem dX12_answer_70 : decode cX12_answer 70 = .ok (.lload_n 2, 1) := by decide +kernel
theorem dX12_answer_71 : decode cX12_answer 71 = .ok (.lsub, 1) := by decide +kernel
theorem dX12_answer_72 : decode cX12_answer 72 = .ok (.invokestatic 117, 3) := by decide +kernel
theorem dX12_answer_75 : decode cX12_answer 75 = .ok (.ifCond .ne 11, 3) := by decide +kernel
theorem dX12_answer_78 : decode cX12_answer 78 = .ok (.aload_n 0, 1) := by decide +kernel
theorem dX12_answer_79 : decode cX12_answer 79 = .ok (.iconst 0, 1) := by decide +kernel
theorem dX12_answer_80 : decode cX12_answer 80 = .ok (.putfield 121, 3) := by decide +kernel
theorem dX12_answer_83 : decode cX12_answer 83 = .ok (.bipush (-2), 2) := by decide +kernel
theorem dX12_answer_85 : decode cX12_answer 85 = .ok (.ireturn, 1) := by decide +kernel
theorem dX12_answer_86 : decode cX12_answer 86 = .ok (.aload_n 0, 1) := by decide +kernel
theorem dX12_answer_87 : decode cX12_answer 87 = .ok (.iconst 1, 1) := by decide +kernel
theorem dX12_answer_88 : decode cX12_answer 88 = .ok (.invokevirtual 424, 3) := by decide +kernel
theorem dX12_answer_91 : decode cX12_answer 91 = .ok (.istore 9, 2) := by decide +kernel
theorem dX12_answer_93 : decode cX12_answer 93 = .ok (.aload_n 0, 1) := by decide +kernel
theorem dX12_answer_94 : decode cX12_answer 94 = .ok (.iconst 0, 1) := by decide +kernel
theorem dX12_answer_95 : decode cX12_answer 95 = .ok (.putfield 121, 3) := by decide +kernel
theorem dX12_answer_98 : decode cX12_answer 98 = .ok (.iload 9, 2) := by decide +kernel
theorem dX12_answer_100 : decode cX12_answer 100 = .ok (.ifCond .ne 9, 3) := by decide +kernel
theorem dX12_answer_103 : decode cX12_answer 103 = .ok (.aload_n 0, 1) := by decide +kernel
theorem dX12_answer_104 : decode cX12_answer 104 = .ok (.iconst 1, 1) := by decide +kernel
theorem dX12_answer_105 : decode cX12_answer 105 = .ok (.invokevirtual 485, 3) := by decide +kernel
theorem dX12_answer_108 : decode cX12_answer 108 = .ok (.ireturn, 1) := by decide +kernel
theorem dX12_answer_109 : decode cX12_answer 109 = .ok (.iload 7, 2) := by decide +kernel
theorem dX12_answer_111 : decode cX12_answer 111 = .ok (.ifCond .eq 14, 3) := by decide +kernel
theorem dX12_answer_114 : decode cX12_answer 114 = .ok (.aload_n 0, 1) := by decide +kernel
theorem dX12_answer_115 : decode cX12_answer 115 = .ok (.getfield 42, 3) := by decide +kernel
theorem dX12_answer_118 : decode cX12_answer 118 = .ok (.iload_n 1, 1) := by decide +kernel
theorem dX12_answer_119 : decode cX12_answer 119 = .ok (.iconst 4, 1) := by decide +kernel
theorem dX12_answer_120 : decode cX12_answer 120 = .ok (.isub, 1) := by decide +kernel
theorem dX12_answer_121 : decode cX12_answer 121 = .ok (.iaload, 1) := by decide +kernel
theorem dX12_answer_122 : decode cX12_answer 122 = .ok (.goto 4, 3) := by decide +kernel
theorem dX12_answer_125 : decode cX12_answer 125 = .ok (.iload_n 1, 1) := by decide +kernel
theorem dX12_answer_126 : decode cX12_answer 126 = .ok (.istore 10, 2) := by decide +kernel
theorem dX12_answer_128 : decode cX12_answer 128 = .ok (.iconst 0, 1) := by decide +kernel
theorem dX12_answer_129 : decode cX12_answer 129 = .ok (.istore 11, 2) := by decide +kernel
theorem dX12_answer_131 : decode cX12_answer 131 = .ok (.iconst 0, 1) := by decide +kernel
theorem dX12_answer_132 : decode cX12_answer 132 = .ok (.istore 12, 2) := by decide +kernel
theorem dX12_answer_134 : decode cX12_answer 134 = .ok (.iload 12, 2) := by decide +kernel
theorem dX12_answer_136 : decode cX12_answer 136 = .ok (.aload_n 0, 1) := by decide +kernel
theorem dX12_answer_137 : decode cX12_answer 137 = .ok (.getfield 359, 3) := by decide +kernel
theorem dX12_answer_140 : decode cX12_answer 140 = .ok (.if_icmp .ge 32, 3) := by decide +kernel
theorem dX12_answer_143 : decode cX12_answer 143 = .ok (.iload 11, 2) := by decide +kernel
theorem dX12_answer_145 : decode cX12_answer 145 = .ok (.ifCond .ne 14, 3) := by decide +kernel
theorem dX12_answer_148 : decode cX12_answer 148 = .ok (.aload_n 0, 1) := by decide +kernel
theorem dX12_answer_149 : decode cX12_answer 149 = .ok (.iload 12, 2) := by decide +kernel
theorem dX12_answer_151 : decode cX12_answer 151 = .ok (.iload 10, 2) := by decide +kernel
theorem dX12_answer_153 : decode cX12_answer 153 = .ok (.invokevirtual 482, 3) := by decide +kernel
theorem dX12_answer_156 : decode cX12_answer 156 = .ok (.ifCond .eq 7, 3) := by decide +kernel
theorem dX12_answer_159 : decode cX12_answer 159 = .ok (.iconst 1, 1) := by decide +kernel
theorem dX12_answer_160 : decode cX12_answer 160 = .ok (.goto 4, 3) := by decide +kernel
theorem dX12_answer_163 : decode cX12_answer 163 = .ok (.iconst 0, 1) := by decide +kernel
theorem dX12_answer_164 : decode cX12_answer 164 = .ok (.istore 11, 2) := by decide +kernel
theorem dX12_answer_166 : decode cX12_answer 166 = .ok (.iinc 12 1, 3) := by decide +kernel
theorem dX12_answer_169 : decode cX12_answer 169 = .ok (.goto (-35), 3) := by decide +kernel
theorem dX12_answer_172 : decode cX12_answer 172 = .ok (.iload 11, 2) := by decide +kernel
theorem dX12_answer_174 : decode cX12_answer 174 = .ok (.ifCond .ne 10, 3) := by decide +kernel
theorem dX12_answer_177 : decode cX12_answer 177 = .ok (.aload_n 0, 1) := by decide +kernel
theorem dX12_answer_178 : decode cX12_answer 178 = .ok (.bipush 6, 2) := by decide +kernel
theorem dX12_answer_180 : decode cX12_answer 180 = .ok (.invokevirtual 485, 3) := by decide +kernel
theorem dX12_answer_183 : decode cX12_answer 183 = .ok (.ireturn, 1) := by decide +kernel
theorem dX12_answer_184 : decode cX12_answer 184 = .ok (.aload_n 0, 1) := by decide +kernel
theorem dX12_answer_185 : decode cX12_answer 185 = .ok (.iconst 0, 1) := by decide +kernel
theorem dX12_answer_186 : decode cX12_answer 186 = .ok (.putfield 229, 3) := by decide +kernel
theorem dX12_answer_189 : decode cX12_answer 189 = .ok (.iload 7, 2) := by decide +kernel
theorem dX12_answer_191 : decode cX12_answer 191 = .ok (.ifCond .eq 30, 3) := by decide +kernel
theorem dX12_answer_194 : decode cX12_answer 194 = .ok (.aload_n 0, 1) := by decide +kernel
theorem dX12_answer_195 : decode cX12_answer 195 = .ok (.aload_n 0, 1) := by decide +kernel
theorem dX12_answer_196 : decode cX12_answer 196 = .ok (.aload_n 0, 1) := by decide +kernel
theorem dX12_answer_197 : decode cX12_answer 197 = .ok (.getfield 48, 3) := by decide +kernel
theorem dX12_answer_200 : decode cX12_answer 200 = .ok (.iload_n 1, 1) := by decide +kernel
theorem dX12_answer_201 : decode cX12_answer 201 = .ok (.iconst 4, 1) := by decide +kernel
theorem dX12_answer_202 : decode cX12_answer 202 = .ok (.isub, 1) := by decide +kernel
theorem dX12_answer_203 : decode cX12_answer 203 = .ok (.laload, 1) := by decide +kernel
theorem dX12_answer_204 : decode cX12_answer 204 = .ok (.invokevirtual 249, 3) := by decide +kernel
theorem dX12_answer_207 : decode cX12_answer 207 = .ok (.invokevirtual 246, 3) := by decide +kernel
theorem dX12_answer_210 : decode cX12_answer 210 = .ok (.aload_n 0, 1) := by decide +kernel
theorem dX12_answer_211 : decode cX12_answer 211 = .ok (.iconst 0, 1) := by decide +kernel
theorem dX12_answer_212 : decode cX12_answer 212 = .ok (.sipush 162, 3) := by decide +kernel
theorem dX12_answer_215 : decode cX12_answer 215 = .ok (.invokevirtual 235, 3) := by decide +kernel
theorem dX12_answer_218 : decode cX12_answer 218 = .ok (.goto 43, 3) := by decide +kernel
theorem dX12_answer_221 : decode cX12_answer 221 = .ok (.aload_n 0, 1) := by decide +kernel
theorem dX12_answer_222 : decode cX12_answer 222 = .ok (.aload_n 0, 1) := by decide +kernel
theorem dX12_answer_223 : decode cX12_answer 223 = .ok (.getfield 16, 3) := by decide +kernel
theorem dX12_answer_226 : decode cX12_answer 226 = .ok (.bipush 16, 2) := by decide +kernel
theorem dX12_answer_228 : decode cX12_answer 228 = .ok (.iload 10, 2) := by decide +kernel
theorem dX12_answer_230 : decode cX12_answer 230 = .ok (.imul, 1) := by decide +kernel
theorem dX12_answer_231 : decode cX12_answer 231 = .ok (.bipush 16, 2) := by decide +kernel
theorem dX12_answer_233 : decode cX12_answer 233 = .ok (.iload 10, 2) := by decide +kernel
theorem dX12_answer_235 : decode cX12_answer 235 = .ok (.imul, 1) := by decide +kernel
theorem dX12_answer_236 : decode cX12_answer 236 = .ok (.aload_n 0, 1) := by decide +kernel
theorem dX12_answer_237 : decode cX12_answer 237 = .ok (.getfield 19, 3) := by decide +kernel
theorem dX12_answer_240 : decode cX12_answer 240 = .ok (.iload 10, 2) := by decide +kernel
theorem dX12_answer_242 : decode cX12_answer 242 = .ok (.iaload, 1) := by decide +kernel
theorem dX12_answer_243 : decode cX12_answer 243 = .ok (.iadd, 1) := by decide +kernel
theorem dX12_answer_244 : decode cX12_answer 244 = .ok (.invokevirtual 448, 3) := by decide +kernel
theorem dX12_answer_247 : decode cX12_answer 247 = .ok (.aload_n 0, 1) := by decide +kernel
theorem dX12_answer_248 : decode cX12_answer 248 = .ok (.iconst 0, 1) := by decide +kernel
theorem dX12_answer_249 : decode cX12_answer 249 = .ok (.iconst 4, 1) := by decide +kernel
theorem dX12_answer_250 : decode cX12_answer 250 = .ok (.invokevirtual 235, 3) := by decide +kernel
theorem dX12_answer_253 : decode cX12_answer 253 = .ok (.aload_n 0, 1) := by decide +kernel
theorem dX12_answer_254 : decode cX12_answer 254 = .ok (.iconst 0, 1) := by decide +kernel
theorem dX12_answer_255 : decode cX12_answer 255 = .ok (.sipush 161, 3) := by decide +kernel
theorem dX12_answer_258 : decode cX12_answer 258 = .ok (.invokevirtual 235, 3) := by decide +kernel
theorem dX12_answer_261 : decode cX12_answer 261 = .ok (.aload_n 0, 1) := by decide +kernel
theorem dX12_answer_262 : decode cX12_answer 262 = .ok (.lload_n 2, 1) := by decide +kernel
theorem dX12_answer_263 : decode cX12_answer 263 = .ok (.invokevirtual 451, 3) := by decide +kernel
theorem dX12_answer_266 : decode cX12_answer 266 = .ok (.aload_n 0, 1) := by decide +kernel
theorem dX12_answer_267 : decode cX12_answer 267 = .ok (.getfield 229, 3) := by decide +kernel
theorem dX12_answer_270 : decode cX12_answer 270 = .ok (.istore 12, 2) := by decide +kernel
theorem dX12_answer_272 : decode cX12_answer 272 = .ok (.iconst 0, 1) := by decide +kernel
theorem dX12_answer_273 : decode cX12_answer 273 = .ok (.istore 13, 2) := by decide +kernel
theorem dX12_answer_275 : decode cX12_answer 275 = .ok (.iload 13, 2) := by decide +kernel
theorem dX12_answer_277 : decode cX12_answer 277 = .ok (.aload_n 0, 1) := by decide +kernel
theorem dX12_answer_278 : decode cX12_answer 278 = .ok (.getfield 359, 3) := by decide +kernel
theorem dX12_answer_281 : decode cX12_answer 281 = .ok (.if_icmp .ge 20, 3) := by decide +kernel
theorem dX12_answer_284 : decode cX12_answer 284 = .ok (.aload_n 0, 1) := by decide +kernel
theorem dX12_answer_285 : decode cX12_answer 285 = .ok (.iload 13, 2) := by decide +kernel
theorem dX12_answer_287 : decode cX12_answer 287 = .ok (.iload 10, 2) := by decide +kernel
theorem dX12_answer_289 : decode cX12_answer 289 = .ok (.lload_n 2, 1) := by decide +kernel
theorem dX12_answer_290 : decode cX12_answer 290 = .ok (.lload 4, 2) := by decide +kernel
theorem dX12_answer_292 : decode cX12_answer 292 = .ok (.invokevirtual 488, 3) := by decide +kernel
theorem dX12_answer_295 : decode cX12_answer 295 = .ok (.iinc 13 1, 3) := by decide +kernel
theorem dX12_answer_298 : decode cX12_answer 298 = .ok (.goto (-23), 3) := by decide +kernel
theorem dX12_answer_301 : decode cX12_answer 301 = .ok (.aload_n 0, 1) := by decide +kernel
theorem dX12_answer_302 : decode cX12_answer 302 = .ok (.iload 12, 2) := by decide +kernel
theorem dX12_answer_304 : decode cX12_answer 304 = .ok (.bipush 48, 2) := by decide +kernel
theorem dX12_answer_306 : decode cX12_answer 306 = .ok (.invokevirtual 235, 3) := by decide +kernel
theorem dX12_answer_309 : decode cX12_answer 309 = .ok (.aload_n 0, 1) := by decide +kernel
theorem dX12_answer_310 : decode cX12_answer 310 = .ok (.getfield 365, 3) := by decide +kernel
theorem dX12_answer_313 : decode cX12_answer 313 = .ok (.ifCond .le 41, 3) := by decide +kernel
theorem dX12_answer_316 : decode cX12_answer 316 = .ok (.aload_n 0, 1) := by decide +kernel
theorem dX12_answer_317 : decode cX12_answer 317 = .ok (.getfield 229, 3) := by decide +kernel
theorem dX12_answer_320 : decode cX12_answer 320 = .ok (.istore 12, 2) := by decide +kernel
theorem dX12_answer_322 : decode cX12_answer 322 = .ok (.aload_n 0, 1) := by decide +kernel
theorem dX12_answer_323 : decode cX12_answer 323 = .ok (.aload_n 0, 1) := by decide +kernel
theorem dX12_answer_324 : decode cX12_answer 324 = .ok (.getfield 7, 3) := by decide +kernel
theorem dX12_answer_327 : decode cX12_answer 327 = .ok (.aload_n 0, 1) := by decide +kernel
theorem dX12_answer_328 : decode cX12_answer 328 = .ok (.getfield 362, 3) := by decide +kernel
theorem dX12_answer_331 : decode cX12_answer 331 = .ok (.aload_n 0, 1) := by decide +kernel
theorem dX12_answer_332 : decode cX12_answer 332 = .ok (.getfield 365, 3) := by decide +kernel
theorem dX12_answer_335 : decode cX12_answer 335 = .ok (.invokevirtual 448, 3) := by decide +kernel
theorem dX12_answer_338 : decode cX12_answer 338 = .ok (.aload_n 0, 1) := by decide +kernel
theorem dX12_answer_339 : decode cX12_answer 339 = .ok (.iload 12, 2) := by decide +kernel
theorem dX12_answer_341 : decode cX12_answer 341 = .ok (.iconst 4, 1) := by decide +kernel
theorem dX12_answer_342 : decode cX12_answer 342 = .ok (.invokevirtual 235, 3) := by decide +kernel
theorem dX12_answer_345 : decode cX12_answer 345 = .ok (.aload_n 0, 1) := by decide +kernel
theorem dX12_answer_346 : decode cX12_answer 346 = .ok (.iload 12, 2) := by decide +kernel
theorem dX12_answer_348 : decode cX12_answer 348 = .ok (.sipush 163, 3) := by decide +kernel
theorem dX12_answer_351 : decode cX12_answer 351 = .ok (.invokevirtual 235, 3) := by decide +kernel
theorem dX12_answer_354 : decode cX12_answer 354 = .ok (.aload_n 0, 1) := by decide +kernel
theorem dX12_answer_355 : decode cX12_answer 355 = .ok (.iconst 0, 1) := by decide +kernel
theorem dX12_answer_356 : decode cX12_answer 356 = .ok (.bipush 48, 2) := by decide +kernel
theorem dX12_answer_358 : decode cX12_answer 358 = .ok (.invokevirtual 235, 3) := by decide +kernel
theorem dX12_answer_361 : decode cX12_answer 361 = .ok (.aload_n 0, 1) := by decide +kernel
theorem dX12_answer_362 : decode cX12_answer 362 = .ok (.iload 7, 2) := by decide +kernel
theorem dX12_answer_364 : decode cX12_answer 364 = .ok (.ifCond .eq 14, 3) := by decide +kernel
theorem dX12_answer_367 : decode cX12_answer 367 = .ok (.aload_n 0, 1) := by decide +kernel
theorem dX12_answer_368 : decode cX12_answer 368 = .ok (.getfield 45, 3) := by decide +kernel
theorem dX12_answer_371 : decode cX12_answer 371 = .ok (.iload_n 1, 1) := by decide +kernel
theorem dX12_answer_372 : decode cX12_answer 372 = .ok (.iconst 4, 1) := by decide +kernel
theorem dX12_answer_373 : decode cX12_answer 373 = .ok (.isub, 1) := by decide +kernel
theorem dX12_answer_374 : decode cX12_answer 374 = .ok (.laload, 1) := by decide +kernel
theorem dX12_answer_375 : decode cX12_answer 375 = .ok (.goto 10, 3) := by decide +kernel
theorem dX12_answer_378 : decode cX12_answer 378 = .ok (.aload_n 0, 1) := by decide +kernel
theorem dX12_answer_379 : decode cX12_answer 379 = .ok (.getfield 23, 3) := by decide +kernel
theorem dX12_answer_382 : decode cX12_answer 382 = .ok (.iload 10, 2) := by decide +kernel
theorem dX12_answer_384 : decode cX12_answer 384 = .ok (.laload, 1) := by decide +kernel
theorem dX12_answer_385 : decode cX12_answer 385 = .ok (.iconst 0, 1) := by decide +kernel
theorem dX12_answer_386 : decode cX12_answer 386 = .ok (.aload_n 0, 1) := by decide +kernel
theorem dX12_answer_387 : decode cX12_answer 387 = .ok (.getfield 229, 3) := by decide +kernel
theorem dX12_answer_390 : decode cX12_answer 390 = .ok (.invokevirtual 454, 3) := by decide +kernel
theorem dX12_answer_393 : decode cX12_answer 393 = .ok (.iload 7, 2) := by decide +kernel
theorem dX12_answer_395 : decode cX12_answer 395 = .ok (.ifCond .eq 49, 3) := by decide +kernel
theorem dX12_answer_398 : decode cX12_answer 398 = .ok (.aload_n 0, 1) := by decide +kernel
theorem dX12_answer_399 : decode cX12_answer 399 = .ok (.getfield 229, 3) := by decide +kernel
theorem dX12_answer_402 : decode cX12_answer 402 = .ok (.istore 12, 2) := by decide +kernel
theorem dX12_answer_404 : decode cX12_answer 404 = .ok (.aload_n 0, 1) := by decide +kernel
theorem dX12_answer_405 : decode cX12_answer 405 = .ok (.aload_n 0, 1) := by decide +kernel
theorem dX12_answer_406 : decode cX12_answer 406 = .ok (.getfield 51, 3) := by decide +kernel
theorem dX12_answer_409 : decode cX12_answer 409 = .ok (.sipush 300, 3) := by decide +kernel
theorem dX12_answer_412 : decode cX12_answer 412 = .ok (.iload_n 1, 1) := by decide +kernel
theorem dX12_answer_413 : decode cX12_answer 413 = .ok (.iconst 4, 1) := by decide +kernel
theorem dX12_answer_414 : decode cX12_answer 414 = .ok (.isub, 1) := by decide +kernel
theorem dX12_answer_415 : decode cX12_answer 415 = .ok (.imul, 1) := by decide +kernel
theorem dX12_answer_416 : decode cX12_answer 416 = .ok (.sipush 300, 3) := by decide +kernel
theorem dX12_answer_419 : decode cX12_answer 419 = .ok (.iload_n 1, 1) := by decide +kernel
theorem dX12_answer_420 : decode cX12_answer 420 = .ok (.iconst 4, 1) := by decide +kernel
theorem dX12_answer_421 : decode cX12_answer 421 = .ok (.isub, 1) := by decide +kernel
theorem dX12_answer_422 : decode cX12_answer 422 = .ok (.imul, 1) := by decide +kernel
theorem dX12_answer_423 : decode cX12_answer 423 = .ok (.aload_n 0, 1) := by decide +kernel
theorem dX12_answer_424 : decode cX12_answer 424 = .ok (.getfield 54, 3) := by decide +kernel
theorem dX12_answer_427 : decode cX12_answer 427 = .ok (.iload_n 1, 1) := by decide +kernel
theorem dX12_answer_428 : decode cX12_answer 428 = .ok (.iconst 4, 1) := by decide +kernel
theorem dX12_answer_429 : decode cX12_answer 429 = .ok (.isub, 1) := by decide +kernel
theorem dX12_answer_430 : decode cX12_answer 430 = .ok (.iaload, 1) := by decide +kernel
theorem dX12_answer_431 : decode cX12_answer 431 = .ok (.iadd, 1) := by decide +kernel
theorem dX12_answer_432 : decode cX12_answer 432 = .ok (.invokevirtual 448, 3) := by decide +kernel
theorem dX12_answer_435 : decode cX12_answer 435 = .ok (.aload_n 0, 1) := by decide +kernel
theorem dX12_answer_436 : decode cX12_answer 436 = .ok (.iload 12, 2) := by decide +kernel
theorem dX12_answer_438 : decode cX12_answer 438 = .ok (.sipush 160, 3) := by decide +kernel
theorem dX12_answer_441 : decode cX12_answer 441 = .ok (.invokevirtual 235, 3) := by decide +kernel
theorem dX12_answer_444 : decode cX12_answer 444 = .ok (.aload_n 0, 1) := by decide +kernel
theorem dX12_answer_445 : decode cX12_answer 445 = .ok (.iconst 0, 1) := by decide +kernel
theorem dX12_answer_446 : decode cX12_answer 446 = .ok (.bipush 48, 2) := by decide +kernel
theorem dX12_answer_448 : decode cX12_answer 448 = .ok (.invokevirtual 235, 3) := by decide +kernel
theorem dX12_answer_451 : decode cX12_answer 451 = .ok (.aload_n 0, 1) := by decide +kernel
theorem dX12_answer_452 : decode cX12_answer 452 = .ok (.iconst 0, 1) := by decide +kernel
theorem dX12_answer_453 : decode cX12_answer 453 = .ok (.sipush 160, 3) := by decide +kernel
theorem dX12_answer_456 : decode cX12_answer 456 = .ok (.invokevirtual 235, 3) := by decide +kernel
theorem dX12_answer_459 : decode cX12_answer 459 = .ok (.aload_n 0, 1) := by decide +kernel
theorem dX12_answer_460 : decode cX12_answer 460 = .ok (.getfield 229, 3) := by decide +kernel
theorem dX12_answer_463 : decode cX12_answer 463 = .ok (.iconst 1, 1) := by decide +kernel
theorem dX12_answer_464 : decode cX12_answer 464 = .ok (.isub, 1) := by decide +kernel
theorem dX12_answer_465 : decode cX12_answer 465 = .ok (.istore 13, 2) := by decide +kernel
theorem dX12_answer_467 : decode cX12_answer 467 = .ok (.iload 13, 2) := by decide +kernel
theorem dX12_answer_469 : decode cX12_answer 469 = .ok (.ifCond .lt 25, 3) := by decide +kernel
theorem dX12_answer_472 : decode cX12_answer 472 = .ok (.aload_n 0, 1) := by decide +kernel
theorem dX12_answer_473 : decode cX12_answer 473 = .ok (.getfield 69, 3) := by decide +kernel
theorem dX12_answer_476 : decode cX12_answer 476 = .ok (.iload 13, 2) := by decide +kernel
theorem dX12_answer_478 : decode cX12_answer 478 = .ok (.iconst 3, 1) := by decide +kernel
theorem dX12_answer_479 : decode cX12_answer 479 = .ok (.iadd, 1) := by decide +kernel
theorem dX12_answer_480 : decode cX12_answer 480 = .ok (.aload_n 0, 1) := by decide +kernel
theorem dX12_answer_481 : decode cX12_answer 481 = .ok (.getfield 69, 3) := by decide +kernel
theorem dX12_answer_484 : decode cX12_answer 484 = .ok (.iload 13, 2) := by decide +kernel
theorem dX12_answer_486 : decode cX12_answer 486 = .ok (.baload, 1) := by decide +kernel
theorem dX12_answer_487 : decode cX12_answer 487 = .ok (.bastore, 1) := by decide +kernel
theorem dX12_answer_488 : decode cX12_answer 488 = .ok (.iinc 13 (-1), 3) := by decide +kernel
theorem dX12_answer_491 : decode cX12_answer 491 = .ok (.goto (-24), 3) := by decide +kernel
theorem dX12_answer_494 : decode cX12_answer 494 = .ok (.aload_n 0, 1) := by decide +kernel
theorem dX12_answer_495 : decode cX12_answer 495 = .ok (.getfield 69, 3) := by decide +kernel
theorem dX12_answer_498 : decode cX12_answer 498 = .ok (.iconst 0, 1) := by decide +kernel
theorem dX12_answer_499 : decode cX12_answer 499 = .ok (.bipush 10, 2) := by decide +kernel
theorem dX12_answer_501 : decode cX12_answer 501 = .ok (.bastore, 1) := by decide +kernel
theorem dX12_answer_502 : decode cX12_answer 502 = .ok (.aload_n 0, 1) := by decide +kernel
theorem dX12_answer_503 : decode cX12_answer 503 = .ok (.getfield 69, 3) := by decide +kernel
theorem dX12_answer_506 : decode cX12_answer 506 = .ok (.iconst 1, 1) := by decide +kernel
theorem dX12_answer_507 : decode cX12_answer 507 = .ok (.iconst 1, 1) := by decide +kernel
theorem dX12_answer_508 : decode cX12_answer 508 = .ok (.bastore, 1) := by decide +kernel
theorem dX12_answer_509 : decode cX12_answer 509 = .ok (.aload_n 0, 1) := by decide +kernel
theorem dX12_answer_510 : decode cX12_answer 510 = .ok (.getfield 69, 3) := by decide +kernel
theorem dX12_answer_513 : decode cX12_answer 513 = .ok (.iconst 2, 1) := by decide +kernel
theorem dX12_answer_514 : decode cX12_answer 514 = .ok (.iconst 0, 1) := by decide +kernel
theorem dX12_answer_515 : decode cX12_answer 515 = .ok (.bastore, 1) := by decide +kernel
theorem dX12_answer_516 : decode cX12_answer 516 = .ok (.aload_n 0, 1) := by decide +kernel
theorem dX12_answer_517 : decode cX12_answer 517 = .ok (.dup, 1) := by decide +kernel
theorem dX12_answer_518 : decode cX12_answer 518 = .ok (.getfield 229, 3) := by decide +kernel
theorem dX12_answer_521 : decode cX12_answer 521 = .ok (.iconst 3, 1) := by decide +kernel
theorem dX12_answer_522 : decode cX12_answer 522 = .ok (.iadd, 1) := by decide +kernel
theorem dX12_answer_523 : decode cX12_answer 523 = .ok (.putfield 229, 3) := by decide +kernel
theorem dX12_answer_526 : decode cX12_answer 526 = .ok (.aload_n 0, 1) := by decide +kernel
theorem dX12_answer_527 : decode cX12_answer 527 = .ok (.iconst 0, 1) := by decide +kernel
theorem dX12_answer_528 : decode cX12_answer 528 = .ok (.bipush 48, 2) := by decide +kernel
theorem dX12_answer_530 : decode cX12_answer 530 = .ok (.invokevirtual 235, 3) := by decide +kernel
theorem dX12_answer_533 : decode cX12_answer 533 = .ok (.aload_n 0, 1) := by decide +kernel
theorem dX12_answer_534 : decode cX12_answer 534 = .ok (.dup, 1) := by decide +kernel
theorem dX12_answer_535 : decode cX12_answer 535 = .ok (.getfield 492, 3) := by decide +kernel
theorem dX12_answer_538 : decode cX12_answer 538 = .ok (.iconst 1, 1) := by decide +kernel
theorem dX12_answer_539 : decode cX12_answer 539 = .ok (.iadd, 1) := by decide +kernel
theorem dX12_answer_540 : decode cX12_answer 540 = .ok (.putfield 492, 3) := by decide +kernel
theorem dX12_answer_543 : decode cX12_answer 543 = .ok (.aload_n 0, 1) := by decide +kernel
theorem dX12_answer_544 : decode cX12_answer 544 = .ok (.invokevirtual 458, 3) := by decide +kernel
theorem dX12_answer_547 : decode cX12_answer 547 = .ok (.istore 13, 2) := by decide +kernel
theorem dX12_answer_549 : decode cX12_answer 549 = .ok (.iconst 0, 1) := by decide +kernel
theorem dX12_answer_550 : decode cX12_answer 550 = .ok (.ireturn, 1) := by decide +kernel
theorem dX12_isToldBy_0 : decode cX12_isToldBy 0 = .ok (.aload_n 0, 1) := by decide +kernel
theorem dX12_isToldBy_1 : decode cX12_isToldBy 1 = .ok (.getfield 380, 3) := by decide +kernel
theorem dX12_isToldBy_4 : decode cX12_isToldBy 4 = .ok (.iconst 1, 1) := by decide +kernel
theorem dX12_isToldBy_5 : decode cX12_isToldBy 5 = .ok (.if_icmp .ne 24, 3) := by decide +kernel
theorem dX12_isToldBy_8 : decode cX12_isToldBy 8 = .ok (.aload_n 1, 1) := by decide +kernel
theorem dX12_isToldBy_9 : decode cX12_isToldBy 9 = .ok (.iload_n 2, 1) := by decide +kernel
theorem dX12_isToldBy_10 : decode cX12_isToldBy 10 = .ok (.iload_n 3, 1) := by decide +kernel
theorem dX12_isToldBy_11 : decode cX12_isToldBy 11 = .ok (.aload_n 0, 1) := by decide +kernel
theorem dX12_isToldBy_12 : decode cX12_isToldBy 12 = .ok (.getfield 7, 3) := by decide +kernel
theorem dX12_isToldBy_15 : decode cX12_isToldBy 15 = .ok (.aload_n 0, 1) := by decide +kernel
theorem dX12_isToldBy_16 : decode cX12_isToldBy 16 = .ok (.getfield 383, 3) := by decide +kernel
theorem dX12_isToldBy_19 : decode cX12_isToldBy 19 = .ok (.aload_n 0, 1) := by decide +kernel
theorem dX12_isToldBy_20 : decode cX12_isToldBy 20 = .ok (.getfield 386, 3) := by decide +kernel
theorem dX12_isToldBy_23 : decode cX12_isToldBy 23 = .ok (.invokestatic 432, 3) := by decide +kernel
theorem dX12_isToldBy_26 : decode cX12_isToldBy 26 = .ok (.goto 17, 3) := by decide +kernel
theorem dX12_isToldBy_29 : decode cX12_isToldBy 29 = .ok (.aload_n 0, 1) := by decide +kernel
theorem dX12_isToldBy_30 : decode cX12_isToldBy 30 = .ok (.aload_n 0, 1) := by decide +kernel
theorem dX12_isToldBy_31 : decode cX12_isToldBy 31 = .ok (.getfield 383, 3) := by decide +kernel
theorem dX12_isToldBy_34 : decode cX12_isToldBy 34 = .ok (.aload_n 0, 1) := by decide +kernel
theorem dX12_isToldBy_35 : decode cX12_isToldBy 35 = .ok (.lload 4, 2) := by decide +kernel
theorem dX12_isToldBy_37 : decode cX12_isToldBy 37 = .ok (.invokevirtual 249, 3) := by decide +kernel
theorem dX12_isToldBy_40 : decode cX12_isToldBy 40 = .ok (.invokevirtual 472, 3) := by decide +kernel
theorem dX12_isToldBy_43 : decode cX12_isToldBy 43 = .ok (.ireturn, 1) := by decide +kernel
theorem dX12_verdictOf_0 : decode cX12_verdictOf 0 = .ok (.aload_n 0, 1) := by decide +kernel
theorem dX12_verdictOf_1 : decode cX12_verdictOf 1 = .ok (.iconst 2, 1) := by decide +kernel
theorem dX12_verdictOf_2 : decode cX12_verdictOf 2 = .ok (.invokevirtual 424, 3) := by decide +kernel
theorem dX12_verdictOf_5 : decode cX12_verdictOf 5 = .ok (.ifCond .ne 6, 3) := by decide +kernel
theorem dX12_verdictOf_8 : decode cX12_verdictOf 8 = .ok (.bipush 21, 2) := by decide +kernel
theorem dX12_verdictOf_10 : decode cX12_verdictOf 10 = .ok (.ireturn, 1) := by decide +kernel
theorem dX12_verdictOf_11 : decode cX12_verdictOf 11 = .ok (.aload_n 0, 1) := by decide +kernel
theorem dX12_verdictOf_12 : decode cX12_verdictOf 12 = .ok (.getfield 405, 3) := by decide +kernel
theorem dX12_verdictOf_15 : decode cX12_verdictOf 15 = .ok (.ifCond .eq 6, 3) := by decide +kernel
theorem dX12_verdictOf_18 : decode cX12_verdictOf 18 = .ok (.bipush 22, 2) := by decide +kernel
theorem dX12_verdictOf_20 : decode cX12_verdictOf 20 = .ok (.ireturn, 1) := by decide +kernel
theorem dX12_verdictOf_21 : decode cX12_verdictOf 21 = .ok (.bipush 16, 2) := by decide +kernel
theorem dX12_verdictOf_23 : decode cX12_verdictOf 23 = .ok (.iload_n 1, 1) := by decide +kernel
theorem dX12_verdictOf_24 : decode cX12_verdictOf 24 = .ok (.imul, 1) := by decide +kernel
theorem dX12_verdictOf_25 : decode cX12_verdictOf 25 = .ok (.istore 7, 2) := by decide +kernel
theorem dX12_verdictOf_27 : decode cX12_verdictOf 27 = .ok (.iload 7, 2) := by decide +kernel
theorem dX12_verdictOf_29 : decode cX12_verdictOf 29 = .ok (.aload_n 0, 1) := by decide +kernel
theorem dX12_verdictOf_30 : decode cX12_verdictOf 30 = .ok (.getfield 19, 3) := by decide +kernel
theorem dX12_verdictOf_33 : decode cX12_verdictOf 33 = .ok (.iload_n 1, 1) := by decide +kernel
theorem dX12_verdictOf_34 : decode cX12_verdictOf 34 = .ok (.iaload, 1) := by decide +kernel
theorem dX12_verdictOf_35 : decode cX12_verdictOf 35 = .ok (.iadd, 1) := by decide +kernel
theorem dX12_verdictOf_36 : decode cX12_verdictOf 36 = .ok (.istore 8, 2) := by decide +kernel
theorem dX12_verdictOf_38 : decode cX12_verdictOf 38 = .ok (.aload_n 0, 1) := by decide +kernel
theorem dX12_verdictOf_39 : decode cX12_verdictOf 39 = .ok (.getfield 27, 3) := by decide +kernel
theorem dX12_verdictOf_42 : decode cX12_verdictOf 42 = .ok (.iload_n 1, 1) := by decide +kernel
theorem dX12_verdictOf_43 : decode cX12_verdictOf 43 = .ok (.laload, 1) := by decide +kernel
theorem dX12_verdictOf_44 : decode cX12_verdictOf 44 = .ok (.lstore 9, 2) := by decide +kernel
theorem dX12_verdictOf_46 : decode cX12_verdictOf 46 = .ok (.aload_n 0, 1) := by decide +kernel
theorem dX12_verdictOf_47 : decode cX12_verdictOf 47 = .ok (.aload_n 0, 1) := by decide +kernel
theorem dX12_verdictOf_48 : decode cX12_verdictOf 48 = .ok (.getfield 16, 3) := by decide +kernel
theorem dX12_verdictOf_51 : decode cX12_verdictOf 51 = .ok (.iload 7, 2) := by decide +kernel
theorem dX12_verdictOf_53 : decode cX12_verdictOf 53 = .ok (.iload 8, 2) := by decide +kernel
theorem dX12_verdictOf_55 : decode cX12_verdictOf 55 = .ok (.lload 9, 2) := by decide +kernel
theorem dX12_verdictOf_57 : decode cX12_verdictOf 57 = .ok (.invokevirtual 495, 3) := by decide +kernel
theorem dX12_verdictOf_60 : decode cX12_verdictOf 60 = .ok (.ifCond .ne 184, 3) := by decide +kernel
theorem dX12_verdictOf_63 : decode cX12_verdictOf 63 = .ok (.aload_n 0, 1) := by decide +kernel
theorem dX12_verdictOf_64 : decode cX12_verdictOf 64 = .ok (.getfield 401, 3) := by decide +kernel
theorem dX12_verdictOf_67 : decode cX12_verdictOf 67 = .ok (.ifCond .eq 26, 3) := by decide +kernel
theorem dX12_verdictOf_70 : decode cX12_verdictOf 70 = .ok (.aload_n 0, 1) := by decide +kernel
theorem dX12_verdictOf_71 : decode cX12_verdictOf 71 = .ok (.aload_n 0, 1) := by decide +kernel
theorem dX12_verdictOf_72 : decode cX12_verdictOf 72 = .ok (.getfield 7, 3) := by decide +kernel
theorem dX12_verdictOf_75 : decode cX12_verdictOf 75 = .ok (.aload_n 0, 1) := by decide +kernel
theorem dX12_verdictOf_76 : decode cX12_verdictOf 76 = .ok (.getfield 325, 3) := by decide +kernel
theorem dX12_verdictOf_79 : decode cX12_verdictOf 79 = .ok (.aload_n 0, 1) := by decide +kernel
theorem dX12_verdictOf_80 : decode cX12_verdictOf 80 = .ok (.getfield 328, 3) := by decide +kernel
theorem dX12_verdictOf_83 : decode cX12_verdictOf 83 = .ok (.aload_n 0, 1) := by decide +kernel
theorem dX12_verdictOf_84 : decode cX12_verdictOf 84 = .ok (.getfield 342, 3) := by decide +kernel
theorem dX12_verdictOf_87 : decode cX12_verdictOf 87 = .ok (.invokevirtual 495, 3) := by decide +kernel
theorem dX12_verdictOf_90 : decode cX12_verdictOf 90 = .ok (.ifCond .ne 6, 3) := by decide +kernel
theorem dX12_verdictOf_93 : decode cX12_verdictOf 93 = .ok (.bipush 23, 2) := by decide +kernel
theorem dX12_verdictOf_95 : decode cX12_verdictOf 95 = .ok (.ireturn, 1) := by decide +kernel
theorem dX12_verdictOf_96 : decode cX12_verdictOf 96 = .ok (.aload_n 0, 1) := by decide +kernel
theorem dX12_verdictOf_97 : decode cX12_verdictOf 97 = .ok (.getfield 16, 3) := by decide +kernel
theorem dX12_verdictOf_100 : decode cX12_verdictOf 100 = .ok (.iload 7, 2) := by decide +kernel
theorem dX12_verdictOf_102 : decode cX12_verdictOf 102 = .ok (.iload 8, 2) := by decide +kernel
theorem dX12_verdictOf_104 : decode cX12_verdictOf 104 = .ok (.aload_n 0, 1) := by decide +kernel
theorem dX12_verdictOf_105 : decode cX12_verdictOf 105 = .ok (.getfield 7, 3) := by decide +kernel
theorem dX12_verdictOf_108 : decode cX12_verdictOf 108 = .ok (.aload_n 0, 1) := by decide +kernel
theorem dX12_verdictOf_109 : decode cX12_verdictOf 109 = .ok (.getfield 319, 3) := by decide +kernel
theorem dX12_verdictOf_112 : decode cX12_verdictOf 112 = .ok (.aload_n 0, 1) := by decide +kernel
theorem dX12_verdictOf_113 : decode cX12_verdictOf 113 = .ok (.getfield 322, 3) := by decide +kernel
theorem dX12_verdictOf_116 : decode cX12_verdictOf 116 = .ok (.invokestatic 432, 3) := by decide +kernel
theorem dX12_verdictOf_119 : decode cX12_verdictOf 119 = .ok (.ifCond .eq 28, 3) := by decide +kernel
theorem dX12_verdictOf_122 : decode cX12_verdictOf 122 = .ok (.aload_n 0, 1) := by decide +kernel
theorem dX12_verdictOf_123 : decode cX12_verdictOf 123 = .ok (.lload 9, 2) := by decide +kernel
theorem dX12_verdictOf_125 : decode cX12_verdictOf 125 = .ok (.aload_n 0, 1) := by decide +kernel
theorem dX12_verdictOf_126 : decode cX12_verdictOf 126 = .ok (.getfield 7, 3) := by decide +kernel
theorem dX12_verdictOf_129 : decode cX12_verdictOf 129 = .ok (.aload_n 0, 1) := by decide +kernel
theorem dX12_verdictOf_130 : decode cX12_verdictOf 130 = .ok (.getfield 300, 3) := by decide +kernel
theorem dX12_verdictOf_133 : decode cX12_verdictOf 133 = .ok (.aload_n 0, 1) := by decide +kernel
theorem dX12_verdictOf_134 : decode cX12_verdictOf 134 = .ok (.getfield 303, 3) := by decide +kernel
theorem dX12_verdictOf_137 : decode cX12_verdictOf 137 = .ok (.aload_n 0, 1) := by decide +kernel
theorem dX12_verdictOf_138 : decode cX12_verdictOf 138 = .ok (.getfield 356, 3) := by decide +kernel
theorem dX12_verdictOf_141 : decode cX12_verdictOf 141 = .ok (.invokevirtual 499, 3) := by decide +kernel
theorem dX12_verdictOf_144 : decode cX12_verdictOf 144 = .ok (.ifCond .ne 6, 3) := by decide +kernel
theorem dX12_verdictOf_147 : decode cX12_verdictOf 147 = .ok (.bipush 24, 2) := by decide +kernel
theorem dX12_verdictOf_149 : decode cX12_verdictOf 149 = .ok (.ireturn, 1) := by decide +kernel
theorem dX12_verdictOf_150 : decode cX12_verdictOf 150 = .ok (.aload_n 0, 1) := by decide +kernel
theorem dX12_verdictOf_151 : decode cX12_verdictOf 151 = .ok (.getfield 347, 3) := by decide +kernel
theorem dX12_verdictOf_154 : decode cX12_verdictOf 154 = .ok (.iconst 1, 1) := by decide +kernel
theorem dX12_verdictOf_155 : decode cX12_verdictOf 155 = .ok (.iand, 1) := by decide +kernel
theorem dX12_verdictOf_156 : decode cX12_verdictOf 156 = .ok (.ifCond .ne 6, 3) := by decide +kernel
theorem dX12_verdictOf_159 : decode cX12_verdictOf 159 = .ok (.bipush 25, 2) := by decide +kernel
theorem dX12_verdictOf_161 : decode cX12_verdictOf 161 = .ok (.ireturn, 1) := by decide +kernel
theorem dX12_verdictOf_162 : decode cX12_verdictOf 162 = .ok (.lload_n 3, 1) := by decide +kernel
theorem dX12_verdictOf_163 : decode cX12_verdictOf 163 = .ok (.aload_n 0, 1) := by decide +kernel
theorem dX12_verdictOf_164 : decode cX12_verdictOf 164 = .ok (.getfield 334, 3) := by decide +kernel
theorem dX12_verdictOf_167 : decode cX12_verdictOf 167 = .ok (.lcmp, 1) := by decide +kernel
theorem dX12_verdictOf_168 : decode cX12_verdictOf 168 = .ok (.ifCond .lt 12, 3) := by decide +kernel
theorem dX12_verdictOf_171 : decode cX12_verdictOf 171 = .ok (.lload_n 3, 1) := by decide +kernel
theorem dX12_verdictOf_172 : decode cX12_verdictOf 172 = .ok (.aload_n 0, 1) := by decide +kernel
theorem dX12_verdictOf_173 : decode cX12_verdictOf 173 = .ok (.getfield 337, 3) := by decide +kernel
theorem dX12_verdictOf_176 : decode cX12_verdictOf 176 = .ok (.lcmp, 1) := by decide +kernel
theorem dX12_verdictOf_177 : decode cX12_verdictOf 177 = .ok (.ifCond .le 6, 3) := by decide +kernel
theorem dX12_verdictOf_180 : decode cX12_verdictOf 180 = .ok (.bipush 26, 2) := by decide +kernel
theorem dX12_verdictOf_182 : decode cX12_verdictOf 182 = .ok (.ireturn, 1) := by decide +kernel
theorem dX12_verdictOf_183 : decode cX12_verdictOf 183 = .ok (.aload_n 0, 1) := by decide +kernel
theorem dX12_verdictOf_184 : decode cX12_verdictOf 184 = .ok (.iload_n 1, 1) := by decide +kernel
theorem dX12_verdictOf_185 : decode cX12_verdictOf 185 = .ok (.aload_n 0, 1) := by decide +kernel
theorem dX12_verdictOf_186 : decode cX12_verdictOf 186 = .ok (.getfield 312, 3) := by decide +kernel
theorem dX12_verdictOf_189 : decode cX12_verdictOf 189 = .ok (.invokevirtual 439, 3) := by decide +kernel
theorem dX12_verdictOf_192 : decode cX12_verdictOf 192 = .ok (.istore 11, 2) := by decide +kernel
theorem dX12_verdictOf_194 : decode cX12_verdictOf 194 = .ok (.aload_n 0, 1) := by decide +kernel
theorem dX12_verdictOf_195 : decode cX12_verdictOf 195 = .ok (.getfield 347, 3) := by decide +kernel
theorem dX12_verdictOf_198 : decode cX12_verdictOf 198 = .ok (.iconst 2, 1) := by decide +kernel
theorem dX12_verdictOf_199 : decode cX12_verdictOf 199 = .ok (.iand, 1) := by decide +kernel
theorem dX12_verdictOf_200 : decode cX12_verdictOf 200 = .ok (.ifCond .ne 38, 3) := by decide +kernel
theorem dX12_verdictOf_203 : decode cX12_verdictOf 203 = .ok (.iload 11, 2) := by decide +kernel
theorem dX12_verdictOf_205 : decode cX12_verdictOf 205 = .ok (.iconst (-1), 1) := by decide +kernel
theorem dX12_verdictOf_206 : decode cX12_verdictOf 206 = .ok (.if_icmp .eq 32, 3) := by decide +kernel
theorem dX12_verdictOf_209 : decode cX12_verdictOf 209 = .ok (.aload_n 0, 1) := by decide +kernel
theorem dX12_verdictOf_210 : decode cX12_verdictOf 210 = .ok (.getfield 36, 3) := by decide +kernel
theorem dX12_verdictOf_213 : decode cX12_verdictOf 213 = .ok (.iload 11, 2) := by decide +kernel
theorem dX12_verdictOf_215 : decode cX12_verdictOf 215 = .ok (.laload, 1) := by decide +kernel
theorem dX12_verdictOf_216 : decode cX12_verdictOf 216 = .ok (.ldc2_w 213, 3) := by decide +kernel
theorem dX12_verdictOf_219 : decode cX12_verdictOf 219 = .ok (.lcmp, 1) := by decide +kernel
theorem dX12_verdictOf_220 : decode cX12_verdictOf 220 = .ok (.ifCond .eq 18, 3) := by decide +kernel
theorem dX12_verdictOf_223 : decode cX12_verdictOf 223 = .ok (.aload_n 0, 1) := by decide +kernel
theorem dX12_verdictOf_224 : decode cX12_verdictOf 224 = .ok (.getfield 36, 3) := by decide +kernel
theorem dX12_verdictOf_227 : decode cX12_verdictOf 227 = .ok (.iload 11, 2) := by decide +kernel
theorem dX12_verdictOf_229 : decode cX12_verdictOf 229 = .ok (.laload, 1) := by decide +kernel
theorem dX12_verdictOf_230 : decode cX12_verdictOf 230 = .ok (.lload_n 3, 1) := by decide +kernel
theorem dX12_verdictOf_231 : decode cX12_verdictOf 231 = .ok (.lcmp, 1) := by decide +kernel
theorem dX12_verdictOf_232 : decode cX12_verdictOf 232 = .ok (.ifCond .gt 6, 3) := by decide +kernel
theorem dX12_verdictOf_235 : decode cX12_verdictOf 235 = .ok (.bipush 27, 2) := by decide +kernel
theorem dX12_verdictOf_237 : decode cX12_verdictOf 237 = .ok (.ireturn, 1) := by decide +kernel
theorem dX12_verdictOf_238 : decode cX12_verdictOf 238 = .ok (.aload_n 0, 1) := by decide +kernel
theorem dX12_verdictOf_239 : decode cX12_verdictOf 239 = .ok (.getfield 342, 3) := by decide +kernel
theorem dX12_verdictOf_242 : decode cX12_verdictOf 242 = .ok (.lstore 9, 2) := by decide +kernel
theorem dX12_verdictOf_244 : decode cX12_verdictOf 244 = .ok (.aload_n 0, 1) := by decide +kernel
theorem dX12_verdictOf_245 : decode cX12_verdictOf 245 = .ok (.lload 9, 2) := by decide +kernel
theorem dX12_verdictOf_247 : decode cX12_verdictOf 247 = .ok (.aload_n 0, 1) := by decide +kernel
theorem dX12_verdictOf_248 : decode cX12_verdictOf 248 = .ok (.getfield 7, 3) := by decide +kernel
theorem dX12_verdictOf_251 : decode cX12_verdictOf 251 = .ok (.aload_n 0, 1) := by decide +kernel
theorem dX12_verdictOf_252 : decode cX12_verdictOf 252 = .ok (.getfield 389, 3) := by decide +kernel
theorem dX12_verdictOf_255 : decode cX12_verdictOf 255 = .ok (.aload_n 0, 1) := by decide +kernel
theorem dX12_verdictOf_256 : decode cX12_verdictOf 256 = .ok (.getfield 392, 3) := by decide +kernel
theorem dX12_verdictOf_259 : decode cX12_verdictOf 259 = .ok (.aload_n 0, 1) := by decide +kernel
theorem dX12_verdictOf_260 : decode cX12_verdictOf 260 = .ok (.getfield 411, 3) := by decide +kernel
theorem dX12_verdictOf_263 : decode cX12_verdictOf 263 = .ok (.invokevirtual 499, 3) := by decide +kernel
theorem dX12_verdictOf_266 : decode cX12_verdictOf 266 = .ok (.ifCond .ne 6, 3) := by decide +kernel
theorem dX12_verdictOf_269 : decode cX12_verdictOf 269 = .ok (.bipush 28, 2) := by decide +kernel
theorem dX12_verdictOf_271 : decode cX12_verdictOf 271 = .ok (.ireturn, 1) := by decide +kernel
theorem dX12_verdictOf_272 : decode cX12_verdictOf 272 = .ok (.aload_n 0, 1) := by decide +kernel
theorem dX12_verdictOf_273 : decode cX12_verdictOf 273 = .ok (.getfield 465, 3) := by decide +kernel
theorem dX12_verdictOf_276 : decode cX12_verdictOf 276 = .ok (.ifCond .le 33, 3) := by decide +kernel
theorem dX12_verdictOf_279 : decode cX12_verdictOf 279 = .ok (.aload_n 0, 1) := by decide +kernel
theorem dX12_verdictOf_280 : decode cX12_verdictOf 280 = .ok (.getfield 63, 3) := by decide +kernel
theorem dX12_verdictOf_283 : decode cX12_verdictOf 283 = .ok (.iconst 0, 1) := by decide +kernel
theorem dX12_verdictOf_284 : decode cX12_verdictOf 284 = .ok (.aload_n 0, 1) := by decide +kernel
theorem dX12_verdictOf_285 : decode cX12_verdictOf 285 = .ok (.getfield 465, 3) := by decide +kernel
theorem dX12_verdictOf_288 : decode cX12_verdictOf 288 = .ok (.aload_n 0, 1) := by decide +kernel
theorem dX12_verdictOf_289 : decode cX12_verdictOf 289 = .ok (.getfield 7, 3) := by decide +kernel
theorem dX12_verdictOf_292 : decode cX12_verdictOf 292 = .ok (.aload_n 0, 1) := by decide +kernel
theorem dX12_verdictOf_293 : decode cX12_verdictOf 293 = .ok (.getfield 362, 3) := by decide +kernel
theorem dX12_verdictOf_296 : decode cX12_verdictOf 296 = .ok (.aload_n 0, 1) := by decide +kernel
theorem dX12_verdictOf_297 : decode cX12_verdictOf 297 = .ok (.getfield 365, 3) := by decide +kernel
theorem dX12_verdictOf_300 : decode cX12_verdictOf 300 = .ok (.invokestatic 432, 3) := by decide +kernel
theorem dX12_verdictOf_303 : decode cX12_verdictOf 303 = .ok (.ifCond .ne 6, 3) := by decide +kernel
theorem dX12_verdictOf_306 : decode cX12_verdictOf 306 = .ok (.bipush 29, 2) := by decide +kernel
theorem dX12_verdictOf_308 : decode cX12_verdictOf 308 = .ok (.ireturn, 1) := by decide +kernel
theorem dX12_verdictOf_309 : decode cX12_verdictOf 309 = .ok (.iconst 0, 1) := by decide +kernel
theorem dX12_verdictOf_310 : decode cX12_verdictOf 310 = .ok (.istore 11, 2) := by decide +kernel
theorem dX12_verdictOf_312 : decode cX12_verdictOf 312 = .ok (.iload 11, 2) := by decide +kernel
theorem dX12_verdictOf_314 : decode cX12_verdictOf 314 = .ok (.aload_n 0, 1) := by decide +kernel
theorem dX12_verdictOf_315 : decode cX12_verdictOf 315 = .ok (.getfield 359, 3) := by decide +kernel
theorem dX12_verdictOf_318 : decode cX12_verdictOf 318 = .ok (.if_icmp .ge 32, 3) := by decide +kernel
theorem dX12_verdictOf_321 : decode cX12_verdictOf 321 = .ok (.aload_n 0, 1) := by decide +kernel
theorem dX12_verdictOf_322 : decode cX12_verdictOf 322 = .ok (.getfield 78, 3) := by decide +kernel
theorem dX12_verdictOf_325 : decode cX12_verdictOf 325 = .ok (.iload 11, 2) := by decide +kernel
theorem dX12_verdictOf_327 : decode cX12_verdictOf 327 = .ok (.laload, 1) := by decide +kernel
theorem dX12_verdictOf_328 : decode cX12_verdictOf 328 = .ok (.iload_n 2, 1) := by decide +kernel
theorem dX12_verdictOf_329 : decode cX12_verdictOf 329 = .ok (.i2l, 1) := by decide +kernel
theorem dX12_verdictOf_330 : decode cX12_verdictOf 330 = .ok (.lcmp, 1) := by decide +kernel
theorem dX12_verdictOf_331 : decode cX12_verdictOf 331 = .ok (.ifCond .ne 13, 3) := by decide +kernel
theorem dX12_verdictOf_334 : decode cX12_verdictOf 334 = .ok (.aload_n 0, 1) := by decide +kernel
theorem dX12_verdictOf_335 : decode cX12_verdictOf 335 = .ok (.iload 11, 2) := by decide +kernel
theorem dX12_verdictOf_337 : decode cX12_verdictOf 337 = .ok (.iload_n 1, 1) := by decide +kernel
theorem dX12_verdictOf_338 : decode cX12_verdictOf 338 = .ok (.invokevirtual 482, 3) := by decide +kernel
theorem dX12_verdictOf_341 : decode cX12_verdictOf 341 = .ok (.ifCond .ne 9, 3) := by decide +kernel
theorem dX12_verdictOf_344 : decode cX12_verdictOf 344 = .ok (.iinc 11 1, 3) := by decide +kernel
theorem dX12_verdictOf_347 : decode cX12_verdictOf 347 = .ok (.goto (-35), 3) := by decide +kernel
theorem dX12_verdictOf_350 : decode cX12_verdictOf 350 = .ok (.iload 11, 2) := by decide +kernel
theorem dX12_verdictOf_352 : decode cX12_verdictOf 352 = .ok (.aload_n 0, 1) := by decide +kernel
theorem dX12_verdictOf_353 : decode cX12_verdictOf 353 = .ok (.getfield 359, 3) := by decide +kernel
theorem dX12_verdictOf_356 : decode cX12_verdictOf 356 = .ok (.if_icmp .ne 6, 3) := by decide +kernel
theorem dX12_verdictOf_359 : decode cX12_verdictOf 359 = .ok (.bipush 30, 2) := by decide +kernel
theorem dX12_verdictOf_361 : decode cX12_verdictOf 361 = .ok (.ireturn, 1) := by decide +kernel
theorem dX12_verdictOf_362 : decode cX12_verdictOf 362 = .ok (.aload_n 0, 1) := by decide +kernel
theorem dX12_verdictOf_363 : decode cX12_verdictOf 363 = .ok (.getfield 90, 3) := by decide +kernel
theorem dX12_verdictOf_366 : decode cX12_verdictOf 366 = .ok (.iload 11, 2) := by decide +kernel
theorem dX12_verdictOf_368 : decode cX12_verdictOf 368 = .ok (.laload, 1) := by decide +kernel
theorem dX12_verdictOf_369 : decode cX12_verdictOf 369 = .ok (.lload_n 3, 1) := by decide +kernel
theorem dX12_verdictOf_370 : decode cX12_verdictOf 370 = .ok (.iload 5, 2) := by decide +kernel
theorem dX12_verdictOf_372 : decode cX12_verdictOf 372 = .ok (.i2l, 1) := by decide +kernel
theorem dX12_verdictOf_373 : decode cX12_verdictOf 373 = .ok (.ladd, 1) := by decide +kernel
theorem dX12_verdictOf_374 : decode cX12_verdictOf 374 = .ok (.lcmp, 1) := by decide +kernel
theorem dX12_verdictOf_375 : decode cX12_verdictOf 375 = .ok (.ifCond .le 6, 3) := by decide +kernel
theorem dX12_verdictOf_378 : decode cX12_verdictOf 378 = .ok (.bipush 31, 2) := by decide +kernel
theorem dX12_verdictOf_380 : decode cX12_verdictOf 380 = .ok (.ireturn, 1) := by decide +kernel
theorem dX12_verdictOf_381 : decode cX12_verdictOf 381 = .ok (.aload_n 0, 1) := by decide +kernel
theorem dX12_verdictOf_382 : decode cX12_verdictOf 382 = .ok (.getfield 93, 3) := by decide +kernel
theorem dX12_verdictOf_385 : decode cX12_verdictOf 385 = .ok (.iload 11, 2) := by decide +kernel
theorem dX12_verdictOf_387 : decode cX12_verdictOf 387 = .ok (.laload, 1) := by decide +kernel
theorem dX12_verdictOf_388 : decode cX12_verdictOf 388 = .ok (.ldc2_w 213, 3) := by decide +kernel
theorem dX12_verdictOf_391 : decode cX12_verdictOf 391 = .ok (.lcmp, 1) := by decide +kernel
theorem dX12_verdictOf_392 : decode cX12_verdictOf 392 = .ok (.ifCond .eq 40, 3) := by decide +kernel
theorem dX12_verdictOf_395 : decode cX12_verdictOf 395 = .ok (.aload_n 0, 1) := by decide +kernel
theorem dX12_verdictOf_396 : decode cX12_verdictOf 396 = .ok (.getfield 93, 3) := by decide +kernel
theorem dX12_verdictOf_399 : decode cX12_verdictOf 399 = .ok (.iload 11, 2) := by decide +kernel
theorem dX12_verdictOf_401 : decode cX12_verdictOf 401 = .ok (.laload, 1) := by decide +kernel
theorem dX12_verdictOf_402 : decode cX12_verdictOf 402 = .ok (.lload_n 3, 1) := by decide +kernel
theorem dX12_verdictOf_403 : decode cX12_verdictOf 403 = .ok (.iload 5, 2) := by decide +kernel
theorem dX12_verdictOf_405 : decode cX12_verdictOf 405 = .ok (.i2l, 1) := by decide +kernel
theorem dX12_verdictOf_406 : decode cX12_verdictOf 406 = .ok (.lsub, 1) := by decide +kernel
theorem dX12_verdictOf_407 : decode cX12_verdictOf 407 = .ok (.lcmp, 1) := by decide +kernel
theorem dX12_verdictOf_408 : decode cX12_verdictOf 408 = .ok (.ifCond .lt 21, 3) := by decide +kernel
theorem dX12_verdictOf_411 : decode cX12_verdictOf 411 = .ok (.aload_n 0, 1) := by decide +kernel
theorem dX12_verdictOf_412 : decode cX12_verdictOf 412 = .ok (.getfield 93, 3) := by decide +kernel
theorem dX12_verdictOf_415 : decode cX12_verdictOf 415 = .ok (.iload 11, 2) := by decide +kernel
theorem dX12_verdictOf_417 : decode cX12_verdictOf 417 = .ok (.laload, 1) := by decide +kernel
theorem dX12_verdictOf_418 : decode cX12_verdictOf 418 = .ok (.aload_n 0, 1) := by decide +kernel
theorem dX12_verdictOf_419 : decode cX12_verdictOf 419 = .ok (.getfield 90, 3) := by decide +kernel
theorem dX12_verdictOf_422 : decode cX12_verdictOf 422 = .ok (.iload 11, 2) := by decide +kernel
theorem dX12_verdictOf_424 : decode cX12_verdictOf 424 = .ok (.laload, 1) := by decide +kernel
theorem dX12_verdictOf_425 : decode cX12_verdictOf 425 = .ok (.lcmp, 1) := by decide +kernel
theorem dX12_verdictOf_426 : decode cX12_verdictOf 426 = .ok (.ifCond .ge 6, 3) := by decide +kernel
theorem dX12_verdictOf_429 : decode cX12_verdictOf 429 = .ok (.bipush 32, 2) := by decide +kernel
theorem dX12_verdictOf_431 : decode cX12_verdictOf 431 = .ok (.ireturn, 1) := by decide +kernel
theorem dX12_verdictOf_432 : decode cX12_verdictOf 432 = .ok (.aload_n 0, 1) := by decide +kernel
theorem dX12_verdictOf_433 : decode cX12_verdictOf 433 = .ok (.getfield 93, 3) := by decide +kernel
theorem dX12_verdictOf_436 : decode cX12_verdictOf 436 = .ok (.iload 11, 2) := by decide +kernel
theorem dX12_verdictOf_438 : decode cX12_verdictOf 438 = .ok (.laload, 1) := by decide +kernel
theorem dX12_verdictOf_439 : decode cX12_verdictOf 439 = .ok (.ldc2_w 213, 3) := by decide +kernel
theorem dX12_verdictOf_442 : decode cX12_verdictOf 442 = .ok (.lcmp, 1) := by decide +kernel
theorem dX12_verdictOf_443 : decode cX12_verdictOf 443 = .ok (.ifCond .ne 22, 3) := by decide +kernel
theorem dX12_verdictOf_446 : decode cX12_verdictOf 446 = .ok (.aload_n 0, 1) := by decide +kernel
theorem dX12_verdictOf_447 : decode cX12_verdictOf 447 = .ok (.getfield 90, 3) := by decide +kernel
theorem dX12_verdictOf_450 : decode cX12_verdictOf 450 = .ok (.iload 11, 2) := by decide +kernel
theorem dX12_verdictOf_452 : decode cX12_verdictOf 452 = .ok (.laload, 1) := by decide +kernel
theorem dX12_verdictOf_453 : decode cX12_verdictOf 453 = .ok (.lload_n 3, 1) := by decide +kernel
theorem dX12_verdictOf_454 : decode cX12_verdictOf 454 = .ok (.iload 6, 2) := by decide +kernel
theorem dX12_verdictOf_456 : decode cX12_verdictOf 456 = .ok (.i2l, 1) := by decide +kernel
theorem dX12_verdictOf_457 : decode cX12_verdictOf 457 = .ok (.lsub, 1) := by decide +kernel
theorem dX12_verdictOf_458 : decode cX12_verdictOf 458 = .ok (.lcmp, 1) := by decide +kernel
theorem dX12_verdictOf_459 : decode cX12_verdictOf 459 = .ok (.ifCond .ge 6, 3) := by decide +kernel
theorem dX12_verdictOf_462 : decode cX12_verdictOf 462 = .ok (.bipush 33, 2) := by decide +kernel
theorem dX12_verdictOf_464 : decode cX12_verdictOf 464 = .ok (.ireturn, 1) := by decide +kernel
theorem dX12_verdictOf_465 : decode cX12_verdictOf 465 = .ok (.aload_n 0, 1) := by decide +kernel
theorem dX12_verdictOf_466 : decode cX12_verdictOf 466 = .ok (.getfield 100, 3) := by decide +kernel
theorem dX12_verdictOf_469 : decode cX12_verdictOf 469 = .ok (.iconst 0, 1) := by decide +kernel
theorem dX12_verdictOf_470 : decode cX12_verdictOf 470 = .ok (.aload_n 0, 1) := by decide +kernel
theorem dX12_verdictOf_471 : decode cX12_verdictOf 471 = .ok (.getfield 81, 3) := by decide +kernel
theorem dX12_verdictOf_474 : decode cX12_verdictOf 474 = .ok (.iload 11, 2) := by decide +kernel
theorem dX12_verdictOf_476 : decode cX12_verdictOf 476 = .ok (.iaload, 1) := by decide +kernel
theorem dX12_verdictOf_477 : decode cX12_verdictOf 477 = .ok (.i2l, 1) := by decide +kernel
theorem dX12_verdictOf_478 : decode cX12_verdictOf 478 = .ok (.lastore, 1) := by decide +kernel
theorem dX12_verdictOf_479 : decode cX12_verdictOf 479 = .ok (.aload_n 0, 1) := by decide +kernel
theorem dX12_verdictOf_480 : decode cX12_verdictOf 480 = .ok (.getfield 100, 3) := by decide +kernel
theorem dX12_verdictOf_483 : decode cX12_verdictOf 483 = .ok (.iconst 1, 1) := by decide +kernel
theorem dX12_verdictOf_484 : decode cX12_verdictOf 484 = .ok (.aload_n 0, 1) := by decide +kernel
theorem dX12_verdictOf_485 : decode cX12_verdictOf 485 = .ok (.getfield 84, 3) := by decide +kernel
theorem dX12_verdictOf_488 : decode cX12_verdictOf 488 = .ok (.iload 11, 2) := by decide +kernel
theorem dX12_verdictOf_490 : decode cX12_verdictOf 490 = .ok (.laload, 1) := by decide +kernel
theorem dX12_verdictOf_491 : decode cX12_verdictOf 491 = .ok (.lastore, 1) := by decide +kernel
theorem dX12_verdictOf_492 : decode cX12_verdictOf 492 = .ok (.aload_n 0, 1) := by decide +kernel
theorem dX12_verdictOf_493 : decode cX12_verdictOf 493 = .ok (.getfield 100, 3) := by decide +kernel
theorem dX12_verdictOf_496 : decode cX12_verdictOf 496 = .ok (.iconst 2, 1) := by decide +kernel
theorem dX12_verdictOf_497 : decode cX12_verdictOf 497 = .ok (.aload_n 0, 1) := by decide +kernel
theorem dX12_verdictOf_498 : decode cX12_verdictOf 498 = .ok (.getfield 87, 3) := by decide +kernel
theorem dX12_verdictOf_501 : decode cX12_verdictOf 501 = .ok (.iload 11, 2) := by decide +kernel
theorem dX12_verdictOf_503 : decode cX12_verdictOf 503 = .ok (.iaload, 1) := by decide +kernel
theorem dX12_verdictOf_504 : decode cX12_verdictOf 504 = .ok (.i2l, 1) := by decide +kernel
theorem dX12_verdictOf_505 : decode cX12_verdictOf 505 = .ok (.lastore, 1) := by decide +kernel
theorem dX12_verdictOf_506 : decode cX12_verdictOf 506 = .ok (.aload_n 0, 1) := by decide +kernel
theorem dX12_verdictOf_507 : decode cX12_verdictOf 507 = .ok (.getfield 100, 3) := by decide +kernel
theorem dX12_verdictOf_510 : decode cX12_verdictOf 510 = .ok (.iconst 3, 1) := by decide +kernel
theorem dX12_verdictOf_511 : decode cX12_verdictOf 511 = .ok (.aload_n 0, 1) := by decide +kernel
theorem dX12_verdictOf_512 : decode cX12_verdictOf 512 = .ok (.getfield 90, 3) := by decide +kernel
theorem dX12_verdictOf_515 : decode cX12_verdictOf 515 = .ok (.iload 11, 2) := by decide +kernel
theorem dX12_verdictOf_517 : decode cX12_verdictOf 517 = .ok (.laload, 1) := by decide +kernel
theorem dX12_verdictOf_518 : decode cX12_verdictOf 518 = .ok (.lastore, 1) := by decide +kernel
theorem dX12_verdictOf_519 : decode cX12_verdictOf 519 = .ok (.aload_n 0, 1) := by decide +kernel
theorem dX12_verdictOf_520 : decode cX12_verdictOf 520 = .ok (.getfield 100, 3) := by decide +kernel
theorem dX12_verdictOf_523 : decode cX12_verdictOf 523 = .ok (.iconst 4, 1) := by decide +kernel
theorem dX12_verdictOf_524 : decode cX12_verdictOf 524 = .ok (.aload_n 0, 1) := by decide +kernel
theorem dX12_verdictOf_525 : decode cX12_verdictOf 525 = .ok (.getfield 93, 3) := by decide +kernel
theorem dX12_verdictOf_528 : decode cX12_verdictOf 528 = .ok (.iload 11, 2) := by decide +kernel
theorem dX12_verdictOf_530 : decode cX12_verdictOf 530 = .ok (.laload, 1) := by decide +kernel
theorem dX12_verdictOf_531 : decode cX12_verdictOf 531 = .ok (.ldc2_w 213, 3) := by decide +kernel
theorem dX12_verdictOf_534 : decode cX12_verdictOf 534 = .ok (.lcmp, 1) := by decide +kernel
theorem dX12_verdictOf_535 : decode cX12_verdictOf 535 = .ok (.ifCond .ne 17, 3) := by decide +kernel
theorem dX12_verdictOf_538 : decode cX12_verdictOf 538 = .ok (.aload_n 0, 1) := by decide +kernel
theorem dX12_verdictOf_539 : decode cX12_verdictOf 539 = .ok (.getfield 90, 3) := by decide +kernel
theorem dX12_verdictOf_542 : decode cX12_verdictOf 542 = .ok (.iload 11, 2) := by decide +kernel
theorem dX12_verdictOf_544 : decode cX12_verdictOf 544 = .ok (.laload, 1) := by decide +kernel
theorem dX12_verdictOf_545 : decode cX12_verdictOf 545 = .ok (.iload 6, 2) := by decide +kernel
theorem dX12_verdictOf_547 : decode cX12_verdictOf 547 = .ok (.i2l, 1) := by decide +kernel
theorem dX12_verdictOf_548 : decode cX12_verdictOf 548 = .ok (.ladd, 1) := by decide +kernel
theorem dX12_verdictOf_549 : decode cX12_verdictOf 549 = .ok (.goto 10, 3) := by decide +kernel
theorem dX12_verdictOf_552 : decode cX12_verdictOf 552 = .ok (.aload_n 0, 1) := by decide +kernel
theorem dX12_verdictOf_553 : decode cX12_verdictOf 553 = .ok (.getfield 93, 3) := by decide +kernel
theorem dX12_verdictOf_556 : decode cX12_verdictOf 556 = .ok (.iload 11, 2) := by decide +kernel
theorem dX12_verdictOf_558 : decode cX12_verdictOf 558 = .ok (.laload, 1) := by decide +kernel
theorem dX12_verdictOf_559 : decode cX12_verdictOf 559 = .ok (.lastore, 1) := by decide +kernel
theorem dX12_verdictOf_560 : decode cX12_verdictOf 560 = .ok (.aload_n 0, 1) := by decide +kernel
theorem dX12_verdictOf_561 : decode cX12_verdictOf 561 = .ok (.iconst 1, 1) := by decide +kernel
theorem dX12_verdictOf_562 : decode cX12_verdictOf 562 = .ok (.putfield 503, 3) := by decide +kernel
theorem dX12_verdictOf_565 : decode cX12_verdictOf 565 = .ok (.aload_n 0, 1) := by decide +kernel
theorem dX12_verdictOf_566 : decode cX12_verdictOf 566 = .ok (.iconst 1, 1) := by decide +kernel
theorem dX12_verdictOf_567 : decode cX12_verdictOf 567 = .ok (.putfield 506, 3) := by decide +kernel
theorem dX12_verdictOf_570 : decode cX12_verdictOf 570 = .ok (.aload_n 0, 1) := by decide +kernel
theorem dX12_verdictOf_571 : decode cX12_verdictOf 571 = .ok (.iload_n 1, 1) := by decide +kernel
theorem dX12_verdictOf_572 : decode cX12_verdictOf 572 = .ok (.putfield 509, 3) := by decide +kernel
theorem dX12_verdictOf_575 : decode cX12_verdictOf 575 = .ok (.aload_n 0, 1) := by decide +kernel
theorem dX12_verdictOf_576 : decode cX12_verdictOf 576 = .ok (.iload_n 2, 1) := by decide +kernel
theorem dX12_verdictOf_577 : decode cX12_verdictOf 577 = .ok (.putfield 512, 3) := by decide +kernel
theorem dX12_verdictOf_580 : decode cX12_verdictOf 580 = .ok (.aload_n 0, 1) := by decide +kernel
theorem dX12_verdictOf_581 : decode cX12_verdictOf 581 = .ok (.getfield 81, 3) := by decide +kernel
theorem dX12_verdictOf_584 : decode cX12_verdictOf 584 = .ok (.iload 11, 2) := by decide +kernel
theorem dX12_verdictOf_586 : decode cX12_verdictOf 586 = .ok (.iaload, 1) := by decide +kernel
theorem dX12_verdictOf_587 : decode cX12_verdictOf 587 = .ok (.ireturn, 1) := by decide +kernel
theorem dX12_look_0 : decode cX12_look 0 = .ok (.aload_n 0, 1) := by decide +kernel
theorem dX12_look_1 : decode cX12_look 1 = .ok (.iload_n 1, 1) := by decide +kernel
theorem dX12_look_2 : decode cX12_look 2 = .ok (.invokevirtual 436, 3) := by decide +kernel
theorem dX12_look_5 : decode cX12_look 5 = .ok (.ifCond .eq 44, 3) := by decide +kernel
theorem dX12_look_8 : decode cX12_look 8 = .ok (.iload_n 2, 1) := by decide +kernel
theorem dX12_look_9 : decode cX12_look 9 = .ok (.ifCond .lt 40, 3) := by decide +kernel
theorem dX12_look_12 : decode cX12_look 12 = .ok (.lload_n 3, 1) := by decide +kernel
theorem dX12_look_13 : decode cX12_look 13 = .ok (.lconst 0, 1) := by decide +kernel
theorem dX12_look_14 : decode cX12_look 14 = .ok (.ldc2_w 198, 3) := by decide +kernel
theorem dX12_look_17 : decode cX12_look 17 = .ok (.invokestatic 117, 3) := by decide +kernel
theorem dX12_look_20 : decode cX12_look 20 = .ok (.ifCond .eq 29, 3) := by decide +kernel
theorem dX12_look_23 : decode cX12_look 23 = .ok (.iload 5, 2) := by decide +kernel
theorem dX12_look_25 : decode cX12_look 25 = .ok (.i2l, 1) := by decide +kernel
theorem dX12_look_26 : decode cX12_look 26 = .ok (.lconst 0, 1) := by decide +kernel
theorem dX12_look_27 : decode cX12_look 27 = .ok (.ldc2_w 515, 3) := by decide +kernel
theorem dX12_look_30 : decode cX12_look 30 = .ok (.invokestatic 117, 3) := by decide +kernel
theorem dX12_look_33 : decode cX12_look 33 = .ok (.ifCond .eq 16, 3) := by decide +kernel
theorem dX12_look_36 : decode cX12_look 36 = .ok (.iload 6, 2) := by decide +kernel
theorem dX12_look_38 : decode cX12_look 38 = .ok (.i2l, 1) := by decide +kernel
theorem dX12_look_39 : decode cX12_look 39 = .ok (.lconst 0, 1) := by decide +kernel
theorem dX12_look_40 : decode cX12_look 40 = .ok (.ldc2_w 515, 3) := by decide +kernel
theorem dX12_look_43 : decode cX12_look 43 = .ok (.invokestatic 117, 3) := by decide +kernel
theorem dX12_look_46 : decode cX12_look 46 = .ok (.ifCond .ne 11, 3) := by decide +kernel
theorem dX12_look_49 : decode cX12_look 49 = .ok (.aload_n 0, 1) := by decide +kernel
theorem dX12_look_50 : decode cX12_look 50 = .ok (.iconst 0, 1) := by decide +kernel
theorem dX12_look_51 : decode cX12_look 51 = .ok (.putfield 121, 3) := by decide +kernel
theorem dX12_look_54 : decode cX12_look 54 = .ok (.bipush (-2), 2) := by decide +kernel
theorem dX12_look_56 : decode cX12_look 56 = .ok (.ireturn, 1) := by decide +kernel
theorem dX12_look_57 : decode cX12_look 57 = .ok (.aload_n 0, 1) := by decide +kernel
theorem dX12_look_58 : decode cX12_look 58 = .ok (.aload_n 0, 1) := by decide +kernel
theorem dX12_look_59 : decode cX12_look 59 = .ok (.iload_n 1, 1) := by decide +kernel
theorem dX12_look_60 : decode cX12_look 60 = .ok (.iload_n 2, 1) := by decide +kernel
theorem dX12_look_61 : decode cX12_look 61 = .ok (.lload_n 3, 1) := by decide +kernel
theorem dX12_look_62 : decode cX12_look 62 = .ok (.iload 5, 2) := by decide +kernel
theorem dX12_look_64 : decode cX12_look 64 = .ok (.iload 6, 2) := by decide +kernel
theorem dX12_look_66 : decode cX12_look 66 = .ok (.invokevirtual 517, 3) := by decide +kernel
theorem dX12_look_69 : decode cX12_look 69 = .ok (.putfield 96, 3) := by decide +kernel
theorem dX12_look_72 : decode cX12_look 72 = .ok (.aload_n 0, 1) := by decide +kernel
theorem dX12_look_73 : decode cX12_look 73 = .ok (.iconst 0, 1) := by decide +kernel
theorem dX12_look_74 : decode cX12_look 74 = .ok (.putfield 121, 3) := by decide +kernel
theorem dX12_look_77 : decode cX12_look 77 = .ok (.aload_n 0, 1) := by decide +kernel
theorem dX12_look_78 : decode cX12_look 78 = .ok (.dup, 1) := by decide +kernel
theorem dX12_look_79 : decode cX12_look 79 = .ok (.getfield 521, 3) := by decide +kernel
theorem dX12_look_82 : decode cX12_look 82 = .ok (.iconst 1, 1) := by decide +kernel
theorem dX12_look_83 : decode cX12_look 83 = .ok (.iadd, 1) := by decide +kernel
theorem dX12_look_84 : decode cX12_look 84 = .ok (.putfield 521, 3) := by decide +kernel
theorem dX12_look_87 : decode cX12_look 87 = .ok (.aload_n 0, 1) := by decide +kernel
theorem dX12_look_88 : decode cX12_look 88 = .ok (.getfield 96, 3) := by decide +kernel
theorem dX12_look_91 : decode cX12_look 91 = .ok (.ireturn, 1) := by decide +kernel
theorem dX12_passes_0 : decode cX12_passes 0 = .ok (.aload_n 0, 1) := by decide +kernel
theorem dX12_passes_1 : decode cX12_passes 1 = .ok (.getfield 96, 3) := by decide +kernel
theorem dX12_passes_4 : decode cX12_passes 4 = .ok (.iconst (-1), 1) := by decide +kernel
theorem dX12_passes_5 : decode cX12_passes 5 = .ok (.if_icmp .ne 5, 3) := by decide +kernel
theorem dX12_passes_8 : decode cX12_passes 8 = .ok (.iconst 0, 1) := by decide +kernel
theorem dX12_passes_9 : decode cX12_passes 9 = .ok (.ireturn, 1) := by decide +kernel
theorem dX12_passes_10 : decode cX12_passes 10 = .ok (.iload_n 1, 1) := by decide +kernel
theorem dX12_passes_11 : decode cX12_passes 11 = .ok (.ifCond .eq 19, 3) := by decide +kernel
theorem dX12_passes_14 : decode cX12_passes 14 = .ok (.aload_n 0, 1) := by decide +kernel
theorem dX12_passes_15 : decode cX12_passes 15 = .ok (.getfield 96, 3) := by decide +kernel
theorem dX12_passes_18 : decode cX12_passes 18 = .ok (.iconst 1, 1) := by decide +kernel
theorem dX12_passes_19 : decode cX12_passes 19 = .ok (.if_icmp .ne 7, 3) := by decide +kernel
theorem dX12_passes_22 : decode cX12_passes 22 = .ok (.iconst 1, 1) := by decide +kernel
theorem dX12_passes_23 : decode cX12_passes 23 = .ok (.goto 46, 3) := by decide +kernel
theorem dX12_passes_26 : decode cX12_passes 26 = .ok (.iconst 0, 1) := by decide +kernel
theorem dX12_passes_27 : decode cX12_passes 27 = .ok (.goto 42, 3) := by decide +kernel
theorem dX12_passes_30 : decode cX12_passes 30 = .ok (.aload_n 0, 1) := by decide +kernel
theorem dX12_passes_31 : decode cX12_passes 31 = .ok (.getfield 96, 3) := by decide +kernel
theorem dX12_passes_34 : decode cX12_passes 34 = .ok (.iconst 2, 1) := by decide +kernel
theorem dX12_passes_35 : decode cX12_passes 35 = .ok (.if_icmp .eq 33, 3) := by decide +kernel
theorem dX12_passes_38 : decode cX12_passes 38 = .ok (.aload_n 0, 1) := by decide +kernel
theorem dX12_passes_39 : decode cX12_passes 39 = .ok (.getfield 96, 3) := by decide +kernel
theorem dX12_passes_42 : decode cX12_passes 42 = .ok (.bipush 22, 2) := by decide +kernel
theorem dX12_passes_44 : decode cX12_passes 44 = .ok (.if_icmp .eq 24, 3) := by decide +kernel
theorem dX12_passes_47 : decode cX12_passes 47 = .ok (.aload_n 0, 1) := by decide +kernel
theorem dX12_passes_48 : decode cX12_passes 48 = .ok (.getfield 96, 3) := by decide +kernel
theorem dX12_passes_51 : decode cX12_passes 51 = .ok (.i2l, 1) := by decide +kernel
theorem dX12_passes_52 : decode cX12_passes 52 = .ok (.ldc2_w 524, 3) := by decide +kernel
theorem dX12_passes_55 : decode cX12_passes 55 = .ok (.ldc2_w 526, 3) := by decide +kernel
theorem dX12_passes_58 : decode cX12_passes 58 = .ok (.invokestatic 117, 3) := by decide +kernel
theorem dX12_passes_61 : decode cX12_passes 61 = .ok (.ifCond .ne 7, 3) := by decide +kernel
theorem dX12_passes_64 : decode cX12_passes 64 = .ok (.iconst 1, 1) := by decide +kernel
theorem dX12_passes_65 : decode cX12_passes 65 = .ok (.goto 4, 3) := by decide +kernel
theorem dX12_passes_68 : decode cX12_passes 68 = .ok (.iconst 0, 1) := by decide +kernel
theorem dX12_passes_69 : decode cX12_passes 69 = .ok (.ireturn, 1) := by decide +kernel
theorem dX12_found_0 : decode cX12_found 0 = .ok (.iload_n 1, 1) := by decide +kernel
theorem dX12_found_1 : decode cX12_found 1 = .ok (.i2l, 1) := by decide +kernel
theorem dX12_found_2 : decode cX12_found 2 = .ok (.lconst 0, 1) := by decide +kernel
theorem dX12_found_3 : decode cX12_found 3 = .ok (.ldc2_w 173, 3) := by decide +kernel
theorem dX12_found_6 : decode cX12_found 6 = .ok (.invokestatic 117, 3) := by decide +kernel
theorem dX12_found_9 : decode cX12_found 9 = .ok (.ifCond .ne 7, 3) := by decide +kernel
theorem dX12_found_12 : decode cX12_found 12 = .ok (.ldc2_w 528, 3) := by decide +kernel
theorem dX12_found_15 : decode cX12_found 15 = .ok (.lreturn, 1) := by decide +kernel
theorem dX12_found_16 : decode cX12_found 16 = .ok (.aload_n 0, 1) := by decide +kernel
theorem dX12_found_17 : decode cX12_found 17 = .ok (.getfield 503, 3) := by decide +kernel
theorem dX12_found_20 : decode cX12_found 20 = .ok (.ifCond .eq 12, 3) := by decide +kernel
theorem dX12_found_23 : decode cX12_found 23 = .ok (.aload_n 0, 1) := by decide +kernel
theorem dX12_found_24 : decode cX12_found 24 = .ok (.getfield 100, 3) := by decide +kernel
theorem dX12_found_27 : decode cX12_found 27 = .ok (.iload_n 1, 1) := by decide +kernel
theorem dX12_found_28 : decode cX12_found 28 = .ok (.laload, 1) := by decide +kernel
theorem dX12_found_29 : decode cX12_found 29 = .ok (.goto 6, 3) := by decide +kernel
theorem dX12_found_32 : decode cX12_found 32 = .ok (.ldc2_w 213, 3) := by decide +kernel
theorem dX12_found_35 : decode cX12_found 35 = .ok (.lreturn, 1) := by decide +kernel
theorem dX12_hold_0 : decode cX12_hold 0 = .ok (.aload_n 0, 1) := by decide +kernel
theorem dX12_hold_1 : decode cX12_hold 1 = .ok (.getfield 506, 3) := by decide +kernel
theorem dX12_hold_4 : decode cX12_hold 4 = .ok (.ifCond .ne 5, 3) := by decide +kernel
theorem dX12_hold_7 : decode cX12_hold 7 = .ok (.iconst (-1), 1) := by decide +kernel
theorem dX12_hold_8 : decode cX12_hold 8 = .ok (.ireturn, 1) := by decide +kernel
theorem dX12_hold_9 : decode cX12_hold 9 = .ok (.aload_n 0, 1) := by decide +kernel
theorem dX12_hold_10 : decode cX12_hold 10 = .ok (.iconst 0, 1) := by decide +kernel
theorem dX12_hold_11 : decode cX12_hold 11 = .ok (.putfield 506, 3) := by decide +kernel
theorem dX12_hold_14 : decode cX12_hold 14 = .ok (.aload_n 0, 1) := by decide +kernel
theorem dX12_hold_15 : decode cX12_hold 15 = .ok (.getfield 530, 3) := by decide +kernel
theorem dX12_hold_18 : decode cX12_hold 18 = .ok (.bipush 16, 2) := by decide +kernel
theorem dX12_hold_20 : decode cX12_hold 20 = .ok (.if_icmp .ne 83, 3) := by decide +kernel
theorem dX12_hold_23 : decode cX12_hold 23 = .ok (.aload_n 0, 1) := by decide +kernel
theorem dX12_hold_24 : decode cX12_hold 24 = .ok (.dup, 1) := by decide +kernel
theorem dX12_hold_25 : decode cX12_hold 25 = .ok (.getfield 530, 3) := by decide +kernel
theorem dX12_hold_28 : decode cX12_hold 28 = .ok (.iconst 1, 1) := by decide +kernel
theorem dX12_hold_29 : decode cX12_hold 29 = .ok (.isub, 1) := by decide +kernel
theorem dX12_hold_30 : decode cX12_hold 30 = .ok (.putfield 530, 3) := by decide +kernel
theorem dX12_hold_33 : decode cX12_hold 33 = .ok (.iconst 0, 1) := by decide +kernel
theorem dX12_hold_34 : decode cX12_hold 34 = .ok (.istore_n 1, 1) := by decide +kernel
theorem dX12_hold_35 : decode cX12_hold 35 = .ok (.iload_n 1, 1) := by decide +kernel
theorem dX12_hold_36 : decode cX12_hold 36 = .ok (.bipush 15, 2) := by decide +kernel
theorem dX12_hold_38 : decode cX12_hold 38 = .ok (.if_icmp .ge 65, 3) := by decide +kernel
theorem dX12_hold_41 : decode cX12_hold 41 = .ok (.aload_n 0, 1) := by decide +kernel
theorem dX12_hold_42 : decode cX12_hold 42 = .ok (.getfield 103, 3) := by decide +kernel
theorem dX12_hold_45 : decode cX12_hold 45 = .ok (.iload_n 1, 1) := by decide +kernel
theorem dX12_hold_46 : decode cX12_hold 46 = .ok (.aload_n 0, 1) := by decide +kernel
theorem dX12_hold_47 : decode cX12_hold 47 = .ok (.getfield 103, 3) := by decide +kernel
theorem dX12_hold_50 : decode cX12_hold 50 = .ok (.iload_n 1, 1) := by decide +kernel
theorem dX12_hold_51 : decode cX12_hold 51 = .ok (.iconst 1, 1) := by decide +kernel
theorem dX12_hold_52 : decode cX12_hold 52 = .ok (.iadd, 1) := by decide +kernel
theorem dX12_hold_53 : decode cX12_hold 53 = .ok (.iaload, 1) := by decide +kernel
theorem dX12_hold_54 : decode cX12_hold 54 = .ok (.iastore, 1) := by decide +kernel
theorem dX12_hold_55 : decode cX12_hold 55 = .ok (.aload_n 0, 1) := by decide +kernel
theorem dX12_hold_56 : decode cX12_hold 56 = .ok (.getfield 106, 3) := by decide +kernel
theorem dX12_hold_59 : decode cX12_hold 59 = .ok (.iload_n 1, 1) := by decide +kernel
theorem dX12_hold_60 : decode cX12_hold 60 = .ok (.aload_n 0, 1) := by decide +kernel
theorem dX12_hold_61 : decode cX12_hold 61 = .ok (.getfield 106, 3) := by decide +kernel
theorem dX12_hold_64 : decode cX12_hold 64 = .ok (.iload_n 1, 1) := by decide +kernel
theorem dX12_hold_65 : decode cX12_hold 65 = .ok (.iconst 1, 1) := by decide +kernel
theorem dX12_hold_66 : decode cX12_hold 66 = .ok (.iadd, 1) := by decide +kernel
theorem dX12_hold_67 : decode cX12_hold 67 = .ok (.iaload, 1) := by decide +kernel
theorem dX12_hold_68 : decode cX12_hold 68 = .ok (.iastore, 1) := by decide +kernel
theorem dX12_hold_69 : decode cX12_hold 69 = .ok (.aload_n 0, 1) := by decide +kernel
theorem dX12_hold_70 : decode cX12_hold 70 = .ok (.getfield 109, 3) := by decide +kernel
theorem dX12_hold_73 : decode cX12_hold 73 = .ok (.iload_n 1, 1) := by decide +kernel
theorem dX12_hold_74 : decode cX12_hold 74 = .ok (.aload_n 0, 1) := by decide +kernel
theorem dX12_hold_75 : decode cX12_hold 75 = .ok (.getfield 109, 3) := by decide +kernel
theorem dX12_hold_78 : decode cX12_hold 78 = .ok (.iload_n 1, 1) := by decide +kernel
theorem dX12_hold_79 : decode cX12_hold 79 = .ok (.iconst 1, 1) := by decide +kernel
theorem dX12_hold_80 : decode cX12_hold 80 = .ok (.iadd, 1) := by decide +kernel
theorem dX12_hold_81 : decode cX12_hold 81 = .ok (.iaload, 1) := by decide +kernel
theorem dX12_hold_82 : decode cX12_hold 82 = .ok (.iastore, 1) := by decide +kernel
theorem dX12_hold_83 : decode cX12_hold 83 = .ok (.aload_n 0, 1) := by decide +kernel
theorem dX12_hold_84 : decode cX12_hold 84 = .ok (.getfield 112, 3) := by decide +kernel
theorem dX12_hold_87 : decode cX12_hold 87 = .ok (.iload_n 1, 1) := by decide +kernel
theorem dX12_hold_88 : decode cX12_hold 88 = .ok (.aload_n 0, 1) := by decide +kernel
theorem dX12_hold_89 : decode cX12_hold 89 = .ok (.getfield 112, 3) := by decide +kernel
theorem dX12_hold_92 : decode cX12_hold 92 = .ok (.iload_n 1, 1) := by decide +kernel
theorem dX12_hold_93 : decode cX12_hold 93 = .ok (.iconst 1, 1) := by decide +kernel
theorem dX12_hold_94 : decode cX12_hold 94 = .ok (.iadd, 1) := by decide +kernel
theorem dX12_hold_95 : decode cX12_hold 95 = .ok (.laload, 1) := by decide +kernel
theorem dX12_hold_96 : decode cX12_hold 96 = .ok (.lastore, 1) := by decide +kernel
theorem dX12_hold_97 : decode cX12_hold 97 = .ok (.iinc 1 1, 3) := by decide +kernel
theorem dX12_hold_100 : decode cX12_hold 100 = .ok (.goto (-65), 3) := by decide +kernel
theorem dX12_hold_103 : decode cX12_hold 103 = .ok (.aload_n 0, 1) := by decide +kernel
theorem dX12_hold_104 : decode cX12_hold 104 = .ok (.getfield 103, 3) := by decide +kernel
theorem dX12_hold_107 : decode cX12_hold 107 = .ok (.aload_n 0, 1) := by decide +kernel
theorem dX12_hold_108 : decode cX12_hold 108 = .ok (.getfield 530, 3) := by decide +kernel
theorem dX12_hold_111 : decode cX12_hold 111 = .ok (.aload_n 0, 1) := by decide +kernel
theorem dX12_hold_112 : decode cX12_hold 112 = .ok (.getfield 509, 3) := by decide +kernel
theorem dX12_hold_115 : decode cX12_hold 115 = .ok (.iastore, 1) := by decide +kernel
theorem dX12_hold_116 : decode cX12_hold 116 = .ok (.aload_n 0, 1) := by decide +kernel
theorem dX12_hold_117 : decode cX12_hold 117 = .ok (.getfield 106, 3) := by decide +kernel
theorem dX12_hold_120 : decode cX12_hold 120 = .ok (.aload_n 0, 1) := by decide +kernel
theorem dX12_hold_121 : decode cX12_hold 121 = .ok (.getfield 530, 3) := by decide +kernel
theorem dX12_hold_124 : decode cX12_hold 124 = .ok (.aload_n 0, 1) := by decide +kernel
theorem dX12_hold_125 : decode cX12_hold 125 = .ok (.getfield 512, 3) := by decide +kernel
theorem dX12_hold_128 : decode cX12_hold 128 = .ok (.iastore, 1) := by decide +kernel
theorem dX12_hold_129 : decode cX12_hold 129 = .ok (.aload_n 0, 1) := by decide +kernel
theorem dX12_hold_130 : decode cX12_hold 130 = .ok (.getfield 109, 3) := by decide +kernel
theorem dX12_hold_133 : decode cX12_hold 133 = .ok (.aload_n 0, 1) := by decide +kernel
theorem dX12_hold_134 : decode cX12_hold 134 = .ok (.getfield 530, 3) := by decide +kernel
theorem dX12_hold_137 : decode cX12_hold 137 = .ok (.aload_n 0, 1) := by decide +kernel
theorem dX12_hold_138 : decode cX12_hold 138 = .ok (.getfield 100, 3) := by decide +kernel
theorem dX12_hold_141 : decode cX12_hold 141 = .ok (.iconst 0, 1) := by decide +kernel
theorem dX12_hold_142 : decode cX12_hold 142 = .ok (.laload, 1) := by decide +kernel
theorem dX12_hold_143 : decode cX12_hold 143 = .ok (.l2i, 1) := by decide +kernel
theorem dX12_hold_144 : decode cX12_hold 144 = .ok (.iastore, 1) := by decide +kernel
theorem dX12_hold_145 : decode cX12_hold 145 = .ok (.aload_n 0, 1) := by decide +kernel
theorem dX12_hold_146 : decode cX12_hold 146 = .ok (.getfield 112, 3) := by decide +kernel
theorem dX12_hold_149 : decode cX12_hold 149 = .ok (.aload_n 0, 1) := by decide +kernel
theorem dX12_hold_150 : decode cX12_hold 150 = .ok (.getfield 530, 3) := by decide +kernel
theorem dX12_hold_153 : decode cX12_hold 153 = .ok (.aload_n 0, 1) := by decide +kernel
theorem dX12_hold_154 : decode cX12_hold 154 = .ok (.getfield 100, 3) := by decide +kernel
theorem dX12_hold_157 : decode cX12_hold 157 = .ok (.iconst 4, 1) := by decide +kernel
theorem dX12_hold_158 : decode cX12_hold 158 = .ok (.laload, 1) := by decide +kernel
theorem dX12_hold_159 : decode cX12_hold 159 = .ok (.lastore, 1) := by decide +kernel
theorem dX12_hold_160 : decode cX12_hold 160 = .ok (.aload_n 0, 1) := by decide +kernel
theorem dX12_hold_161 : decode cX12_hold 161 = .ok (.dup, 1) := by decide +kernel
theorem dX12_hold_162 : decode cX12_hold 162 = .ok (.getfield 530, 3) := by decide +kernel
theorem dX12_hold_165 : decode cX12_hold 165 = .ok (.iconst 1, 1) := by decide +kernel
theorem dX12_hold_166 : decode cX12_hold 166 = .ok (.iadd, 1) := by decide +kernel
theorem dX12_hold_167 : decode cX12_hold 167 = .ok (.putfield 530, 3) := by decide +kernel
theorem dX12_hold_170 : decode cX12_hold 170 = .ok (.aload_n 0, 1) := by decide +kernel
theorem dX12_hold_171 : decode cX12_hold 171 = .ok (.getfield 530, 3) := by decide +kernel
theorem dX12_hold_174 : decode cX12_hold 174 = .ok (.ireturn, 1) := by decide +kernel
theorem dX12_held_0 : decode cX12_held 0 = .ok (.aload_n 0, 1) := by decide +kernel
theorem dX12_held_1 : decode cX12_held 1 = .ok (.iload_n 1, 1) := by decide +kernel
theorem dX12_held_2 : decode cX12_held 2 = .ok (.invokevirtual 436, 3) := by decide +kernel
theorem dX12_held_5 : decode cX12_held 5 = .ok (.ifCond .eq 18, 3) := by decide +kernel
theorem dX12_held_8 : decode cX12_held 8 = .ok (.iload_n 2, 1) := by decide +kernel
theorem dX12_held_9 : decode cX12_held 9 = .ok (.ifCond .lt 14, 3) := by decide +kernel
theorem dX12_held_12 : decode cX12_held 12 = .ok (.lload_n 3, 1) := by decide +kernel
theorem dX12_held_13 : decode cX12_held 13 = .ok (.lconst 0, 1) := by decide +kernel
theorem dX12_held_14 : decode cX12_held 14 = .ok (.ldc2_w 198, 3) := by decide +kernel
theorem dX12_held_17 : decode cX12_held 17 = .ok (.invokestatic 117, 3) := by decide +kernel
theorem dX12_held_20 : decode cX12_held 20 = .ok (.ifCond .ne 6, 3) := by decide +kernel
theorem dX12_held_23 : decode cX12_held 23 = .ok (.bipush (-2), 2) := by decide +kernel
theorem dX12_held_25 : decode cX12_held 25 = .ok (.ireturn, 1) := by decide +kernel
theorem dX12_held_26 : decode cX12_held 26 = .ok (.iconst (-1), 1) := by decide +kernel
theorem dX12_held_27 : decode cX12_held 27 = .ok (.istore 5, 2) := by decide +kernel
theorem dX12_held_29 : decode cX12_held 29 = .ok (.iconst 0, 1) := by decide +kernel
theorem dX12_held_30 : decode cX12_held 30 = .ok (.istore 6, 2) := by decide +kernel
theorem dX12_held_32 : decode cX12_held 32 = .ok (.iload 6, 2) := by decide +kernel
theorem dX12_held_34 : decode cX12_held 34 = .ok (.aload_n 0, 1) := by decide +kernel
theorem dX12_held_35 : decode cX12_held 35 = .ok (.getfield 530, 3) := by decide +kernel
theorem dX12_held_38 : decode cX12_held 38 = .ok (.if_icmp .ge 40, 3) := by decide +kernel
theorem dX12_held_41 : decode cX12_held 41 = .ok (.aload_n 0, 1) := by decide +kernel
theorem dX12_held_42 : decode cX12_held 42 = .ok (.getfield 103, 3) := by decide +kernel
theorem dX12_held_45 : decode cX12_held 45 = .ok (.iload 6, 2) := by decide +kernel
theorem dX12_held_47 : decode cX12_held 47 = .ok (.iaload, 1) := by decide +kernel
theorem dX12_held_48 : decode cX12_held 48 = .ok (.iload_n 1, 1) := by decide +kernel
theorem dX12_held_49 : decode cX12_held 49 = .ok (.if_icmp .ne 19, 3) := by decide +kernel
theorem dX12_held_52 : decode cX12_held 52 = .ok (.aload_n 0, 1) := by decide +kernel
theorem dX12_held_53 : decode cX12_held 53 = .ok (.getfield 106, 3) := by decide +kernel
theorem dX12_held_56 : decode cX12_held 56 = .ok (.iload 6, 2) := by decide +kernel
theorem dX12_held_58 : decode cX12_held 58 = .ok (.iaload, 1) := by decide +kernel
theorem dX12_held_59 : decode cX12_held 59 = .ok (.iload_n 2, 1) := by decide +kernel
theorem dX12_held_60 : decode cX12_held 60 = .ok (.if_icmp .ne 8, 3) := by decide +kernel
theorem dX12_held_63 : decode cX12_held 63 = .ok (.iload 6, 2) := by decide +kernel
theorem dX12_held_65 : decode cX12_held 65 = .ok (.goto 5, 3) := by decide +kernel
theorem dX12_held_68 : decode cX12_held 68 = .ok (.iload 5, 2) := by decide +kernel
theorem dX12_held_70 : decode cX12_held 70 = .ok (.istore 5, 2) := by decide +kernel
theorem dX12_held_72 : decode cX12_held 72 = .ok (.iinc 6 1, 3) := by decide +kernel
theorem dX12_held_75 : decode cX12_held 75 = .ok (.goto (-43), 3) := by decide +kernel
theorem dX12_held_78 : decode cX12_held 78 = .ok (.iload 5, 2) := by decide +kernel
theorem dX12_held_80 : decode cX12_held 80 = .ok (.iconst (-1), 1) := by decide +kernel
theorem dX12_held_81 : decode cX12_held 81 = .ok (.if_icmp .eq 15, 3) := by decide +kernel
theorem dX12_held_84 : decode cX12_held 84 = .ok (.lload_n 3, 1) := by decide +kernel
theorem dX12_held_85 : decode cX12_held 85 = .ok (.aload_n 0, 1) := by decide +kernel
theorem dX12_held_86 : decode cX12_held 86 = .ok (.getfield 112, 3) := by decide +kernel
theorem dX12_held_89 : decode cX12_held 89 = .ok (.iload 5, 2) := by decide +kernel
theorem dX12_held_91 : decode cX12_held 91 = .ok (.laload, 1) := by decide +kernel
theorem dX12_held_92 : decode cX12_held 92 = .ok (.lcmp, 1) := by decide +kernel
theorem dX12_held_93 : decode cX12_held 93 = .ok (.ifCond .le 7, 3) := by decide +kernel
theorem dX12_held_96 : decode cX12_held 96 = .ok (.iconst 0, 1) := by decide +kernel
theorem dX12_held_97 : decode cX12_held 97 = .ok (.goto 10, 3) := by decide +kernel
theorem dX12_held_100 : decode cX12_held 100 = .ok (.aload_n 0, 1) := by decide +kernel
theorem dX12_held_101 : decode cX12_held 101 = .ok (.getfield 109, 3) := by decide +kernel
theorem dX12_held_104 : decode cX12_held 104 = .ok (.iload 5, 2) := by decide +kernel
theorem dX12_held_106 : decode cX12_held 106 = .ok (.iaload, 1) := by decide +kernel
theorem dX12_held_107 : decode cX12_held 107 = .ok (.ireturn, 1) := by decide +kernel
theorem dX12_key_0 : decode cX12_key 0 = .ok (.iload_n 1, 1) := by decide +kernel
theorem dX12_key_1 : decode cX12_key 1 = .ok (.ifCond .ne 19, 3) := by decide +kernel
theorem dX12_key_4 : decode cX12_key 4 = .ok (.aload_n 0, 1) := by decide +kernel
theorem dX12_key_5 : decode cX12_key 5 = .ok (.iload_n 2, 1) := by decide +kernel
theorem dX12_key_6 : decode cX12_key 6 = .ok (.invokevirtual 436, 3) := by decide +kernel
theorem dX12_key_9 : decode cX12_key 9 = .ok (.ifCond .eq 11, 3) := by decide +kernel
theorem dX12_key_12 : decode cX12_key 12 = .ok (.aload_n 0, 1) := by decide +kernel
theorem dX12_key_13 : decode cX12_key 13 = .ok (.getfield 27, 3) := by decide +kernel
theorem dX12_key_16 : decode cX12_key 16 = .ok (.iload_n 2, 1) := by decide +kernel
theorem dX12_key_17 : decode cX12_key 17 = .ok (.laload, 1) := by decide +kernel
theorem dX12_key_18 : decode cX12_key 18 = .ok (.l2i, 1) := by decide +kernel
theorem dX12_key_19 : decode cX12_key 19 = .ok (.ireturn, 1) := by decide +kernel
theorem dX12_key_20 : decode cX12_key 20 = .ok (.iload_n 1, 1) := by decide +kernel
theorem dX12_key_21 : decode cX12_key 21 = .ok (.iconst 1, 1) := by decide +kernel
theorem dX12_key_22 : decode cX12_key 22 = .ok (.if_icmp .ne 29, 3) := by decide +kernel
theorem dX12_key_25 : decode cX12_key 25 = .ok (.iload_n 2, 1) := by decide +kernel
theorem dX12_key_26 : decode cX12_key 26 = .ok (.i2l, 1) := by decide +kernel
theorem dX12_key_27 : decode cX12_key 27 = .ok (.lconst 0, 1) := by decide +kernel
theorem dX12_key_28 : decode cX12_key 28 = .ok (.aload_n 0, 1) := by decide +kernel
theorem dX12_key_29 : decode cX12_key 29 = .ok (.getfield 445, 3) := by decide +kernel
theorem dX12_key_32 : decode cX12_key 32 = .ok (.iconst 1, 1) := by decide +kernel
theorem dX12_key_33 : decode cX12_key 33 = .ok (.isub, 1) := by decide +kernel
theorem dX12_key_34 : decode cX12_key 34 = .ok (.i2l, 1) := by decide +kernel
theorem dX12_key_35 : decode cX12_key 35 = .ok (.invokestatic 117, 3) := by decide +kernel
theorem dX12_key_38 : decode cX12_key 38 = .ok (.ifCond .eq 13, 3) := by decide +kernel
theorem dX12_key_41 : decode cX12_key 41 = .ok (.aload_n 0, 1) := by decide +kernel
theorem dX12_key_42 : decode cX12_key 42 = .ok (.getfield 48, 3) := by decide +kernel
theorem dX12_key_45 : decode cX12_key 45 = .ok (.iload_n 2, 1) := by decide +kernel
theorem dX12_key_46 : decode cX12_key 46 = .ok (.laload, 1) := by decide +kernel
theorem dX12_key_47 : decode cX12_key 47 = .ok (.l2i, 1) := by decide +kernel
theorem dX12_key_48 : decode cX12_key 48 = .ok (.goto 5, 3) := by decide +kernel
theorem dX12_key_51 : decode cX12_key 51 = .ok (.bipush (-2), 2) := by decide +kernel
theorem dX12_key_53 : decode cX12_key 53 = .ok (.ireturn, 1) := by decide +kernel
theorem dX12_told_0 : decode cX12_told 0 = .ok (.iload_n 1, 1) := by decide +kernel
theorem dX12_told_1 : decode cX12_told 1 = .ok (.tableswitch 87 0 7 #[47, 52, 57, 62, 67, 72, 77, 82], 47) := by decide +kernel
theorem dX12_told_48 : decode cX12_told 48 = .ok (.aload_n 0, 1) := by decide +kernel
theorem dX12_told_49 : decode cX12_told 49 = .ok (.getfield 427, 3) := by decide +kernel
theorem dX12_told_52 : decode cX12_told 52 = .ok (.ireturn, 1) := by decide +kernel
theorem dX12_told_53 : decode cX12_told 53 = .ok (.aload_n 0, 1) := by decide +kernel
theorem dX12_told_54 : decode cX12_told 54 = .ok (.getfield 445, 3) := by decide +kernel
theorem dX12_told_57 : decode cX12_told 57 = .ok (.ireturn, 1) := by decide +kernel
theorem dX12_told_58 : decode cX12_told 58 = .ok (.aload_n 0, 1) := by decide +kernel
theorem dX12_told_59 : decode cX12_told 59 = .ok (.getfield 462, 3) := by decide +kernel
theorem dX12_told_62 : decode cX12_told 62 = .ok (.ireturn, 1) := by decide +kernel
theorem dX12_told_63 : decode cX12_told 63 = .ok (.aload_n 0, 1) := by decide +kernel
theorem dX12_told_64 : decode cX12_told 64 = .ok (.getfield 121, 3) := by decide +kernel
theorem dX12_told_67 : decode cX12_told 67 = .ok (.ireturn, 1) := by decide +kernel
theorem dX12_told_68 : decode cX12_told 68 = .ok (.aload_n 0, 1) := by decide +kernel
theorem dX12_told_69 : decode cX12_told 69 = .ok (.getfield 530, 3) := by decide +kernel
theorem dX12_told_72 : decode cX12_told 72 = .ok (.ireturn, 1) := by decide +kernel
theorem dX12_told_73 : decode cX12_told 73 = .ok (.aload_n 0, 1) := by decide +kernel
theorem dX12_told_74 : decode cX12_told 74 = .ok (.getfield 492, 3) := by decide +kernel
theorem dX12_told_77 : decode cX12_told 77 = .ok (.ireturn, 1) := by decide +kernel
theorem dX12_told_78 : decode cX12_told 78 = .ok (.aload_n 0, 1) := by decide +kernel
theorem dX12_told_79 : decode cX12_told 79 = .ok (.getfield 479, 3) := by decide +kernel
theorem dX12_told_82 : decode cX12_told 82 = .ok (.ireturn, 1) := by decide +kernel
theorem dX12_told_83 : decode cX12_told 83 = .ok (.aload_n 0, 1) := by decide +kernel
theorem dX12_told_84 : decode cX12_told 84 = .ok (.getfield 521, 3) := by decide +kernel
theorem dX12_told_87 : decode cX12_told 87 = .ok (.ireturn, 1) := by decide +kernel
theorem dX12_told_88 : decode cX12_told 88 = .ok (.bipush (-2), 2) := by decide +kernel
theorem dX12_told_90 : decode cX12_told 90 = .ok (.ireturn, 1) := by decide +kernel
