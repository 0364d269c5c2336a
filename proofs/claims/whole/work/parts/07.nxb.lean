theorem dX10_seconds_77 : decode cX10_seconds 77 = .ok (.ifCond .gt 17, 3) := by decide +kernel
theorem dX10_seconds_80 : decode cX10_seconds 80 = .ok (.iload 4, 2) := by decide +kernel
theorem dX10_seconds_82 : decode cX10_seconds 82 = .ok (.ifCond .lt 12, 3) := by decide +kernel
theorem dX10_seconds_85 : decode cX10_seconds 85 = .ok (.iload 4, 2) := by decide +kernel
theorem dX10_seconds_87 : decode cX10_seconds 87 = .ok (.getstatic 21, 3) := by decide +kernel
theorem dX10_seconds_90 : decode cX10_seconds 90 = .ok (.arraylength, 1) := by decide +kernel
theorem dX10_seconds_91 : decode cX10_seconds 91 = .ok (.if_icmp .lt 7, 3) := by decide +kernel
theorem dX10_seconds_94 : decode cX10_seconds 94 = .ok (.ldc2_w 51, 3) := by decide +kernel
theorem dX10_seconds_97 : decode cX10_seconds 97 = .ok (.lreturn, 1) := by decide +kernel
theorem dX10_seconds_98 : decode cX10_seconds 98 = .ok (.lload_n 2, 1) := by decide +kernel
theorem dX10_seconds_99 : decode cX10_seconds 99 = .ok (.ldc2_w 27, 3) := by decide +kernel
theorem dX10_seconds_102 : decode cX10_seconds 102 = .ok (.lrem, 1) := by decide +kernel
theorem dX10_seconds_103 : decode cX10_seconds 103 = .ok (.lconst 0, 1) := by decide +kernel
theorem dX10_seconds_104 : decode cX10_seconds 104 = .ok (.lcmp, 1) := by decide +kernel
theorem dX10_seconds_105 : decode cX10_seconds 105 = .ok (.ifCond .ne 7, 3) := by decide +kernel
theorem dX10_seconds_108 : decode cX10_seconds 108 = .ok (.iconst 1, 1) := by decide +kernel
theorem dX10_seconds_109 : decode cX10_seconds 109 = .ok (.goto 4, 3) := by decide +kernel
theorem dX10_seconds_112 : decode cX10_seconds 112 = .ok (.iconst 0, 1) := by decide +kernel
theorem dX10_seconds_113 : decode cX10_seconds 113 = .ok (.istore 13, 2) := by decide +kernel
theorem dX10_seconds_115 : decode cX10_seconds 115 = .ok (.getstatic 21, 3) := by decide +kernel
theorem dX10_seconds_118 : decode cX10_seconds 118 = .ok (.iload 4, 2) := by decide +kernel
theorem dX10_seconds_120 : decode cX10_seconds 120 = .ok (.iaload, 1) := by decide +kernel
theorem dX10_seconds_121 : decode cX10_seconds 121 = .ok (.iload 4, 2) := by decide +kernel
theorem dX10_seconds_123 : decode cX10_seconds 123 = .ok (.iconst 1, 1) := by decide +kernel
theorem dX10_seconds_124 : decode cX10_seconds 124 = .ok (.if_icmp .ne 8, 3) := by decide +kernel
theorem dX10_seconds_127 : decode cX10_seconds 127 = .ok (.iload 13, 2) := by decide +kernel
theorem dX10_seconds_129 : decode cX10_seconds 129 = .ok (.goto 4, 3) := by decide +kernel
theorem dX10_seconds_132 : decode cX10_seconds 132 = .ok (.iconst 0, 1) := by decide +kernel
theorem dX10_seconds_133 : decode cX10_seconds 133 = .ok (.iadd, 1) := by decide +kernel
theorem dX10_seconds_134 : decode cX10_seconds 134 = .ok (.istore 14, 2) := by decide +kernel
theorem dX10_seconds_136 : decode cX10_seconds 136 = .ok (.lload 5, 2) := by decide +kernel
theorem dX10_seconds_138 : decode cX10_seconds 138 = .ok (.lconst 0, 1) := by decide +kernel
theorem dX10_seconds_139 : decode cX10_seconds 139 = .ok (.lcmp, 1) := by decide +kernel
theorem dX10_seconds_140 : decode cX10_seconds 140 = .ok (.ifCond .lt 39, 3) := by decide +kernel
theorem dX10_seconds_143 : decode cX10_seconds 143 = .ok (.lload 5, 2) := by decide +kernel
theorem dX10_seconds_145 : decode cX10_seconds 145 = .ok (.iload 14, 2) := by decide +kernel
theorem dX10_seconds_147 : decode cX10_seconds 147 = .ok (.i2l, 1) := by decide +kernel
theorem dX10_seconds_148 : decode cX10_seconds 148 = .ok (.lcmp, 1) := by decide +kernel
theorem dX10_seconds_149 : decode cX10_seconds 149 = .ok (.ifCond .ge 30, 3) := by decide +kernel
theorem dX10_seconds_152 : decode cX10_seconds 152 = .ok (.lload 7, 2) := by decide +kernel
theorem dX10_seconds_154 : decode cX10_seconds 154 = .ok (.ldc2_w 53, 3) := by decide +kernel
theorem dX10_seconds_157 : decode cX10_seconds 157 = .ok (.lcmp, 1) := by decide +kernel
theorem dX10_seconds_158 : decode cX10_seconds 158 = .ok (.ifCond .gt 21, 3) := by decide +kernel
theorem dX10_seconds_161 : decode cX10_seconds 161 = .ok (.lload 9, 2) := by decide +kernel
theorem dX10_seconds_163 : decode cX10_seconds 163 = .ok (.ldc2_w 55, 3) := by decide +kernel
theorem dX10_seconds_166 : decode cX10_seconds 166 = .ok (.lcmp, 1) := by decide +kernel
theorem dX10_seconds_167 : decode cX10_seconds 167 = .ok (.ifCond .gt 12, 3) := by decide +kernel
theorem dX10_seconds_170 : decode cX10_seconds 170 = .ok (.lload 11, 2) := by decide +kernel
theorem dX10_seconds_172 : decode cX10_seconds 172 = .ok (.ldc2_w 55, 3) := by decide +kernel
theorem dX10_seconds_175 : decode cX10_seconds 175 = .ok (.lcmp, 1) := by decide +kernel
theorem dX10_seconds_176 : decode cX10_seconds 176 = .ok (.ifCond .le 7, 3) := by decide +kernel
theorem dX10_seconds_179 : decode cX10_seconds 179 = .ok (.ldc2_w 51, 3) := by decide +kernel
theorem dX10_seconds_182 : decode cX10_seconds 182 = .ok (.lreturn, 1) := by decide +kernel
theorem dX10_seconds_183 : decode cX10_seconds 183 = .ok (.lload_n 2, 1) := by decide +kernel
theorem dX10_seconds_184 : decode cX10_seconds 184 = .ok (.ldc2_w 19, 3) := by decide +kernel
theorem dX10_seconds_187 : decode cX10_seconds 187 = .ok (.lmul, 1) := by decide +kernel
theorem dX10_seconds_188 : decode cX10_seconds 188 = .ok (.lload_n 2, 1) := by decide +kernel
theorem dX10_seconds_189 : decode cX10_seconds 189 = .ok (.ldc2_w 57, 3) := by decide +kernel
theorem dX10_seconds_192 : decode cX10_seconds 192 = .ok (.ladd, 1) := by decide +kernel
theorem dX10_seconds_193 : decode cX10_seconds 193 = .ok (.ldc2_w 27, 3) := by decide +kernel
theorem dX10_seconds_196 : decode cX10_seconds 196 = .ok (.ldiv, 1) := by decide +kernel
theorem dX10_seconds_197 : decode cX10_seconds 197 = .ok (.ladd, 1) := by decide +kernel
theorem dX10_seconds_198 : decode cX10_seconds 198 = .ok (.lload 5, 2) := by decide +kernel
theorem dX10_seconds_200 : decode cX10_seconds 200 = .ok (.ladd, 1) := by decide +kernel
theorem dX10_seconds_201 : decode cX10_seconds 201 = .ok (.iload 4, 2) := by decide +kernel
theorem dX10_seconds_203 : decode cX10_seconds 203 = .ok (.iconst 1, 1) := by decide +kernel
theorem dX10_seconds_204 : decode cX10_seconds 204 = .ok (.if_icmp .le 8, 3) := by decide +kernel
theorem dX10_seconds_207 : decode cX10_seconds 207 = .ok (.iload 13, 2) := by decide +kernel
theorem dX10_seconds_209 : decode cX10_seconds 209 = .ok (.goto 4, 3) := by decide +kernel
theorem dX10_seconds_212 : decode cX10_seconds 212 = .ok (.iconst 0, 1) := by decide +kernel
theorem dX10_seconds_213 : decode cX10_seconds 213 = .ok (.i2l, 1) := by decide +kernel
theorem dX10_seconds_214 : decode cX10_seconds 214 = .ok (.ladd, 1) := by decide +kernel
theorem dX10_seconds_215 : decode cX10_seconds 215 = .ok (.lstore 15, 2) := by decide +kernel
theorem dX10_seconds_217 : decode cX10_seconds 217 = .ok (.iconst 0, 1) := by decide +kernel
theorem dX10_seconds_218 : decode cX10_seconds 218 = .ok (.istore 17, 2) := by decide +kernel
theorem dX10_seconds_220 : decode cX10_seconds 220 = .ok (.iload 17, 2) := by decide +kernel
theorem dX10_seconds_222 : decode cX10_seconds 222 = .ok (.iload 4, 2) := by decide +kernel
theorem dX10_seconds_224 : decode cX10_seconds 224 = .ok (.if_icmp .ge 21, 3) := by decide +kernel
theorem dX10_seconds_227 : decode cX10_seconds 227 = .ok (.lload 15, 2) := by decide +kernel
theorem dX10_seconds_229 : decode cX10_seconds 229 = .ok (.getstatic 21, 3) := by decide +kernel
theorem dX10_seconds_232 : decode cX10_seconds 232 = .ok (.iload 17, 2) := by decide +kernel
theorem dX10_seconds_234 : decode cX10_seconds 234 = .ok (.iaload, 1) := by decide +kernel
theorem dX10_seconds_235 : decode cX10_seconds 235 = .ok (.i2l, 1) := by decide +kernel
theorem dX10_seconds_236 : decode cX10_seconds 236 = .ok (.ladd, 1) := by decide +kernel
theorem dX10_seconds_237 : decode cX10_seconds 237 = .ok (.lstore 15, 2) := by decide +kernel
theorem dX10_seconds_239 : decode cX10_seconds 239 = .ok (.iinc 17 1, 3) := by decide +kernel
theorem dX10_seconds_242 : decode cX10_seconds 242 = .ok (.goto (-22), 3) := by decide +kernel
theorem dX10_seconds_245 : decode cX10_seconds 245 = .ok (.lload 15, 2) := by decide +kernel
theorem dX10_seconds_247 : decode cX10_seconds 247 = .ok (.ldc2_w 13, 3) := by decide +kernel
theorem dX10_seconds_250 : decode cX10_seconds 250 = .ok (.lmul, 1) := by decide +kernel
theorem dX10_seconds_251 : decode cX10_seconds 251 = .ok (.lload 7, 2) := by decide +kernel
theorem dX10_seconds_253 : decode cX10_seconds 253 = .ok (.ldc2_w 33, 3) := by decide +kernel
theorem dX10_seconds_256 : decode cX10_seconds 256 = .ok (.lmul, 1) := by decide +kernel
theorem dX10_seconds_257 : decode cX10_seconds 257 = .ok (.ladd, 1) := by decide +kernel
theorem dX10_seconds_258 : decode cX10_seconds 258 = .ok (.lload 9, 2) := by decide +kernel
theorem dX10_seconds_260 : decode cX10_seconds 260 = .ok (.ldc2_w 35, 3) := by decide +kernel
theorem dX10_seconds_263 : decode cX10_seconds 263 = .ok (.lmul, 1) := by decide +kernel
theorem dX10_seconds_264 : decode cX10_seconds 264 = .ok (.ladd, 1) := by decide +kernel
theorem dX10_seconds_265 : decode cX10_seconds 265 = .ok (.lload 11, 2) := by decide +kernel
theorem dX10_seconds_267 : decode cX10_seconds 267 = .ok (.ladd, 1) := by decide +kernel
theorem dX10_seconds_268 : decode cX10_seconds 268 = .ok (.lreturn, 1) := by decide +kernel
