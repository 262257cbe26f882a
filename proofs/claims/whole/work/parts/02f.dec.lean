set_option maxRecDepth 100000 in
theorem dX7_picks_19 : decode cX7_picks 19 = .ok (.iload 4, 2) := by decide +kernel
set_option maxRecDepth 100000 in
theorem dX7_picks_21 : decode cX7_picks 21 = .ok (.iaload, 1) := by decide +kernel
set_option maxRecDepth 100000 in
theorem dX7_picks_22 : decode cX7_picks 22 = .ok (.iconst 1, 1) := by decide +kernel
set_option maxRecDepth 100000 in
theorem dX7_picks_23 : decode cX7_picks 23 = .ok (.if_icmp .eq 6, 3) := by decide +kernel
set_option maxRecDepth 100000 in
theorem dX7_picks_26 : decode cX7_picks 26 = .ok (.goto 93, 3) := by decide +kernel
set_option maxRecDepth 100000 in
theorem dX7_picks_29 : decode cX7_picks 29 = .ok (.iload_n 3, 1) := by decide +kernel
set_option maxRecDepth 100000 in
theorem dX7_picks_30 : decode cX7_picks 30 = .ok (.istore 5, 2) := by decide +kernel
set_option maxRecDepth 100000 in
theorem dX7_picks_32 : decode cX7_picks 32 = .ok (.iload 5, 2) := by decide +kernel
set_option maxRecDepth 100000 in
theorem dX7_picks_34 : decode cX7_picks 34 = .ok (.ifCond .le 73, 3) := by decide +kernel
set_option maxRecDepth 100000 in
theorem dX7_picks_37 : decode cX7_picks 37 = .ok (.aload_n 0, 1) := by decide +kernel
set_option maxRecDepth 100000 in
theorem dX7_picks_38 : decode cX7_picks 38 = .ok (.getfield 120, 3) := by decide +kernel
set_option maxRecDepth 100000 in
theorem dX7_picks_41 : decode cX7_picks 41 = .ok (.iload 4, 2) := by decide +kernel
set_option maxRecDepth 100000 in
theorem dX7_picks_43 : decode cX7_picks 43 = .ok (.laload, 1) := by decide +kernel
set_option maxRecDepth 100000 in
theorem dX7_picks_44 : decode cX7_picks 44 = .ok (.aload_n 0, 1) := by decide +kernel
set_option maxRecDepth 100000 in
theorem dX7_picks_45 : decode cX7_picks 45 = .ok (.getfield 123, 3) := by decide +kernel
set_option maxRecDepth 100000 in
theorem dX7_picks_48 : decode cX7_picks 48 = .ok (.aload_n 0, 1) := by decide +kernel
set_option maxRecDepth 100000 in
theorem dX7_picks_49 : decode cX7_picks 49 = .ok (.getfield 126, 3) := by decide +kernel
set_option maxRecDepth 100000 in
theorem dX7_picks_52 : decode cX7_picks 52 = .ok (.iload 5, 2) := by decide +kernel
set_option maxRecDepth 100000 in
theorem dX7_picks_54 : decode cX7_picks 54 = .ok (.iconst 1, 1) := by decide +kernel
set_option maxRecDepth 100000 in
theorem dX7_picks_55 : decode cX7_picks 55 = .ok (.isub, 1) := by decide +kernel
set_option maxRecDepth 100000 in
theorem dX7_picks_56 : decode cX7_picks 56 = .ok (.iaload, 1) := by decide +kernel
set_option maxRecDepth 100000 in
theorem dX7_picks_57 : decode cX7_picks 57 = .ok (.laload, 1) := by decide +kernel
set_option maxRecDepth 100000 in
theorem dX7_picks_58 : decode cX7_picks 58 = .ok (.lmul, 1) := by decide +kernel
set_option maxRecDepth 100000 in
theorem dX7_picks_59 : decode cX7_picks 59 = .ok (.aload_n 0, 1) := by decide +kernel
set_option maxRecDepth 100000 in
theorem dX7_picks_60 : decode cX7_picks 60 = .ok (.getfield 120, 3) := by decide +kernel
set_option maxRecDepth 100000 in
theorem dX7_picks_63 : decode cX7_picks 63 = .ok (.aload_n 0, 1) := by decide +kernel
set_option maxRecDepth 100000 in
theorem dX7_picks_64 : decode cX7_picks 64 = .ok (.getfield 126, 3) := by decide +kernel
set_option maxRecDepth 100000 in
theorem dX7_picks_67 : decode cX7_picks 67 = .ok (.iload 5, 2) := by decide +kernel
set_option maxRecDepth 100000 in
theorem dX7_picks_69 : decode cX7_picks 69 = .ok (.iconst 1, 1) := by decide +kernel
set_option maxRecDepth 100000 in
theorem dX7_picks_70 : decode cX7_picks 70 = .ok (.isub, 1) := by decide +kernel
set_option maxRecDepth 100000 in
theorem dX7_picks_71 : decode cX7_picks 71 = .ok (.iaload, 1) := by decide +kernel
set_option maxRecDepth 100000 in
theorem dX7_picks_72 : decode cX7_picks 72 = .ok (.laload, 1) := by decide +kernel
set_option maxRecDepth 100000 in
theorem dX7_picks_73 : decode cX7_picks 73 = .ok (.aload_n 0, 1) := by decide +kernel
set_option maxRecDepth 100000 in
theorem dX7_picks_74 : decode cX7_picks 74 = .ok (.getfield 123, 3) := by decide +kernel
set_option maxRecDepth 100000 in
theorem dX7_picks_77 : decode cX7_picks 77 = .ok (.iload 4, 2) := by decide +kernel
set_option maxRecDepth 100000 in
theorem dX7_picks_79 : decode cX7_picks 79 = .ok (.laload, 1) := by decide +kernel
set_option maxRecDepth 100000 in
theorem dX7_picks_80 : decode cX7_picks 80 = .ok (.lmul, 1) := by decide +kernel
set_option maxRecDepth 100000 in
theorem dX7_picks_81 : decode cX7_picks 81 = .ok (.lcmp, 1) := by decide +kernel
set_option maxRecDepth 100000 in
theorem dX7_picks_82 : decode cX7_picks 82 = .ok (.ifCond .le 25, 3) := by decide +kernel
set_option maxRecDepth 100000 in
theorem dX7_picks_85 : decode cX7_picks 85 = .ok (.aload_n 0, 1) := by decide +kernel
set_option maxRecDepth 100000 in
theorem dX7_picks_86 : decode cX7_picks 86 = .ok (.getfield 126, 3) := by decide +kernel
set_option maxRecDepth 100000 in
theorem dX7_picks_89 : decode cX7_picks 89 = .ok (.iload 5, 2) := by decide +kernel
set_option maxRecDepth 100000 in
theorem dX7_picks_91 : decode cX7_picks 91 = .ok (.aload_n 0, 1) := by decide +kernel
set_option maxRecDepth 100000 in
theorem dX7_picks_92 : decode cX7_picks 92 = .ok (.getfield 126, 3) := by decide +kernel
set_option maxRecDepth 100000 in
theorem dX7_picks_95 : decode cX7_picks 95 = .ok (.iload 5, 2) := by decide +kernel
set_option maxRecDepth 100000 in
theorem dX7_picks_97 : decode cX7_picks 97 = .ok (.iconst 1, 1) := by decide +kernel
set_option maxRecDepth 100000 in
theorem dX7_picks_98 : decode cX7_picks 98 = .ok (.isub, 1) := by decide +kernel
set_option maxRecDepth 100000 in
theorem dX7_picks_99 : decode cX7_picks 99 = .ok (.iaload, 1) := by decide +kernel
set_option maxRecDepth 100000 in
theorem dX7_picks_100 : decode cX7_picks 100 = .ok (.iastore, 1) := by decide +kernel
set_option maxRecDepth 100000 in
theorem dX7_picks_101 : decode cX7_picks 101 = .ok (.iinc 5 (-1), 3) := by decide +kernel
set_option maxRecDepth 100000 in
theorem dX7_picks_104 : decode cX7_picks 104 = .ok (.goto (-72), 3) := by decide +kernel
set_option maxRecDepth 100000 in
theorem dX7_picks_107 : decode cX7_picks 107 = .ok (.aload_n 0, 1) := by decide +kernel
set_option maxRecDepth 100000 in
theorem dX7_picks_108 : decode cX7_picks 108 = .ok (.getfield 126, 3) := by decide +kernel
set_option maxRecDepth 100000 in
theorem dX7_picks_111 : decode cX7_picks 111 = .ok (.iload 5, 2) := by decide +kernel
set_option maxRecDepth 100000 in
theorem dX7_picks_113 : decode cX7_picks 113 = .ok (.iload 4, 2) := by decide +kernel
set_option maxRecDepth 100000 in
theorem dX7_picks_115 : decode cX7_picks 115 = .ok (.iastore, 1) := by decide +kernel
set_option maxRecDepth 100000 in
theorem dX7_picks_116 : decode cX7_picks 116 = .ok (.iinc 3 1, 3) := by decide +kernel
set_option maxRecDepth 100000 in
theorem dX7_picks_119 : decode cX7_picks 119 = .ok (.aload_n 0, 1) := by decide +kernel
set_option maxRecDepth 100000 in
theorem dX7_picks_120 : decode cX7_picks 120 = .ok (.getfield 68, 3) := by decide +kernel
set_option maxRecDepth 100000 in
theorem dX7_picks_123 : decode cX7_picks 123 = .ok (.iload 4, 2) := by decide +kernel
set_option maxRecDepth 100000 in
theorem dX7_picks_125 : decode cX7_picks 125 = .ok (.iaload, 1) := by decide +kernel
set_option maxRecDepth 100000 in
theorem dX7_picks_126 : decode cX7_picks 126 = .ok (.istore 4, 2) := by decide +kernel
set_option maxRecDepth 100000 in
theorem dX7_picks_128 : decode cX7_picks 128 = .ok (.goto (-118), 3) := by decide +kernel
set_option maxRecDepth 100000 in
theorem dX7_picks_131 : decode cX7_picks 131 = .ok (.aload_n 0, 1) := by decide +kernel
set_option maxRecDepth 100000 in
theorem dX7_picks_132 : decode cX7_picks 132 = .ok (.getfield 59, 3) := by decide +kernel
set_option maxRecDepth 100000 in
theorem dX7_picks_135 : decode cX7_picks 135 = .ok (.iload_n 1, 1) := by decide +kernel
set_option maxRecDepth 100000 in
theorem dX7_picks_136 : decode cX7_picks 136 = .ok (.iaload, 1) := by decide +kernel
set_option maxRecDepth 100000 in
theorem dX7_picks_137 : decode cX7_picks 137 = .ok (.iconst 4, 1) := by decide +kernel
set_option maxRecDepth 100000 in
theorem dX7_picks_138 : decode cX7_picks 138 = .ok (.if_icmp .eq 13, 3) := by decide +kernel
set_option maxRecDepth 100000 in
theorem dX7_picks_141 : decode cX7_picks 141 = .ok (.aload_n 0, 1) := by decide +kernel
set_option maxRecDepth 100000 in
theorem dX7_picks_142 : decode cX7_picks 142 = .ok (.getfield 59, 3) := by decide +kernel
set_option maxRecDepth 100000 in
theorem dX7_picks_145 : decode cX7_picks 145 = .ok (.iload_n 1, 1) := by decide +kernel
set_option maxRecDepth 100000 in
theorem dX7_picks_146 : decode cX7_picks 146 = .ok (.iaload, 1) := by decide +kernel
set_option maxRecDepth 100000 in
theorem dX7_picks_147 : decode cX7_picks 147 = .ok (.iconst 5, 1) := by decide +kernel
set_option maxRecDepth 100000 in
theorem dX7_picks_148 : decode cX7_picks 148 = .ok (.if_icmp .ne 46, 3) := by decide +kernel
set_option maxRecDepth 100000 in
theorem dX7_picks_151 : decode cX7_picks 151 = .ok (.aload_n 0, 1) := by decide +kernel
set_option maxRecDepth 100000 in
theorem dX7_picks_152 : decode cX7_picks 152 = .ok (.getfield 126, 3) := by decide +kernel
set_option maxRecDepth 100000 in
theorem dX7_picks_155 : decode cX7_picks 155 = .ok (.aload_n 0, 1) := by decide +kernel
set_option maxRecDepth 100000 in
theorem dX7_picks_156 : decode cX7_picks 156 = .ok (.getfield 59, 3) := by decide +kernel
set_option maxRecDepth 100000 in
theorem dX7_picks_159 : decode cX7_picks 159 = .ok (.iload_n 1, 1) := by decide +kernel
set_option maxRecDepth 100000 in
theorem dX7_picks_160 : decode cX7_picks 160 = .ok (.iaload, 1) := by decide +kernel
set_option maxRecDepth 100000 in
theorem dX7_picks_161 : decode cX7_picks 161 = .ok (.iconst 4, 1) := by decide +kernel
set_option maxRecDepth 100000 in
theorem dX7_picks_162 : decode cX7_picks 162 = .ok (.if_icmp .ne 7, 3) := by decide +kernel
set_option maxRecDepth 100000 in
theorem dX7_picks_165 : decode cX7_picks 165 = .ok (.iconst 0, 1) := by decide +kernel
set_option maxRecDepth 100000 in
theorem dX7_picks_166 : decode cX7_picks 166 = .ok (.goto 6, 3) := by decide +kernel
set_option maxRecDepth 100000 in
theorem dX7_picks_169 : decode cX7_picks 169 = .ok (.iload_n 2, 1) := by decide +kernel
set_option maxRecDepth 100000 in
theorem dX7_picks_170 : decode cX7_picks 170 = .ok (.iconst 1, 1) := by decide +kernel
set_option maxRecDepth 100000 in
theorem dX7_picks_171 : decode cX7_picks 171 = .ok (.isub, 1) := by decide +kernel
set_option maxRecDepth 100000 in
theorem dX7_picks_172 : decode cX7_picks 172 = .ok (.iaload, 1) := by decide +kernel
set_option maxRecDepth 100000 in
theorem dX7_picks_173 : decode cX7_picks 173 = .ok (.istore 4, 2) := by decide +kernel
set_option maxRecDepth 100000 in
theorem dX7_picks_175 : decode cX7_picks 175 = .ok (.aload_n 0, 1) := by decide +kernel
set_option maxRecDepth 100000 in
theorem dX7_picks_176 : decode cX7_picks 176 = .ok (.aload_n 0, 1) := by decide +kernel
set_option maxRecDepth 100000 in
theorem dX7_picks_177 : decode cX7_picks 177 = .ok (.getfield 120, 3) := by decide +kernel
set_option maxRecDepth 100000 in
theorem dX7_picks_180 : decode cX7_picks 180 = .ok (.iload 4, 2) := by decide +kernel
set_option maxRecDepth 100000 in
theorem dX7_picks_182 : decode cX7_picks 182 = .ok (.laload, 1) := by decide +kernel
set_option maxRecDepth 100000 in
theorem dX7_picks_183 : decode cX7_picks 183 = .ok (.aload_n 0, 1) := by decide +kernel
set_option maxRecDepth 100000 in
theorem dX7_picks_184 : decode cX7_picks 184 = .ok (.getfield 123, 3) := by decide +kernel
set_option maxRecDepth 100000 in
theorem dX7_picks_187 : decode cX7_picks 187 = .ok (.iload 4, 2) := by decide +kernel
set_option maxRecDepth 100000 in
theorem dX7_picks_189 : decode cX7_picks 189 = .ok (.laload, 1) := by decide +kernel
set_option maxRecDepth 100000 in
theorem dX7_picks_190 : decode cX7_picks 190 = .ok (.invokevirtual 320, 3) := by decide +kernel
set_option maxRecDepth 100000 in
theorem dX7_picks_193 : decode cX7_picks 193 = .ok (.return_, 1) := by decide +kernel
set_option maxRecDepth 100000 in
theorem dX7_picks_194 : decode cX7_picks 194 = .ok (.aload_n 0, 1) := by decide +kernel
set_option maxRecDepth 100000 in
theorem dX7_picks_195 : decode cX7_picks 195 = .ok (.getfield 59, 3) := by decide +kernel
set_option maxRecDepth 100000 in
theorem dX7_picks_198 : decode cX7_picks 198 = .ok (.iload_n 1, 1) := by decide +kernel
set_option maxRecDepth 100000 in
theorem dX7_picks_199 : decode cX7_picks 199 = .ok (.iaload, 1) := by decide +kernel
set_option maxRecDepth 100000 in
theorem dX7_picks_200 : decode cX7_picks 200 = .ok (.bipush 7, 2) := by decide +kernel
set_option maxRecDepth 100000 in
theorem dX7_picks_202 : decode cX7_picks 202 = .ok (.if_icmp .ne 16, 3) := by decide +kernel
set_option maxRecDepth 100000 in
theorem dX7_picks_205 : decode cX7_picks 205 = .ok (.iload_n 2, 1) := by decide +kernel
set_option maxRecDepth 100000 in
theorem dX7_picks_206 : decode cX7_picks 206 = .ok (.aload_n 0, 1) := by decide +kernel
set_option maxRecDepth 100000 in
theorem dX7_picks_207 : decode cX7_picks 207 = .ok (.getfield 62, 3) := by decide +kernel
set_option maxRecDepth 100000 in
theorem dX7_picks_210 : decode cX7_picks 210 = .ok (.iload_n 1, 1) := by decide +kernel
set_option maxRecDepth 100000 in
theorem dX7_picks_211 : decode cX7_picks 211 = .ok (.iaload, 1) := by decide +kernel
set_option maxRecDepth 100000 in
theorem dX7_picks_212 : decode cX7_picks 212 = .ok (.invokestatic 360, 3) := by decide +kernel
set_option maxRecDepth 100000 in
theorem dX7_picks_215 : decode cX7_picks 215 = .ok (.goto 11, 3) := by decide +kernel
set_option maxRecDepth 100000 in
theorem dX7_picks_218 : decode cX7_picks 218 = .ok (.iload_n 2, 1) := by decide +kernel
set_option maxRecDepth 100000 in
theorem dX7_picks_219 : decode cX7_picks 219 = .ok (.aload_n 0, 1) := by decide +kernel
set_option maxRecDepth 100000 in
theorem dX7_picks_220 : decode cX7_picks 220 = .ok (.getfield 62, 3) := by decide +kernel
set_option maxRecDepth 100000 in
theorem dX7_picks_223 : decode cX7_picks 223 = .ok (.iload_n 1, 1) := by decide +kernel
set_option maxRecDepth 100000 in
theorem dX7_picks_224 : decode cX7_picks 224 = .ok (.iaload, 1) := by decide +kernel
set_option maxRecDepth 100000 in
theorem dX7_picks_225 : decode cX7_picks 225 = .ok (.isub, 1) := by decide +kernel
set_option maxRecDepth 100000 in
theorem dX7_picks_226 : decode cX7_picks 226 = .ok (.istore 4, 2) := by decide +kernel
set_option maxRecDepth 100000 in
theorem dX7_picks_228 : decode cX7_picks 228 = .ok (.aload_n 0, 1) := by decide +kernel
set_option maxRecDepth 100000 in
theorem dX7_picks_229 : decode cX7_picks 229 = .ok (.lconst 0, 1) := by decide +kernel
set_option maxRecDepth 100000 in
theorem dX7_picks_230 : decode cX7_picks 230 = .ok (.lconst 1, 1) := by decide +kernel
set_option maxRecDepth 100000 in
theorem dX7_picks_231 : decode cX7_picks 231 = .ok (.invokevirtual 320, 3) := by decide +kernel
set_option maxRecDepth 100000 in
theorem dX7_picks_234 : decode cX7_picks 234 = .ok (.iconst 0, 1) := by decide +kernel
set_option maxRecDepth 100000 in
theorem dX7_picks_235 : decode cX7_picks 235 = .ok (.istore 5, 2) := by decide +kernel
set_option maxRecDepth 100000 in
theorem dX7_picks_237 : decode cX7_picks 237 = .ok (.iload 5, 2) := by decide +kernel
set_option maxRecDepth 100000 in
theorem dX7_picks_239 : decode cX7_picks 239 = .ok (.iload 4, 2) := by decide +kernel
set_option maxRecDepth 100000 in
theorem dX7_picks_241 : decode cX7_picks 241 = .ok (.if_icmp .ge 45, 3) := by decide +kernel
set_option maxRecDepth 100000 in
theorem dX7_picks_244 : decode cX7_picks 244 = .ok (.aload_n 0, 1) := by decide +kernel
set_option maxRecDepth 100000 in
theorem dX7_picks_245 : decode cX7_picks 245 = .ok (.getfield 252, 3) := by decide +kernel
set_option maxRecDepth 100000 in
theorem dX7_picks_248 : decode cX7_picks 248 = .ok (.iconst 1, 1) := by decide +kernel
set_option maxRecDepth 100000 in
theorem dX7_picks_249 : decode cX7_picks 249 = .ok (.if_icmp .ne 37, 3) := by decide +kernel
set_option maxRecDepth 100000 in
theorem dX7_picks_252 : decode cX7_picks 252 = .ok (.aload_n 0, 1) := by decide +kernel
set_option maxRecDepth 100000 in
theorem dX7_picks_253 : decode cX7_picks 253 = .ok (.aload_n 0, 1) := by decide +kernel
set_option maxRecDepth 100000 in
theorem dX7_picks_254 : decode cX7_picks 254 = .ok (.getfield 120, 3) := by decide +kernel
set_option maxRecDepth 100000 in
theorem dX7_picks_257 : decode cX7_picks 257 = .ok (.aload_n 0, 1) := by decide +kernel
set_option maxRecDepth 100000 in
theorem dX7_picks_258 : decode cX7_picks 258 = .ok (.getfield 126, 3) := by decide +kernel
set_option maxRecDepth 100000 in
theorem dX7_picks_261 : decode cX7_picks 261 = .ok (.iload 5, 2) := by decide +kernel
set_option maxRecDepth 100000 in
theorem dX7_picks_263 : decode cX7_picks 263 = .ok (.iaload, 1) := by decide +kernel
set_option maxRecDepth 100000 in
theorem dX7_picks_264 : decode cX7_picks 264 = .ok (.laload, 1) := by decide +kernel
set_option maxRecDepth 100000 in
theorem dX7_picks_265 : decode cX7_picks 265 = .ok (.aload_n 0, 1) := by decide +kernel
set_option maxRecDepth 100000 in
theorem dX7_picks_266 : decode cX7_picks 266 = .ok (.getfield 123, 3) := by decide +kernel
set_option maxRecDepth 100000 in
theorem dX7_picks_269 : decode cX7_picks 269 = .ok (.aload_n 0, 1) := by decide +kernel
set_option maxRecDepth 100000 in
theorem dX7_picks_270 : decode cX7_picks 270 = .ok (.getfield 126, 3) := by decide +kernel
set_option maxRecDepth 100000 in
theorem dX7_picks_273 : decode cX7_picks 273 = .ok (.iload 5, 2) := by decide +kernel
set_option maxRecDepth 100000 in
theorem dX7_picks_275 : decode cX7_picks 275 = .ok (.iaload, 1) := by decide +kernel
set_option maxRecDepth 100000 in
theorem dX7_picks_276 : decode cX7_picks 276 = .ok (.laload, 1) := by decide +kernel
set_option maxRecDepth 100000 in
theorem dX7_picks_277 : decode cX7_picks 277 = .ok (.invokevirtual 357, 3) := by decide +kernel
set_option maxRecDepth 100000 in
theorem dX7_picks_280 : decode cX7_picks 280 = .ok (.iinc 5 1, 3) := by decide +kernel
set_option maxRecDepth 100000 in
theorem dX7_picks_283 : decode cX7_picks 283 = .ok (.goto (-46), 3) := by decide +kernel
set_option maxRecDepth 100000 in
theorem dX7_picks_286 : decode cX7_picks 286 = .ok (.return_, 1) := by decide +kernel
set_option maxRecDepth 100000 in
theorem dX7_isOpen_0 : decode cX7_isOpen 0 = .ok (.aload_n 0, 1) := by decide +kernel
set_option maxRecDepth 100000 in
theorem dX7_isOpen_1 : decode cX7_isOpen 1 = .ok (.getfield 28, 3) := by decide +kernel
set_option maxRecDepth 100000 in
theorem dX7_isOpen_4 : decode cX7_isOpen 4 = .ok (.iload_n 2, 1) := by decide +kernel
set_option maxRecDepth 100000 in
theorem dX7_isOpen_5 : decode cX7_isOpen 5 = .ok (.iaload, 1) := by decide +kernel
set_option maxRecDepth 100000 in
theorem dX7_isOpen_6 : decode cX7_isOpen 6 = .ok (.ifCond .ge 5, 3) := by decide +kernel
set_option maxRecDepth 100000 in
theorem dX7_isOpen_9 : decode cX7_isOpen 9 = .ok (.iconst 1, 1) := by decide +kernel
set_option maxRecDepth 100000 in
theorem dX7_isOpen_10 : decode cX7_isOpen 10 = .ok (.ireturn, 1) := by decide +kernel
set_option maxRecDepth 100000 in
theorem dX7_isOpen_11 : decode cX7_isOpen 11 = .ok (.aload_n 0, 1) := by decide +kernel
set_option maxRecDepth 100000 in
theorem dX7_isOpen_12 : decode cX7_isOpen 12 = .ok (.iload_n 1, 1) := by decide +kernel
set_option maxRecDepth 100000 in
theorem dX7_isOpen_13 : decode cX7_isOpen 13 = .ok (.invokevirtual 246, 3) := by decide +kernel
set_option maxRecDepth 100000 in
theorem dX7_isOpen_16 : decode cX7_isOpen 16 = .ok (.aload_n 0, 1) := by decide +kernel
set_option maxRecDepth 100000 in
theorem dX7_isOpen_17 : decode cX7_isOpen 17 = .ok (.aload_n 0, 1) := by decide +kernel
set_option maxRecDepth 100000 in
theorem dX7_isOpen_18 : decode cX7_isOpen 18 = .ok (.getfield 28, 3) := by decide +kernel
set_option maxRecDepth 100000 in
theorem dX7_isOpen_21 : decode cX7_isOpen 21 = .ok (.iload_n 2, 1) := by decide +kernel
set_option maxRecDepth 100000 in
theorem dX7_isOpen_22 : decode cX7_isOpen 22 = .ok (.iaload, 1) := by decide +kernel
set_option maxRecDepth 100000 in
theorem dX7_isOpen_23 : decode cX7_isOpen 23 = .ok (.invokevirtual 249, 3) := by decide +kernel
set_option maxRecDepth 100000 in
theorem dX7_isOpen_26 : decode cX7_isOpen 26 = .ok (.aload_n 0, 1) := by decide +kernel
set_option maxRecDepth 100000 in
theorem dX7_isOpen_27 : decode cX7_isOpen 27 = .ok (.getfield 252, 3) := by decide +kernel
set_option maxRecDepth 100000 in
theorem dX7_isOpen_30 : decode cX7_isOpen 30 = .ok (.iconst 1, 1) := by decide +kernel
set_option maxRecDepth 100000 in
theorem dX7_isOpen_31 : decode cX7_isOpen 31 = .ok (.if_icmp .ne 27, 3) := by decide +kernel
set_option maxRecDepth 100000 in
theorem dX7_isOpen_34 : decode cX7_isOpen 34 = .ok (.aload_n 0, 1) := by decide +kernel
set_option maxRecDepth 100000 in
theorem dX7_isOpen_35 : decode cX7_isOpen 35 = .ok (.getfield 255, 3) := by decide +kernel
set_option maxRecDepth 100000 in
theorem dX7_isOpen_38 : decode cX7_isOpen 38 = .ok (.aload_n 0, 1) := by decide +kernel
set_option maxRecDepth 100000 in
theorem dX7_isOpen_39 : decode cX7_isOpen 39 = .ok (.getfield 31, 3) := by decide +kernel
set_option maxRecDepth 100000 in
theorem dX7_isOpen_42 : decode cX7_isOpen 42 = .ok (.iload_n 2, 1) := by decide +kernel
set_option maxRecDepth 100000 in
theorem dX7_isOpen_43 : decode cX7_isOpen 43 = .ok (.iaload, 1) := by decide +kernel
set_option maxRecDepth 100000 in
theorem dX7_isOpen_44 : decode cX7_isOpen 44 = .ok (.i2l, 1) := by decide +kernel
set_option maxRecDepth 100000 in
theorem dX7_isOpen_45 : decode cX7_isOpen 45 = .ok (.aload_n 0, 1) := by decide +kernel
set_option maxRecDepth 100000 in
theorem dX7_isOpen_46 : decode cX7_isOpen 46 = .ok (.getfield 259, 3) := by decide +kernel
set_option maxRecDepth 100000 in
theorem dX7_isOpen_49 : decode cX7_isOpen 49 = .ok (.lmul, 1) := by decide +kernel
set_option maxRecDepth 100000 in
theorem dX7_isOpen_50 : decode cX7_isOpen 50 = .ok (.lcmp, 1) := by decide +kernel
set_option maxRecDepth 100000 in
theorem dX7_isOpen_51 : decode cX7_isOpen 51 = .ok (.ifCond .lt 7, 3) := by decide +kernel
set_option maxRecDepth 100000 in
theorem dX7_isOpen_54 : decode cX7_isOpen 54 = .ok (.iconst 1, 1) := by decide +kernel
set_option maxRecDepth 100000 in
theorem dX7_isOpen_55 : decode cX7_isOpen 55 = .ok (.goto 4, 3) := by decide +kernel
set_option maxRecDepth 100000 in
theorem dX7_isOpen_58 : decode cX7_isOpen 58 = .ok (.iconst 0, 1) := by decide +kernel
set_option maxRecDepth 100000 in
theorem dX7_isOpen_59 : decode cX7_isOpen 59 = .ok (.ireturn, 1) := by decide +kernel
set_option maxRecDepth 100000 in
theorem dX7_opens_0 : decode cX7_opens 0 = .ok (.aload_n 0, 1) := by decide +kernel
set_option maxRecDepth 100000 in
theorem dX7_opens_1 : decode cX7_opens 1 = .ok (.iload_n 1, 1) := by decide +kernel
set_option maxRecDepth 100000 in
theorem dX7_opens_2 : decode cX7_opens 2 = .ok (.invokevirtual 151, 3) := by decide +kernel
set_option maxRecDepth 100000 in
theorem dX7_opens_5 : decode cX7_opens 5 = .ok (.ifCond .eq 28, 3) := by decide +kernel
set_option maxRecDepth 100000 in
theorem dX7_opens_8 : decode cX7_opens 8 = .ok (.aload_n 0, 1) := by decide +kernel
set_option maxRecDepth 100000 in
theorem dX7_opens_9 : decode cX7_opens 9 = .ok (.iload_n 2, 1) := by decide +kernel
set_option maxRecDepth 100000 in
theorem dX7_opens_10 : decode cX7_opens 10 = .ok (.invokevirtual 156, 3) := by decide +kernel
set_option maxRecDepth 100000 in
theorem dX7_opens_13 : decode cX7_opens 13 = .ok (.ifCond .eq 20, 3) := by decide +kernel
set_option maxRecDepth 100000 in
theorem dX7_opens_16 : decode cX7_opens 16 = .ok (.aload_n 0, 1) := by decide +kernel
set_option maxRecDepth 100000 in
theorem dX7_opens_17 : decode cX7_opens 17 = .ok (.iload_n 1, 1) := by decide +kernel
set_option maxRecDepth 100000 in
theorem dX7_opens_18 : decode cX7_opens 18 = .ok (.iload_n 2, 1) := by decide +kernel
set_option maxRecDepth 100000 in
theorem dX7_opens_19 : decode cX7_opens 19 = .ok (.invokevirtual 363, 3) := by decide +kernel
set_option maxRecDepth 100000 in
theorem dX7_opens_22 : decode cX7_opens 22 = .ok (.ifCond .eq 7, 3) := by decide +kernel
set_option maxRecDepth 100000 in
theorem dX7_opens_25 : decode cX7_opens 25 = .ok (.iconst 1, 1) := by decide +kernel
set_option maxRecDepth 100000 in
theorem dX7_opens_26 : decode cX7_opens 26 = .ok (.goto 12, 3) := by decide +kernel
set_option maxRecDepth 100000 in
theorem dX7_opens_29 : decode cX7_opens 29 = .ok (.iconst 0, 1) := by decide +kernel
set_option maxRecDepth 100000 in
theorem dX7_opens_30 : decode cX7_opens 30 = .ok (.goto 8, 3) := by decide +kernel
set_option maxRecDepth 100000 in
theorem dX7_opens_33 : decode cX7_opens 33 = .ok (.aload_n 0, 1) := by decide +kernel
set_option maxRecDepth 100000 in
theorem dX7_opens_34 : decode cX7_opens 34 = .ok (.iconst (-1), 1) := by decide +kernel
set_option maxRecDepth 100000 in
theorem dX7_opens_35 : decode cX7_opens 35 = .ok (.invokevirtual 133, 3) := by decide +kernel
set_option maxRecDepth 100000 in
theorem dX7_opens_38 : decode cX7_opens 38 = .ok (.ireturn, 1) := by decide +kernel
set_option maxRecDepth 100000 in
theorem dX7_hands_0 : decode cX7_hands 0 = .ok (.iload_n 1, 1) := by decide +kernel
set_option maxRecDepth 100000 in
theorem dX7_hands_1 : decode cX7_hands 1 = .ok (.iload_n 2, 1) := by decide +kernel
set_option maxRecDepth 100000 in
theorem dX7_hands_2 : decode cX7_hands 2 = .ok (.invokestatic 159, 3) := by decide +kernel
set_option maxRecDepth 100000 in
theorem dX7_hands_5 : decode cX7_hands 5 = .ok (.istore 5, 2) := by decide +kernel
set_option maxRecDepth 100000 in
theorem dX7_hands_7 : decode cX7_hands 7 = .ok (.aload_n 0, 1) := by decide +kernel
set_option maxRecDepth 100000 in
theorem dX7_hands_8 : decode cX7_hands 8 = .ok (.getfield 40, 3) := by decide +kernel
set_option maxRecDepth 100000 in
theorem dX7_hands_11 : decode cX7_hands 11 = .ok (.iconst 3, 1) := by decide +kernel
set_option maxRecDepth 100000 in
theorem dX7_hands_12 : decode cX7_hands 12 = .ok (.iload 5, 2) := by decide +kernel
set_option maxRecDepth 100000 in
theorem dX7_hands_14 : decode cX7_hands 14 = .ok (.imul, 1) := by decide +kernel
set_option maxRecDepth 100000 in
theorem dX7_hands_15 : decode cX7_hands 15 = .ok (.iload_n 3, 1) := by decide +kernel
set_option maxRecDepth 100000 in
theorem dX7_hands_16 : decode cX7_hands 16 = .ok (.iadd, 1) := by decide +kernel
set_option maxRecDepth 100000 in
theorem dX7_hands_17 : decode cX7_hands 17 = .ok (.aload_n 0, 1) := by decide +kernel
set_option maxRecDepth 100000 in
theorem dX7_hands_18 : decode cX7_hands 18 = .ok (.getfield 163, 3) := by decide +kernel
set_option maxRecDepth 100000 in
theorem dX7_hands_21 : decode cX7_hands 21 = .ok (.iastore, 1) := by decide +kernel
set_option maxRecDepth 100000 in
theorem dX7_hands_22 : decode cX7_hands 22 = .ok (.aload_n 0, 1) := by decide +kernel
set_option maxRecDepth 100000 in
theorem dX7_hands_23 : decode cX7_hands 23 = .ok (.getfield 43, 3) := by decide +kernel
set_option maxRecDepth 100000 in
theorem dX7_hands_26 : decode cX7_hands 26 = .ok (.iconst 3, 1) := by decide +kernel
set_option maxRecDepth 100000 in
theorem dX7_hands_27 : decode cX7_hands 27 = .ok (.iload 5, 2) := by decide +kernel
set_option maxRecDepth 100000 in
theorem dX7_hands_29 : decode cX7_hands 29 = .ok (.imul, 1) := by decide +kernel
set_option maxRecDepth 100000 in
theorem dX7_hands_30 : decode cX7_hands 30 = .ok (.iload_n 3, 1) := by decide +kernel
set_option maxRecDepth 100000 in
theorem dX7_hands_31 : decode cX7_hands 31 = .ok (.iadd, 1) := by decide +kernel
set_option maxRecDepth 100000 in
theorem dX7_hands_32 : decode cX7_hands 32 = .ok (.iload 4, 2) := by decide +kernel
set_option maxRecDepth 100000 in
theorem dX7_hands_34 : decode cX7_hands 34 = .ok (.iastore, 1) := by decide +kernel
set_option maxRecDepth 100000 in
theorem dX7_hands_35 : decode cX7_hands 35 = .ok (.aload_n 0, 1) := by decide +kernel
set_option maxRecDepth 100000 in
theorem dX7_hands_36 : decode cX7_hands 36 = .ok (.getfield 37, 3) := by decide +kernel
set_option maxRecDepth 100000 in
theorem dX7_hands_39 : decode cX7_hands 39 = .ok (.iload 5, 2) := by decide +kernel
set_option maxRecDepth 100000 in
theorem dX7_hands_41 : decode cX7_hands 41 = .ok (.dup2, 1) := by decide +kernel
set_option maxRecDepth 100000 in
theorem dX7_hands_42 : decode cX7_hands 42 = .ok (.iaload, 1) := by decide +kernel
set_option maxRecDepth 100000 in
theorem dX7_hands_43 : decode cX7_hands 43 = .ok (.iconst 1, 1) := by decide +kernel
set_option maxRecDepth 100000 in
theorem dX7_hands_44 : decode cX7_hands 44 = .ok (.iadd, 1) := by decide +kernel
set_option maxRecDepth 100000 in
theorem dX7_hands_45 : decode cX7_hands 45 = .ok (.iastore, 1) := by decide +kernel
set_option maxRecDepth 100000 in
theorem dX7_hands_46 : decode cX7_hands 46 = .ok (.aload_n 0, 1) := by decide +kernel
set_option maxRecDepth 100000 in
theorem dX7_hands_47 : decode cX7_hands 47 = .ok (.dup, 1) := by decide +kernel
set_option maxRecDepth 100000 in
theorem dX7_hands_48 : decode cX7_hands 48 = .ok (.getfield 366, 3) := by decide +kernel
set_option maxRecDepth 100000 in
theorem dX7_hands_51 : decode cX7_hands 51 = .ok (.iconst 1, 1) := by decide +kernel
set_option maxRecDepth 100000 in
theorem dX7_hands_52 : decode cX7_hands 52 = .ok (.iadd, 1) := by decide +kernel
set_option maxRecDepth 100000 in
theorem dX7_hands_53 : decode cX7_hands 53 = .ok (.putfield 366, 3) := by decide +kernel
set_option maxRecDepth 100000 in
theorem dX7_hands_56 : decode cX7_hands 56 = .ok (.return_, 1) := by decide +kernel
set_option maxRecDepth 100000 in
theorem dX7_hand_0 : decode cX7_hand 0 = .ok (.aload_n 0, 1) := by decide +kernel
set_option maxRecDepth 100000 in
theorem dX7_hand_1 : decode cX7_hand 1 = .ok (.iload_n 1, 1) := by decide +kernel
set_option maxRecDepth 100000 in
theorem dX7_hand_2 : decode cX7_hand 2 = .ok (.invokevirtual 151, 3) := by decide +kernel
set_option maxRecDepth 100000 in
theorem dX7_hand_5 : decode cX7_hand 5 = .ok (.ifCond .eq 11, 3) := by decide +kernel
set_option maxRecDepth 100000 in
theorem dX7_hand_8 : decode cX7_hand 8 = .ok (.aload_n 0, 1) := by decide +kernel
set_option maxRecDepth 100000 in
theorem dX7_hand_9 : decode cX7_hand 9 = .ok (.iload_n 2, 1) := by decide +kernel
set_option maxRecDepth 100000 in
theorem dX7_hand_10 : decode cX7_hand 10 = .ok (.invokevirtual 156, 3) := by decide +kernel
set_option maxRecDepth 100000 in
theorem dX7_hand_13 : decode cX7_hand 13 = .ok (.ifCond .ne 9, 3) := by decide +kernel
set_option maxRecDepth 100000 in
theorem dX7_hand_16 : decode cX7_hand 16 = .ok (.aload_n 0, 1) := by decide +kernel
set_option maxRecDepth 100000 in
theorem dX7_hand_17 : decode cX7_hand 17 = .ok (.iconst (-1), 1) := by decide +kernel
set_option maxRecDepth 100000 in
theorem dX7_hand_18 : decode cX7_hand 18 = .ok (.invokevirtual 133, 3) := by decide +kernel
set_option maxRecDepth 100000 in
theorem dX7_hand_21 : decode cX7_hand 21 = .ok (.ireturn, 1) := by decide +kernel
set_option maxRecDepth 100000 in
theorem dX7_hand_22 : decode cX7_hand 22 = .ok (.iload_n 1, 1) := by decide +kernel
set_option maxRecDepth 100000 in
theorem dX7_hand_23 : decode cX7_hand 23 = .ok (.iload_n 2, 1) := by decide +kernel
set_option maxRecDepth 100000 in
theorem dX7_hand_24 : decode cX7_hand 24 = .ok (.invokestatic 159, 3) := by decide +kernel
set_option maxRecDepth 100000 in
theorem dX7_hand_27 : decode cX7_hand 27 = .ok (.istore_n 3, 1) := by decide +kernel
set_option maxRecDepth 100000 in
theorem dX7_hand_28 : decode cX7_hand 28 = .ok (.aload_n 0, 1) := by decide +kernel
set_option maxRecDepth 100000 in
theorem dX7_hand_29 : decode cX7_hand 29 = .ok (.getfield 52, 3) := by decide +kernel
set_option maxRecDepth 100000 in
theorem dX7_hand_32 : decode cX7_hand 32 = .ok (.iload_n 3, 1) := by decide +kernel
set_option maxRecDepth 100000 in
theorem dX7_hand_33 : decode cX7_hand 33 = .ok (.baload, 1) := by decide +kernel
set_option maxRecDepth 100000 in
theorem dX7_hand_34 : decode cX7_hand 34 = .ok (.ifCond .ne 12, 3) := by decide +kernel
set_option maxRecDepth 100000 in
theorem dX7_hand_37 : decode cX7_hand 37 = .ok (.aload_n 0, 1) := by decide +kernel
set_option maxRecDepth 100000 in
theorem dX7_hand_38 : decode cX7_hand 38 = .ok (.iload_n 1, 1) := by decide +kernel
set_option maxRecDepth 100000 in
theorem dX7_hand_39 : decode cX7_hand 39 = .ok (.iload_n 2, 1) := by decide +kernel
set_option maxRecDepth 100000 in
theorem dX7_hand_40 : decode cX7_hand 40 = .ok (.invokevirtual 363, 3) := by decide +kernel
set_option maxRecDepth 100000 in
theorem dX7_hand_43 : decode cX7_hand 43 = .ok (.ifCond .ne 10, 3) := by decide +kernel
set_option maxRecDepth 100000 in
theorem dX7_hand_46 : decode cX7_hand 46 = .ok (.aload_n 0, 1) := by decide +kernel
set_option maxRecDepth 100000 in
theorem dX7_hand_47 : decode cX7_hand 47 = .ok (.bipush (-3), 2) := by decide +kernel
set_option maxRecDepth 100000 in
theorem dX7_hand_49 : decode cX7_hand 49 = .ok (.invokevirtual 133, 3) := by decide +kernel
set_option maxRecDepth 100000 in
theorem dX7_hand_52 : decode cX7_hand 52 = .ok (.ireturn, 1) := by decide +kernel
set_option maxRecDepth 100000 in
theorem dX7_hand_53 : decode cX7_hand 53 = .ok (.aload_n 0, 1) := by decide +kernel
set_option maxRecDepth 100000 in
theorem dX7_hand_54 : decode cX7_hand 54 = .ok (.getfield 16, 3) := by decide +kernel
set_option maxRecDepth 100000 in
theorem dX7_hand_57 : decode cX7_hand 57 = .ok (.iload_n 2, 1) := by decide +kernel
set_option maxRecDepth 100000 in
theorem dX7_hand_58 : decode cX7_hand 58 = .ok (.iaload, 1) := by decide +kernel
set_option maxRecDepth 100000 in
theorem dX7_hand_59 : decode cX7_hand 59 = .ok (.tableswitch 121 0 2 #[25, 53, 60], 25) := by decide +kernel
set_option maxRecDepth 100000 in
theorem dX7_hand_84 : decode cX7_hand 84 = .ok (.aload_n 0, 1) := by decide +kernel
set_option maxRecDepth 100000 in
theorem dX7_hand_85 : decode cX7_hand 85 = .ok (.getfield 46, 3) := by decide +kernel
set_option maxRecDepth 100000 in
theorem dX7_hand_88 : decode cX7_hand 88 = .ok (.iconst 3, 1) := by decide +kernel
set_option maxRecDepth 100000 in
theorem dX7_hand_89 : decode cX7_hand 89 = .ok (.iload_n 3, 1) := by decide +kernel
set_option maxRecDepth 100000 in
theorem dX7_hand_90 : decode cX7_hand 90 = .ok (.imul, 1) := by decide +kernel
set_option maxRecDepth 100000 in
theorem dX7_hand_91 : decode cX7_hand 91 = .ok (.iaload, 1) := by decide +kernel
set_option maxRecDepth 100000 in
theorem dX7_hand_92 : decode cX7_hand 92 = .ok (.ifCond .lt 10, 3) := by decide +kernel
set_option maxRecDepth 100000 in
theorem dX7_hand_95 : decode cX7_hand 95 = .ok (.aload_n 0, 1) := by decide +kernel
set_option maxRecDepth 100000 in
theorem dX7_hand_96 : decode cX7_hand 96 = .ok (.bipush (-3), 2) := by decide +kernel
set_option maxRecDepth 100000 in
theorem dX7_hand_98 : decode cX7_hand 98 = .ok (.invokevirtual 133, 3) := by decide +kernel
set_option maxRecDepth 100000 in
theorem dX7_hand_101 : decode cX7_hand 101 = .ok (.ireturn, 1) := by decide +kernel
set_option maxRecDepth 100000 in
theorem dX7_hand_102 : decode cX7_hand 102 = .ok (.aload_n 0, 1) := by decide +kernel
set_option maxRecDepth 100000 in
theorem dX7_hand_103 : decode cX7_hand 103 = .ok (.iload_n 1, 1) := by decide +kernel
set_option maxRecDepth 100000 in
theorem dX7_hand_104 : decode cX7_hand 104 = .ok (.iload_n 2, 1) := by decide +kernel
set_option maxRecDepth 100000 in
theorem dX7_hand_105 : decode cX7_hand 105 = .ok (.iconst 0, 1) := by decide +kernel
set_option maxRecDepth 100000 in
theorem dX7_hand_106 : decode cX7_hand 106 = .ok (.iload_n 1, 1) := by decide +kernel
set_option maxRecDepth 100000 in
theorem dX7_hand_107 : decode cX7_hand 107 = .ok (.invokevirtual 369, 3) := by decide +kernel
set_option maxRecDepth 100000 in
theorem dX7_hand_110 : decode cX7_hand 110 = .ok (.iconst 1, 1) := by decide +kernel
set_option maxRecDepth 100000 in
theorem dX7_hand_111 : decode cX7_hand 111 = .ok (.ireturn, 1) := by decide +kernel
set_option maxRecDepth 100000 in
theorem dX7_hand_112 : decode cX7_hand 112 = .ok (.aload_n 0, 1) := by decide +kernel
set_option maxRecDepth 100000 in
theorem dX7_hand_113 : decode cX7_hand 113 = .ok (.iload_n 1, 1) := by decide +kernel
set_option maxRecDepth 100000 in
theorem dX7_hand_114 : decode cX7_hand 114 = .ok (.iload_n 2, 1) := by decide +kernel
set_option maxRecDepth 100000 in
theorem dX7_hand_115 : decode cX7_hand 115 = .ok (.invokevirtual 373, 3) := by decide +kernel
set_option maxRecDepth 100000 in
theorem dX7_hand_118 : decode cX7_hand 118 = .ok (.ireturn, 1) := by decide +kernel
set_option maxRecDepth 100000 in
theorem dX7_hand_119 : decode cX7_hand 119 = .ok (.aload_n 0, 1) := by decide +kernel
set_option maxRecDepth 100000 in
theorem dX7_hand_120 : decode cX7_hand 120 = .ok (.getfield 37, 3) := by decide +kernel
set_option maxRecDepth 100000 in
theorem dX7_hand_123 : decode cX7_hand 123 = .ok (.iload_n 3, 1) := by decide +kernel
set_option maxRecDepth 100000 in
theorem dX7_hand_124 : decode cX7_hand 124 = .ok (.iaload, 1) := by decide +kernel
set_option maxRecDepth 100000 in
theorem dX7_hand_125 : decode cX7_hand 125 = .ok (.iconst 3, 1) := by decide +kernel
set_option maxRecDepth 100000 in
theorem dX7_hand_126 : decode cX7_hand 126 = .ok (.if_icmp .eq 32, 3) := by decide +kernel
set_option maxRecDepth 100000 in
theorem dX7_hand_129 : decode cX7_hand 129 = .ok (.aload_n 0, 1) := by decide +kernel
set_option maxRecDepth 100000 in
theorem dX7_hand_130 : decode cX7_hand 130 = .ok (.getfield 37, 3) := by decide +kernel
set_option maxRecDepth 100000 in
theorem dX7_hand_133 : decode cX7_hand 133 = .ok (.iload_n 3, 1) := by decide +kernel
set_option maxRecDepth 100000 in
theorem dX7_hand_134 : decode cX7_hand 134 = .ok (.iaload, 1) := by decide +kernel
set_option maxRecDepth 100000 in
theorem dX7_hand_135 : decode cX7_hand 135 = .ok (.ifCond .le 30, 3) := by decide +kernel
set_option maxRecDepth 100000 in
theorem dX7_hand_138 : decode cX7_hand 138 = .ok (.aload_n 0, 1) := by decide +kernel
set_option maxRecDepth 100000 in
theorem dX7_hand_139 : decode cX7_hand 139 = .ok (.getfield 46, 3) := by decide +kernel
set_option maxRecDepth 100000 in
theorem dX7_hand_142 : decode cX7_hand 142 = .ok (.iconst 3, 1) := by decide +kernel
set_option maxRecDepth 100000 in
theorem dX7_hand_143 : decode cX7_hand 143 = .ok (.iload_n 3, 1) := by decide +kernel
set_option maxRecDepth 100000 in
theorem dX7_hand_144 : decode cX7_hand 144 = .ok (.imul, 1) := by decide +kernel
set_option maxRecDepth 100000 in
theorem dX7_hand_145 : decode cX7_hand 145 = .ok (.aload_n 0, 1) := by decide +kernel
set_option maxRecDepth 100000 in
theorem dX7_hand_146 : decode cX7_hand 146 = .ok (.getfield 37, 3) := by decide +kernel
set_option maxRecDepth 100000 in
theorem dX7_hand_149 : decode cX7_hand 149 = .ok (.iload_n 3, 1) := by decide +kernel
set_option maxRecDepth 100000 in
theorem dX7_hand_150 : decode cX7_hand 150 = .ok (.iaload, 1) := by decide +kernel
set_option maxRecDepth 100000 in
theorem dX7_hand_151 : decode cX7_hand 151 = .ok (.iadd, 1) := by decide +kernel
set_option maxRecDepth 100000 in
theorem dX7_hand_152 : decode cX7_hand 152 = .ok (.iconst 1, 1) := by decide +kernel
set_option maxRecDepth 100000 in
theorem dX7_hand_153 : decode cX7_hand 153 = .ok (.isub, 1) := by decide +kernel
set_option maxRecDepth 100000 in
theorem dX7_hand_154 : decode cX7_hand 154 = .ok (.iaload, 1) := by decide +kernel
set_option maxRecDepth 100000 in
theorem dX7_hand_155 : decode cX7_hand 155 = .ok (.ifCond .ge 10, 3) := by decide +kernel
set_option maxRecDepth 100000 in
theorem dX7_hand_158 : decode cX7_hand 158 = .ok (.aload_n 0, 1) := by decide +kernel
set_option maxRecDepth 100000 in
theorem dX7_hand_159 : decode cX7_hand 159 = .ok (.bipush (-3), 2) := by decide +kernel
set_option maxRecDepth 100000 in
theorem dX7_hand_161 : decode cX7_hand 161 = .ok (.invokevirtual 133, 3) := by decide +kernel
set_option maxRecDepth 100000 in
theorem dX7_hand_164 : decode cX7_hand 164 = .ok (.ireturn, 1) := by decide +kernel
set_option maxRecDepth 100000 in
theorem dX7_hand_165 : decode cX7_hand 165 = .ok (.aload_n 0, 1) := by decide +kernel
set_option maxRecDepth 100000 in
theorem dX7_hand_166 : decode cX7_hand 166 = .ok (.iload_n 1, 1) := by decide +kernel
set_option maxRecDepth 100000 in
theorem dX7_hand_167 : decode cX7_hand 167 = .ok (.iload_n 2, 1) := by decide +kernel
set_option maxRecDepth 100000 in
theorem dX7_hand_168 : decode cX7_hand 168 = .ok (.aload_n 0, 1) := by decide +kernel
set_option maxRecDepth 100000 in
theorem dX7_hand_169 : decode cX7_hand 169 = .ok (.getfield 37, 3) := by decide +kernel
set_option maxRecDepth 100000 in
theorem dX7_hand_172 : decode cX7_hand 172 = .ok (.iload_n 3, 1) := by decide +kernel
set_option maxRecDepth 100000 in
theorem dX7_hand_173 : decode cX7_hand 173 = .ok (.iaload, 1) := by decide +kernel
set_option maxRecDepth 100000 in
theorem dX7_hand_174 : decode cX7_hand 174 = .ok (.iload_n 1, 1) := by decide +kernel
set_option maxRecDepth 100000 in
theorem dX7_hand_175 : decode cX7_hand 175 = .ok (.invokevirtual 369, 3) := by decide +kernel
set_option maxRecDepth 100000 in
theorem dX7_hand_178 : decode cX7_hand 178 = .ok (.iconst 1, 1) := by decide +kernel
set_option maxRecDepth 100000 in
theorem dX7_hand_179 : decode cX7_hand 179 = .ok (.ireturn, 1) := by decide +kernel
set_option maxRecDepth 100000 in
theorem dX7_hand_180 : decode cX7_hand 180 = .ok (.aload_n 0, 1) := by decide +kernel
set_option maxRecDepth 100000 in
theorem dX7_hand_181 : decode cX7_hand 181 = .ok (.getfield 37, 3) := by decide +kernel
set_option maxRecDepth 100000 in
theorem dX7_hand_184 : decode cX7_hand 184 = .ok (.iload_n 3, 1) := by decide +kernel
set_option maxRecDepth 100000 in
theorem dX7_hand_185 : decode cX7_hand 185 = .ok (.iaload, 1) := by decide +kernel
set_option maxRecDepth 100000 in
theorem dX7_hand_186 : decode cX7_hand 186 = .ok (.ifCond .le 10, 3) := by decide +kernel
set_option maxRecDepth 100000 in
theorem dX7_hand_189 : decode cX7_hand 189 = .ok (.aload_n 0, 1) := by decide +kernel
set_option maxRecDepth 100000 in
theorem dX7_hand_190 : decode cX7_hand 190 = .ok (.bipush (-3), 2) := by decide +kernel
set_option maxRecDepth 100000 in
theorem dX7_hand_192 : decode cX7_hand 192 = .ok (.invokevirtual 133, 3) := by decide +kernel
set_option maxRecDepth 100000 in
theorem dX7_hand_195 : decode cX7_hand 195 = .ok (.ireturn, 1) := by decide +kernel
set_option maxRecDepth 100000 in
theorem dX7_hand_196 : decode cX7_hand 196 = .ok (.aload_n 0, 1) := by decide +kernel
set_option maxRecDepth 100000 in
theorem dX7_hand_197 : decode cX7_hand 197 = .ok (.iload_n 1, 1) := by decide +kernel
set_option maxRecDepth 100000 in
theorem dX7_hand_198 : decode cX7_hand 198 = .ok (.iload_n 2, 1) := by decide +kernel
set_option maxRecDepth 100000 in
theorem dX7_hand_199 : decode cX7_hand 199 = .ok (.iconst 0, 1) := by decide +kernel
set_option maxRecDepth 100000 in
theorem dX7_hand_200 : decode cX7_hand 200 = .ok (.iload_n 1, 1) := by decide +kernel
set_option maxRecDepth 100000 in
theorem dX7_hand_201 : decode cX7_hand 201 = .ok (.invokevirtual 369, 3) := by decide +kernel
set_option maxRecDepth 100000 in
theorem dX7_hand_204 : decode cX7_hand 204 = .ok (.iconst 1, 1) := by decide +kernel
set_option maxRecDepth 100000 in
theorem dX7_hand_205 : decode cX7_hand 205 = .ok (.ireturn, 1) := by decide +kernel
set_option maxRecDepth 100000 in
theorem dX7_handsAll_0 : decode cX7_handsAll 0 = .ok (.iconst 0, 1) := by decide +kernel
set_option maxRecDepth 100000 in
theorem dX7_handsAll_1 : decode cX7_handsAll 1 = .ok (.istore_n 3, 1) := by decide +kernel
set_option maxRecDepth 100000 in
theorem dX7_handsAll_2 : decode cX7_handsAll 2 = .ok (.iload_n 3, 1) := by decide +kernel
set_option maxRecDepth 100000 in
theorem dX7_handsAll_3 : decode cX7_handsAll 3 = .ok (.aload_n 0, 1) := by decide +kernel
set_option maxRecDepth 100000 in
theorem dX7_handsAll_4 : decode cX7_handsAll 4 = .ok (.getfield 137, 3) := by decide +kernel
set_option maxRecDepth 100000 in
theorem dX7_handsAll_7 : decode cX7_handsAll 7 = .ok (.if_icmp .ge 46, 3) := by decide +kernel
set_option maxRecDepth 100000 in
theorem dX7_handsAll_10 : decode cX7_handsAll 10 = .ok (.aload_n 0, 1) := by decide +kernel
set_option maxRecDepth 100000 in
theorem dX7_handsAll_11 : decode cX7_handsAll 11 = .ok (.getfield 13, 3) := by decide +kernel
set_option maxRecDepth 100000 in
theorem dX7_handsAll_14 : decode cX7_handsAll 14 = .ok (.iload_n 3, 1) := by decide +kernel
set_option maxRecDepth 100000 in
theorem dX7_handsAll_15 : decode cX7_handsAll 15 = .ok (.iaload, 1) := by decide +kernel
set_option maxRecDepth 100000 in
theorem dX7_handsAll_16 : decode cX7_handsAll 16 = .ok (.aload_n 0, 1) := by decide +kernel
set_option maxRecDepth 100000 in
theorem dX7_handsAll_17 : decode cX7_handsAll 17 = .ok (.getfield 13, 3) := by decide +kernel
set_option maxRecDepth 100000 in
theorem dX7_handsAll_20 : decode cX7_handsAll 20 = .ok (.iload_n 1, 1) := by decide +kernel
set_option maxRecDepth 100000 in
theorem dX7_handsAll_21 : decode cX7_handsAll 21 = .ok (.iaload, 1) := by decide +kernel
set_option maxRecDepth 100000 in
theorem dX7_handsAll_22 : decode cX7_handsAll 22 = .ok (.if_icmp .ne 25, 3) := by decide +kernel
set_option maxRecDepth 100000 in
theorem dX7_handsAll_25 : decode cX7_handsAll 25 = .ok (.aload_n 0, 1) := by decide +kernel
set_option maxRecDepth 100000 in
theorem dX7_handsAll_26 : decode cX7_handsAll 26 = .ok (.getfield 46, 3) := by decide +kernel
set_option maxRecDepth 100000 in
theorem dX7_handsAll_29 : decode cX7_handsAll 29 = .ok (.iconst 3, 1) := by decide +kernel
set_option maxRecDepth 100000 in
theorem dX7_handsAll_30 : decode cX7_handsAll 30 = .ok (.iload_n 3, 1) := by decide +kernel
set_option maxRecDepth 100000 in
theorem dX7_handsAll_31 : decode cX7_handsAll 31 = .ok (.iload_n 2, 1) := by decide +kernel
set_option maxRecDepth 100000 in
theorem dX7_handsAll_32 : decode cX7_handsAll 32 = .ok (.invokestatic 159, 3) := by decide +kernel
set_option maxRecDepth 100000 in
theorem dX7_handsAll_35 : decode cX7_handsAll 35 = .ok (.imul, 1) := by decide +kernel
set_option maxRecDepth 100000 in
theorem dX7_handsAll_36 : decode cX7_handsAll 36 = .ok (.iaload, 1) := by decide +kernel
set_option maxRecDepth 100000 in
theorem dX7_handsAll_37 : decode cX7_handsAll 37 = .ok (.ifCond .lt 10, 3) := by decide +kernel
set_option maxRecDepth 100000 in
theorem dX7_handsAll_40 : decode cX7_handsAll 40 = .ok (.aload_n 0, 1) := by decide +kernel
set_option maxRecDepth 100000 in
theorem dX7_handsAll_41 : decode cX7_handsAll 41 = .ok (.bipush (-3), 2) := by decide +kernel
set_option maxRecDepth 100000 in
theorem dX7_handsAll_43 : decode cX7_handsAll 43 = .ok (.invokevirtual 133, 3) := by decide +kernel
set_option maxRecDepth 100000 in
theorem dX7_handsAll_46 : decode cX7_handsAll 46 = .ok (.ireturn, 1) := by decide +kernel
set_option maxRecDepth 100000 in
theorem dX7_handsAll_47 : decode cX7_handsAll 47 = .ok (.iinc 3 1, 3) := by decide +kernel
set_option maxRecDepth 100000 in
theorem dX7_handsAll_50 : decode cX7_handsAll 50 = .ok (.goto (-48), 3) := by decide +kernel
set_option maxRecDepth 100000 in
theorem dX7_handsAll_53 : decode cX7_handsAll 53 = .ok (.iconst 0, 1) := by decide +kernel
set_option maxRecDepth 100000 in
theorem dX7_handsAll_54 : decode cX7_handsAll 54 = .ok (.istore_n 3, 1) := by decide +kernel
set_option maxRecDepth 100000 in
theorem dX7_handsAll_55 : decode cX7_handsAll 55 = .ok (.iconst 0, 1) := by decide +kernel
set_option maxRecDepth 100000 in
theorem dX7_handsAll_56 : decode cX7_handsAll 56 = .ok (.istore 4, 2) := by decide +kernel
set_option maxRecDepth 100000 in
theorem dX7_handsAll_58 : decode cX7_handsAll 58 = .ok (.iload 4, 2) := by decide +kernel
set_option maxRecDepth 100000 in
theorem dX7_handsAll_60 : decode cX7_handsAll 60 = .ok (.aload_n 0, 1) := by decide +kernel
set_option maxRecDepth 100000 in
theorem dX7_handsAll_61 : decode cX7_handsAll 61 = .ok (.getfield 137, 3) := by decide +kernel
set_option maxRecDepth 100000 in
theorem dX7_handsAll_64 : decode cX7_handsAll 64 = .ok (.if_icmp .ge 40, 3) := by decide +kernel
set_option maxRecDepth 100000 in
theorem dX7_handsAll_67 : decode cX7_handsAll 67 = .ok (.aload_n 0, 1) := by decide +kernel
set_option maxRecDepth 100000 in
theorem dX7_handsAll_68 : decode cX7_handsAll 68 = .ok (.getfield 13, 3) := by decide +kernel
set_option maxRecDepth 100000 in
theorem dX7_handsAll_71 : decode cX7_handsAll 71 = .ok (.iload 4, 2) := by decide +kernel
set_option maxRecDepth 100000 in
theorem dX7_handsAll_73 : decode cX7_handsAll 73 = .ok (.iaload, 1) := by decide +kernel
set_option maxRecDepth 100000 in
theorem dX7_handsAll_74 : decode cX7_handsAll 74 = .ok (.aload_n 0, 1) := by decide +kernel
set_option maxRecDepth 100000 in
theorem dX7_handsAll_75 : decode cX7_handsAll 75 = .ok (.getfield 13, 3) := by decide +kernel
set_option maxRecDepth 100000 in
theorem dX7_handsAll_78 : decode cX7_handsAll 78 = .ok (.iload_n 1, 1) := by decide +kernel
set_option maxRecDepth 100000 in
theorem dX7_handsAll_79 : decode cX7_handsAll 79 = .ok (.iaload, 1) := by decide +kernel
set_option maxRecDepth 100000 in
theorem dX7_handsAll_80 : decode cX7_handsAll 80 = .ok (.if_icmp .eq 6, 3) := by decide +kernel
set_option maxRecDepth 100000 in
theorem dX7_handsAll_83 : decode cX7_handsAll 83 = .ok (.goto 15, 3) := by decide +kernel
set_option maxRecDepth 100000 in
theorem dX7_handsAll_86 : decode cX7_handsAll 86 = .ok (.aload_n 0, 1) := by decide +kernel
set_option maxRecDepth 100000 in
theorem dX7_handsAll_87 : decode cX7_handsAll 87 = .ok (.iload 4, 2) := by decide +kernel
set_option maxRecDepth 100000 in
theorem dX7_handsAll_89 : decode cX7_handsAll 89 = .ok (.iload_n 2, 1) := by decide +kernel
set_option maxRecDepth 100000 in
theorem dX7_handsAll_90 : decode cX7_handsAll 90 = .ok (.iconst 0, 1) := by decide +kernel
set_option maxRecDepth 100000 in
theorem dX7_handsAll_91 : decode cX7_handsAll 91 = .ok (.iload_n 1, 1) := by decide +kernel
set_option maxRecDepth 100000 in
theorem dX7_handsAll_92 : decode cX7_handsAll 92 = .ok (.invokevirtual 369, 3) := by decide +kernel
set_option maxRecDepth 100000 in
theorem dX7_handsAll_95 : decode cX7_handsAll 95 = .ok (.iinc 3 1, 3) := by decide +kernel
set_option maxRecDepth 100000 in
theorem dX7_handsAll_98 : decode cX7_handsAll 98 = .ok (.iinc 4 1, 3) := by decide +kernel
set_option maxRecDepth 100000 in
theorem dX7_handsAll_101 : decode cX7_handsAll 101 = .ok (.goto (-43), 3) := by decide +kernel
set_option maxRecDepth 100000 in
theorem dX7_handsAll_104 : decode cX7_handsAll 104 = .ok (.iload_n 3, 1) := by decide +kernel
set_option maxRecDepth 100000 in
theorem dX7_handsAll_105 : decode cX7_handsAll 105 = .ok (.ireturn, 1) := by decide +kernel
set_option maxRecDepth 100000 in
theorem dX7_toMark_0 : decode cX7_toMark 0 = .ok (.iload_n 1, 1) := by decide +kernel
set_option maxRecDepth 100000 in
theorem dX7_toMark_1 : decode cX7_toMark 1 = .ok (.iload_n 2, 1) := by decide +kernel
set_option maxRecDepth 100000 in
theorem dX7_toMark_2 : decode cX7_toMark 2 = .ok (.invokestatic 159, 3) := by decide +kernel
set_option maxRecDepth 100000 in
theorem dX7_toMark_5 : decode cX7_toMark 5 = .ok (.istore_n 3, 1) := by decide +kernel
set_option maxRecDepth 100000 in
theorem dX7_toMark_6 : decode cX7_toMark 6 = .ok (.aload_n 0, 1) := by decide +kernel
set_option maxRecDepth 100000 in
theorem dX7_toMark_7 : decode cX7_toMark 7 = .ok (.getfield 16, 3) := by decide +kernel
set_option maxRecDepth 100000 in
theorem dX7_toMark_10 : decode cX7_toMark 10 = .ok (.iload_n 2, 1) := by decide +kernel
set_option maxRecDepth 100000 in
theorem dX7_toMark_11 : decode cX7_toMark 11 = .ok (.iaload, 1) := by decide +kernel
set_option maxRecDepth 100000 in
theorem dX7_toMark_12 : decode cX7_toMark 12 = .ok (.iconst 2, 1) := by decide +kernel
set_option maxRecDepth 100000 in
theorem dX7_toMark_13 : decode cX7_toMark 13 = .ok (.if_icmp .ne 14, 3) := by decide +kernel
set_option maxRecDepth 100000 in
theorem dX7_toMark_16 : decode cX7_toMark 16 = .ok (.aload_n 0, 1) := by decide +kernel
set_option maxRecDepth 100000 in
theorem dX7_toMark_17 : decode cX7_toMark 17 = .ok (.getfield 37, 3) := by decide +kernel
set_option maxRecDepth 100000 in
theorem dX7_toMark_20 : decode cX7_toMark 20 = .ok (.iload_n 3, 1) := by decide +kernel
set_option maxRecDepth 100000 in
theorem dX7_toMark_21 : decode cX7_toMark 21 = .ok (.iaload, 1) := by decide +kernel
set_option maxRecDepth 100000 in
theorem dX7_toMark_22 : decode cX7_toMark 22 = .ok (.iconst 1, 1) := by decide +kernel
set_option maxRecDepth 100000 in
theorem dX7_toMark_23 : decode cX7_toMark 23 = .ok (.isub, 1) := by decide +kernel
set_option maxRecDepth 100000 in
theorem dX7_toMark_24 : decode cX7_toMark 24 = .ok (.goto 4, 3) := by decide +kernel
set_option maxRecDepth 100000 in
theorem dX7_toMark_27 : decode cX7_toMark 27 = .ok (.iconst 0, 1) := by decide +kernel
set_option maxRecDepth 100000 in
theorem dX7_toMark_28 : decode cX7_toMark 28 = .ok (.istore 4, 2) := by decide +kernel
set_option maxRecDepth 100000 in
theorem dX7_toMark_30 : decode cX7_toMark 30 = .ok (.aload_n 0, 1) := by decide +kernel
set_option maxRecDepth 100000 in
theorem dX7_toMark_31 : decode cX7_toMark 31 = .ok (.getfield 16, 3) := by decide +kernel
set_option maxRecDepth 100000 in
theorem dX7_toMark_34 : decode cX7_toMark 34 = .ok (.iload_n 2, 1) := by decide +kernel
set_option maxRecDepth 100000 in
theorem dX7_toMark_35 : decode cX7_toMark 35 = .ok (.iaload, 1) := by decide +kernel
set_option maxRecDepth 100000 in
theorem dX7_toMark_36 : decode cX7_toMark 36 = .ok (.iconst 3, 1) := by decide +kernel
set_option maxRecDepth 100000 in
theorem dX7_toMark_37 : decode cX7_toMark 37 = .ok (.if_icmp .eq 26, 3) := by decide +kernel
set_option maxRecDepth 100000 in
theorem dX7_toMark_40 : decode cX7_toMark 40 = .ok (.aload_n 0, 1) := by decide +kernel
set_option maxRecDepth 100000 in
theorem dX7_toMark_41 : decode cX7_toMark 41 = .ok (.getfield 37, 3) := by decide +kernel
set_option maxRecDepth 100000 in
theorem dX7_toMark_44 : decode cX7_toMark 44 = .ok (.iload_n 3, 1) := by decide +kernel
set_option maxRecDepth 100000 in
theorem dX7_toMark_45 : decode cX7_toMark 45 = .ok (.iaload, 1) := by decide +kernel
set_option maxRecDepth 100000 in
theorem dX7_toMark_46 : decode cX7_toMark 46 = .ok (.ifCond .eq 17, 3) := by decide +kernel
set_option maxRecDepth 100000 in
theorem dX7_toMark_49 : decode cX7_toMark 49 = .ok (.aload_n 0, 1) := by decide +kernel
set_option maxRecDepth 100000 in
theorem dX7_toMark_50 : decode cX7_toMark 50 = .ok (.getfield 46, 3) := by decide +kernel
set_option maxRecDepth 100000 in
theorem dX7_toMark_53 : decode cX7_toMark 53 = .ok (.iconst 3, 1) := by decide +kernel
set_option maxRecDepth 100000 in
theorem dX7_toMark_54 : decode cX7_toMark 54 = .ok (.iload_n 3, 1) := by decide +kernel
set_option maxRecDepth 100000 in
theorem dX7_toMark_55 : decode cX7_toMark 55 = .ok (.imul, 1) := by decide +kernel
set_option maxRecDepth 100000 in
theorem dX7_toMark_56 : decode cX7_toMark 56 = .ok (.iload 4, 2) := by decide +kernel
set_option maxRecDepth 100000 in
theorem dX7_toMark_58 : decode cX7_toMark 58 = .ok (.iadd, 1) := by decide +kernel
set_option maxRecDepth 100000 in
theorem dX7_toMark_59 : decode cX7_toMark 59 = .ok (.iaload, 1) := by decide +kernel
set_option maxRecDepth 100000 in
theorem dX7_toMark_60 : decode cX7_toMark 60 = .ok (.ifCond .lt 7, 3) := by decide +kernel
set_option maxRecDepth 100000 in
theorem dX7_toMark_63 : decode cX7_toMark 63 = .ok (.iconst (-1), 1) := by decide +kernel
set_option maxRecDepth 100000 in
theorem dX7_toMark_64 : decode cX7_toMark 64 = .ok (.goto 5, 3) := by decide +kernel
set_option maxRecDepth 100000 in
theorem dX7_toMark_67 : decode cX7_toMark 67 = .ok (.iload 4, 2) := by decide +kernel
set_option maxRecDepth 100000 in
theorem dX7_toMark_69 : decode cX7_toMark 69 = .ok (.ireturn, 1) := by decide +kernel
set_option maxRecDepth 100000 in
theorem dX7_mark_0 : decode cX7_mark 0 = .ok (.aload_n 0, 1) := by decide +kernel
set_option maxRecDepth 100000 in
theorem dX7_mark_1 : decode cX7_mark 1 = .ok (.iload_n 1, 1) := by decide +kernel
set_option maxRecDepth 100000 in
theorem dX7_mark_2 : decode cX7_mark 2 = .ok (.invokevirtual 151, 3) := by decide +kernel
set_option maxRecDepth 100000 in
theorem dX7_mark_5 : decode cX7_mark 5 = .ok (.ifCond .eq 11, 3) := by decide +kernel
set_option maxRecDepth 100000 in
theorem dX7_mark_8 : decode cX7_mark 8 = .ok (.aload_n 0, 1) := by decide +kernel
set_option maxRecDepth 100000 in
theorem dX7_mark_9 : decode cX7_mark 9 = .ok (.iload_n 2, 1) := by decide +kernel
set_option maxRecDepth 100000 in
theorem dX7_mark_10 : decode cX7_mark 10 = .ok (.invokevirtual 156, 3) := by decide +kernel
set_option maxRecDepth 100000 in
theorem dX7_mark_13 : decode cX7_mark 13 = .ok (.ifCond .ne 9, 3) := by decide +kernel
set_option maxRecDepth 100000 in
theorem dX7_mark_16 : decode cX7_mark 16 = .ok (.aload_n 0, 1) := by decide +kernel
set_option maxRecDepth 100000 in
theorem dX7_mark_17 : decode cX7_mark 17 = .ok (.iconst (-1), 1) := by decide +kernel
set_option maxRecDepth 100000 in
theorem dX7_mark_18 : decode cX7_mark 18 = .ok (.invokevirtual 133, 3) := by decide +kernel
set_option maxRecDepth 100000 in
theorem dX7_mark_21 : decode cX7_mark 21 = .ok (.ireturn, 1) := by decide +kernel
set_option maxRecDepth 100000 in
theorem dX7_mark_22 : decode cX7_mark 22 = .ok (.aload_n 0, 1) := by decide +kernel
set_option maxRecDepth 100000 in
theorem dX7_mark_23 : decode cX7_mark 23 = .ok (.iload_n 1, 1) := by decide +kernel
set_option maxRecDepth 100000 in
theorem dX7_mark_24 : decode cX7_mark 24 = .ok (.iload_n 2, 1) := by decide +kernel
set_option maxRecDepth 100000 in
theorem dX7_mark_25 : decode cX7_mark 25 = .ok (.invokevirtual 376, 3) := by decide +kernel
set_option maxRecDepth 100000 in
theorem dX7_mark_28 : decode cX7_mark 28 = .ok (.istore 4, 2) := by decide +kernel
set_option maxRecDepth 100000 in
theorem dX7_mark_30 : decode cX7_mark 30 = .ok (.iload 4, 2) := by decide +kernel
set_option maxRecDepth 100000 in
theorem dX7_mark_32 : decode cX7_mark 32 = .ok (.ifCond .ge 10, 3) := by decide +kernel
set_option maxRecDepth 100000 in
theorem dX7_mark_35 : decode cX7_mark 35 = .ok (.aload_n 0, 1) := by decide +kernel
set_option maxRecDepth 100000 in
theorem dX7_mark_36 : decode cX7_mark 36 = .ok (.bipush (-3), 2) := by decide +kernel
set_option maxRecDepth 100000 in
theorem dX7_mark_38 : decode cX7_mark 38 = .ok (.invokevirtual 133, 3) := by decide +kernel
set_option maxRecDepth 100000 in
theorem dX7_mark_41 : decode cX7_mark 41 = .ok (.ireturn, 1) := by decide +kernel
set_option maxRecDepth 100000 in
theorem dX7_mark_42 : decode cX7_mark 42 = .ok (.iload_n 3, 1) := by decide +kernel
set_option maxRecDepth 100000 in
theorem dX7_mark_43 : decode cX7_mark 43 = .ok (.ifCond .ge 10, 3) := by decide +kernel
set_option maxRecDepth 100000 in
theorem dX7_mark_46 : decode cX7_mark 46 = .ok (.aload_n 0, 1) := by decide +kernel
set_option maxRecDepth 100000 in
theorem dX7_mark_47 : decode cX7_mark 47 = .ok (.bipush (-4), 2) := by decide +kernel
set_option maxRecDepth 100000 in
theorem dX7_mark_49 : decode cX7_mark 49 = .ok (.invokevirtual 133, 3) := by decide +kernel
set_option maxRecDepth 100000 in
theorem dX7_mark_52 : decode cX7_mark 52 = .ok (.ireturn, 1) := by decide +kernel
set_option maxRecDepth 100000 in
theorem dX7_mark_53 : decode cX7_mark 53 = .ok (.iload_n 3, 1) := by decide +kernel
set_option maxRecDepth 100000 in
theorem dX7_mark_54 : decode cX7_mark 54 = .ok (.aload_n 0, 1) := by decide +kernel
set_option maxRecDepth 100000 in
theorem dX7_mark_55 : decode cX7_mark 55 = .ok (.getfield 19, 3) := by decide +kernel
set_option maxRecDepth 100000 in
theorem dX7_mark_58 : decode cX7_mark 58 = .ok (.iload_n 2, 1) := by decide +kernel
set_option maxRecDepth 100000 in
theorem dX7_mark_59 : decode cX7_mark 59 = .ok (.iaload, 1) := by decide +kernel
set_option maxRecDepth 100000 in
theorem dX7_mark_60 : decode cX7_mark 60 = .ok (.if_icmp .le 10, 3) := by decide +kernel
set_option maxRecDepth 100000 in
theorem dX7_mark_63 : decode cX7_mark 63 = .ok (.aload_n 0, 1) := by decide +kernel
set_option maxRecDepth 100000 in
theorem dX7_mark_64 : decode cX7_mark 64 = .ok (.bipush (-6), 2) := by decide +kernel
set_option maxRecDepth 100000 in
theorem dX7_mark_66 : decode cX7_mark 66 = .ok (.invokevirtual 133, 3) := by decide +kernel
set_option maxRecDepth 100000 in
theorem dX7_mark_69 : decode cX7_mark 69 = .ok (.ireturn, 1) := by decide +kernel
set_option maxRecDepth 100000 in
theorem dX7_mark_70 : decode cX7_mark 70 = .ok (.iconst 0, 1) := by decide +kernel
set_option maxRecDepth 100000 in
theorem dX7_mark_71 : decode cX7_mark 71 = .ok (.istore 5, 2) := by decide +kernel
set_option maxRecDepth 100000 in
theorem dX7_mark_73 : decode cX7_mark 73 = .ok (.aload_n 0, 1) := by decide +kernel
set_option maxRecDepth 100000 in
theorem dX7_mark_74 : decode cX7_mark 74 = .ok (.getfield 43, 3) := by decide +kernel
set_option maxRecDepth 100000 in
theorem dX7_mark_77 : decode cX7_mark 77 = .ok (.iconst 3, 1) := by decide +kernel
set_option maxRecDepth 100000 in
theorem dX7_mark_78 : decode cX7_mark 78 = .ok (.iload_n 1, 1) := by decide +kernel
set_option maxRecDepth 100000 in
theorem dX7_mark_79 : decode cX7_mark 79 = .ok (.iload_n 2, 1) := by decide +kernel
set_option maxRecDepth 100000 in
theorem dX7_mark_80 : decode cX7_mark 80 = .ok (.invokestatic 159, 3) := by decide +kernel
set_option maxRecDepth 100000 in
theorem dX7_mark_83 : decode cX7_mark 83 = .ok (.imul, 1) := by decide +kernel
set_option maxRecDepth 100000 in
theorem dX7_mark_84 : decode cX7_mark 84 = .ok (.iaload, 1) := by decide +kernel
set_option maxRecDepth 100000 in
theorem dX7_mark_85 : decode cX7_mark 85 = .ok (.istore 6, 2) := by decide +kernel
set_option maxRecDepth 100000 in
theorem dX7_mark_87 : decode cX7_mark 87 = .ok (.aload_n 0, 1) := by decide +kernel
set_option maxRecDepth 100000 in
theorem dX7_mark_88 : decode cX7_mark 88 = .ok (.getfield 40, 3) := by decide +kernel
set_option maxRecDepth 100000 in
theorem dX7_mark_91 : decode cX7_mark 91 = .ok (.iconst 3, 1) := by decide +kernel
set_option maxRecDepth 100000 in
theorem dX7_mark_92 : decode cX7_mark 92 = .ok (.iload_n 1, 1) := by decide +kernel
set_option maxRecDepth 100000 in
theorem dX7_mark_93 : decode cX7_mark 93 = .ok (.iload_n 2, 1) := by decide +kernel
set_option maxRecDepth 100000 in
theorem dX7_mark_94 : decode cX7_mark 94 = .ok (.invokestatic 159, 3) := by decide +kernel
set_option maxRecDepth 100000 in
theorem dX7_mark_97 : decode cX7_mark 97 = .ok (.imul, 1) := by decide +kernel
set_option maxRecDepth 100000 in
theorem dX7_mark_98 : decode cX7_mark 98 = .ok (.iaload, 1) := by decide +kernel
set_option maxRecDepth 100000 in
theorem dX7_mark_99 : decode cX7_mark 99 = .ok (.istore 7, 2) := by decide +kernel
set_option maxRecDepth 100000 in
theorem dX7_mark_101 : decode cX7_mark 101 = .ok (.iconst 0, 1) := by decide +kernel
set_option maxRecDepth 100000 in
theorem dX7_mark_102 : decode cX7_mark 102 = .ok (.istore 8, 2) := by decide +kernel
set_option maxRecDepth 100000 in
theorem dX7_mark_104 : decode cX7_mark 104 = .ok (.iload 8, 2) := by decide +kernel
set_option maxRecDepth 100000 in
theorem dX7_mark_106 : decode cX7_mark 106 = .ok (.aload_n 0, 1) := by decide +kernel
set_option maxRecDepth 100000 in
theorem dX7_mark_107 : decode cX7_mark 107 = .ok (.getfield 137, 3) := by decide +kernel
set_option maxRecDepth 100000 in
theorem dX7_mark_110 : decode cX7_mark 110 = .ok (.if_icmp .ge 130, 3) := by decide +kernel
set_option maxRecDepth 100000 in
theorem dX7_mark_113 : decode cX7_mark 113 = .ok (.iconst 3, 1) := by decide +kernel
set_option maxRecDepth 100000 in
theorem dX7_mark_114 : decode cX7_mark 114 = .ok (.iload 8, 2) := by decide +kernel
set_option maxRecDepth 100000 in
theorem dX7_mark_116 : decode cX7_mark 116 = .ok (.iload_n 2, 1) := by decide +kernel
set_option maxRecDepth 100000 in
theorem dX7_mark_117 : decode cX7_mark 117 = .ok (.invokestatic 159, 3) := by decide +kernel
set_option maxRecDepth 100000 in
theorem dX7_mark_120 : decode cX7_mark 120 = .ok (.imul, 1) := by decide +kernel
set_option maxRecDepth 100000 in
theorem dX7_mark_121 : decode cX7_mark 121 = .ok (.istore 9, 2) := by decide +kernel
set_option maxRecDepth 100000 in
theorem dX7_mark_123 : decode cX7_mark 123 = .ok (.aload_n 0, 1) := by decide +kernel
set_option maxRecDepth 100000 in
theorem dX7_mark_124 : decode cX7_mark 124 = .ok (.getfield 16, 3) := by decide +kernel
set_option maxRecDepth 100000 in
theorem dX7_mark_127 : decode cX7_mark 127 = .ok (.iload_n 2, 1) := by decide +kernel
set_option maxRecDepth 100000 in
theorem dX7_mark_128 : decode cX7_mark 128 = .ok (.iaload, 1) := by decide +kernel
set_option maxRecDepth 100000 in
theorem dX7_mark_129 : decode cX7_mark 129 = .ok (.iconst 1, 1) := by decide +kernel
set_option maxRecDepth 100000 in
theorem dX7_mark_130 : decode cX7_mark 130 = .ok (.if_icmp .ne 59, 3) := by decide +kernel
set_option maxRecDepth 100000 in
theorem dX7_mark_133 : decode cX7_mark 133 = .ok (.aload_n 0, 1) := by decide +kernel
set_option maxRecDepth 100000 in
theorem dX7_mark_134 : decode cX7_mark 134 = .ok (.getfield 37, 3) := by decide +kernel
set_option maxRecDepth 100000 in
theorem dX7_mark_137 : decode cX7_mark 137 = .ok (.iload 8, 2) := by decide +kernel
set_option maxRecDepth 100000 in
theorem dX7_mark_139 : decode cX7_mark 139 = .ok (.iload_n 2, 1) := by decide +kernel
set_option maxRecDepth 100000 in
theorem dX7_mark_140 : decode cX7_mark 140 = .ok (.invokestatic 159, 3) := by decide +kernel
set_option maxRecDepth 100000 in
theorem dX7_mark_143 : decode cX7_mark 143 = .ok (.iaload, 1) := by decide +kernel
set_option maxRecDepth 100000 in
theorem dX7_mark_144 : decode cX7_mark 144 = .ok (.ifCond .le 41, 3) := by decide +kernel
set_option maxRecDepth 100000 in
theorem dX7_mark_147 : decode cX7_mark 147 = .ok (.aload_n 0, 1) := by decide +kernel
set_option maxRecDepth 100000 in
theorem dX7_mark_148 : decode cX7_mark 148 = .ok (.getfield 46, 3) := by decide +kernel
set_option maxRecDepth 100000 in
theorem dX7_mark_151 : decode cX7_mark 151 = .ok (.iload 9, 2) := by decide +kernel
set_option maxRecDepth 100000 in
theorem dX7_mark_153 : decode cX7_mark 153 = .ok (.iaload, 1) := by decide +kernel
set_option maxRecDepth 100000 in
theorem dX7_mark_154 : decode cX7_mark 154 = .ok (.ifCond .ge 31, 3) := by decide +kernel
set_option maxRecDepth 100000 in
theorem dX7_mark_157 : decode cX7_mark 157 = .ok (.aload_n 0, 1) := by decide +kernel
set_option maxRecDepth 100000 in
theorem dX7_mark_158 : decode cX7_mark 158 = .ok (.getfield 43, 3) := by decide +kernel
set_option maxRecDepth 100000 in
theorem dX7_mark_161 : decode cX7_mark 161 = .ok (.iload 9, 2) := by decide +kernel
set_option maxRecDepth 100000 in
theorem dX7_mark_163 : decode cX7_mark 163 = .ok (.iaload, 1) := by decide +kernel
set_option maxRecDepth 100000 in
theorem dX7_mark_164 : decode cX7_mark 164 = .ok (.iload 6, 2) := by decide +kernel
set_option maxRecDepth 100000 in
theorem dX7_mark_166 : decode cX7_mark 166 = .ok (.if_icmp .ne 19, 3) := by decide +kernel
set_option maxRecDepth 100000 in
theorem dX7_mark_169 : decode cX7_mark 169 = .ok (.aload_n 0, 1) := by decide +kernel
set_option maxRecDepth 100000 in
theorem dX7_mark_170 : decode cX7_mark 170 = .ok (.getfield 40, 3) := by decide +kernel
set_option maxRecDepth 100000 in
theorem dX7_mark_173 : decode cX7_mark 173 = .ok (.iload 9, 2) := by decide +kernel
set_option maxRecDepth 100000 in
theorem dX7_mark_175 : decode cX7_mark 175 = .ok (.iaload, 1) := by decide +kernel
set_option maxRecDepth 100000 in
theorem dX7_mark_176 : decode cX7_mark 176 = .ok (.iload 7, 2) := by decide +kernel
set_option maxRecDepth 100000 in
theorem dX7_mark_178 : decode cX7_mark 178 = .ok (.if_icmp .ne 7, 3) := by decide +kernel
set_option maxRecDepth 100000 in
theorem dX7_mark_181 : decode cX7_mark 181 = .ok (.iconst 1, 1) := by decide +kernel
set_option maxRecDepth 100000 in
theorem dX7_mark_182 : decode cX7_mark 182 = .ok (.goto 18, 3) := by decide +kernel
set_option maxRecDepth 100000 in
theorem dX7_mark_185 : decode cX7_mark 185 = .ok (.iconst 0, 1) := by decide +kernel
set_option maxRecDepth 100000 in
theorem dX7_mark_186 : decode cX7_mark 186 = .ok (.goto 14, 3) := by decide +kernel
set_option maxRecDepth 100000 in
theorem dX7_mark_189 : decode cX7_mark 189 = .ok (.iload 8, 2) := by decide +kernel
set_option maxRecDepth 100000 in
theorem dX7_mark_191 : decode cX7_mark 191 = .ok (.iload_n 1, 1) := by decide +kernel
set_option maxRecDepth 100000 in
theorem dX7_mark_192 : decode cX7_mark 192 = .ok (.if_icmp .ne 7, 3) := by decide +kernel
set_option maxRecDepth 100000 in
theorem dX7_mark_195 : decode cX7_mark 195 = .ok (.iconst 1, 1) := by decide +kernel
set_option maxRecDepth 100000 in
theorem dX7_mark_196 : decode cX7_mark 196 = .ok (.goto 4, 3) := by decide +kernel
set_option maxRecDepth 100000 in
theorem dX7_mark_199 : decode cX7_mark 199 = .ok (.iconst 0, 1) := by decide +kernel
set_option maxRecDepth 100000 in
theorem dX7_mark_200 : decode cX7_mark 200 = .ok (.istore 10, 2) := by decide +kernel
set_option maxRecDepth 100000 in
theorem dX7_mark_202 : decode cX7_mark 202 = .ok (.iload 10, 2) := by decide +kernel
set_option maxRecDepth 100000 in
theorem dX7_mark_204 : decode cX7_mark 204 = .ok (.ifCond .ne 6, 3) := by decide +kernel
set_option maxRecDepth 100000 in
theorem dX7_mark_207 : decode cX7_mark 207 = .ok (.goto 27, 3) := by decide +kernel
set_option maxRecDepth 100000 in
theorem dX7_mark_210 : decode cX7_mark 210 = .ok (.aload_n 0, 1) := by decide +kernel
set_option maxRecDepth 100000 in
theorem dX7_mark_211 : decode cX7_mark 211 = .ok (.getfield 46, 3) := by decide +kernel
set_option maxRecDepth 100000 in
theorem dX7_mark_214 : decode cX7_mark 214 = .ok (.iload 9, 2) := by decide +kernel
set_option maxRecDepth 100000 in
theorem dX7_mark_216 : decode cX7_mark 216 = .ok (.iload 4, 2) := by decide +kernel
set_option maxRecDepth 100000 in
theorem dX7_mark_218 : decode cX7_mark 218 = .ok (.iadd, 1) := by decide +kernel
set_option maxRecDepth 100000 in
theorem dX7_mark_219 : decode cX7_mark 219 = .ok (.iload_n 3, 1) := by decide +kernel
set_option maxRecDepth 100000 in
theorem dX7_mark_220 : decode cX7_mark 220 = .ok (.iastore, 1) := by decide +kernel
set_option maxRecDepth 100000 in
theorem dX7_mark_221 : decode cX7_mark 221 = .ok (.aload_n 0, 1) := by decide +kernel
set_option maxRecDepth 100000 in
theorem dX7_mark_222 : decode cX7_mark 222 = .ok (.dup, 1) := by decide +kernel
set_option maxRecDepth 100000 in
theorem dX7_mark_223 : decode cX7_mark 223 = .ok (.getfield 379, 3) := by decide +kernel
set_option maxRecDepth 100000 in
theorem dX7_mark_226 : decode cX7_mark 226 = .ok (.iconst 1, 1) := by decide +kernel
set_option maxRecDepth 100000 in
theorem dX7_mark_227 : decode cX7_mark 227 = .ok (.iadd, 1) := by decide +kernel
set_option maxRecDepth 100000 in
theorem dX7_mark_228 : decode cX7_mark 228 = .ok (.putfield 379, 3) := by decide +kernel
set_option maxRecDepth 100000 in
theorem dX7_mark_231 : decode cX7_mark 231 = .ok (.iinc 5 1, 3) := by decide +kernel
set_option maxRecDepth 100000 in
theorem dX7_mark_234 : decode cX7_mark 234 = .ok (.iinc 8 1, 3) := by decide +kernel
set_option maxRecDepth 100000 in
theorem dX7_mark_237 : decode cX7_mark 237 = .ok (.goto (-133), 3) := by decide +kernel
set_option maxRecDepth 100000 in
theorem dX7_mark_240 : decode cX7_mark 240 = .ok (.iload 5, 2) := by decide +kernel
set_option maxRecDepth 100000 in
theorem dX7_mark_242 : decode cX7_mark 242 = .ok (.ireturn, 1) := by decide +kernel
set_option maxRecDepth 100000 in
theorem dX7_peerOf_0 : decode cX7_peerOf 0 = .ok (.iload_n 3, 1) := by decide +kernel
set_option maxRecDepth 100000 in
theorem dX7_peerOf_1 : decode cX7_peerOf 1 = .ok (.istore 4, 2) := by decide +kernel
set_option maxRecDepth 100000 in
theorem dX7_peerOf_3 : decode cX7_peerOf 3 = .ok (.iconst 1, 1) := by decide +kernel
set_option maxRecDepth 100000 in
theorem dX7_peerOf_4 : decode cX7_peerOf 4 = .ok (.istore 5, 2) := by decide +kernel
set_option maxRecDepth 100000 in
theorem dX7_peerOf_6 : decode cX7_peerOf 6 = .ok (.iload 5, 2) := by decide +kernel
set_option maxRecDepth 100000 in
theorem dX7_peerOf_8 : decode cX7_peerOf 8 = .ok (.aload_n 0, 1) := by decide +kernel
set_option maxRecDepth 100000 in
theorem dX7_peerOf_9 : decode cX7_peerOf 9 = .ok (.getfield 137, 3) := by decide +kernel
set_option maxRecDepth 100000 in
theorem dX7_peerOf_12 : decode cX7_peerOf 12 = .ok (.if_icmp .ge 57, 3) := by decide +kernel
set_option maxRecDepth 100000 in
theorem dX7_peerOf_15 : decode cX7_peerOf 15 = .ok (.iload_n 3, 1) := by decide +kernel
set_option maxRecDepth 100000 in
theorem dX7_peerOf_16 : decode cX7_peerOf 16 = .ok (.ifCond .lt 53, 3) := by decide +kernel
set_option maxRecDepth 100000 in
theorem dX7_peerOf_19 : decode cX7_peerOf 19 = .ok (.iload_n 3, 1) := by decide +kernel
set_option maxRecDepth 100000 in
theorem dX7_peerOf_20 : decode cX7_peerOf 20 = .ok (.iconst 2, 1) := by decide +kernel
set_option maxRecDepth 100000 in
theorem dX7_peerOf_21 : decode cX7_peerOf 21 = .ok (.if_icmp .ge 48, 3) := by decide +kernel
set_option maxRecDepth 100000 in
theorem dX7_peerOf_24 : decode cX7_peerOf 24 = .ok (.iload_n 1, 1) := by decide +kernel
set_option maxRecDepth 100000 in
theorem dX7_peerOf_25 : decode cX7_peerOf 25 = .ok (.iload 5, 2) := by decide +kernel
set_option maxRecDepth 100000 in
theorem dX7_peerOf_27 : decode cX7_peerOf 27 = .ok (.iadd, 1) := by decide +kernel
set_option maxRecDepth 100000 in
theorem dX7_peerOf_28 : decode cX7_peerOf 28 = .ok (.aload_n 0, 1) := by decide +kernel
set_option maxRecDepth 100000 in
theorem dX7_peerOf_29 : decode cX7_peerOf 29 = .ok (.getfield 137, 3) := by decide +kernel
set_option maxRecDepth 100000 in
theorem dX7_peerOf_32 : decode cX7_peerOf 32 = .ok (.irem, 1) := by decide +kernel
set_option maxRecDepth 100000 in
theorem dX7_peerOf_33 : decode cX7_peerOf 33 = .ok (.istore 6, 2) := by decide +kernel
set_option maxRecDepth 100000 in
theorem dX7_peerOf_35 : decode cX7_peerOf 35 = .ok (.aload_n 0, 1) := by decide +kernel
set_option maxRecDepth 100000 in
theorem dX7_peerOf_36 : decode cX7_peerOf 36 = .ok (.getfield 37, 3) := by decide +kernel
set_option maxRecDepth 100000 in
theorem dX7_peerOf_39 : decode cX7_peerOf 39 = .ok (.iload 6, 2) := by decide +kernel
set_option maxRecDepth 100000 in
theorem dX7_peerOf_41 : decode cX7_peerOf 41 = .ok (.iload_n 2, 1) := by decide +kernel
set_option maxRecDepth 100000 in
theorem dX7_peerOf_42 : decode cX7_peerOf 42 = .ok (.invokestatic 159, 3) := by decide +kernel
set_option maxRecDepth 100000 in
theorem dX7_peerOf_45 : decode cX7_peerOf 45 = .ok (.iaload, 1) := by decide +kernel
set_option maxRecDepth 100000 in
theorem dX7_peerOf_46 : decode cX7_peerOf 46 = .ok (.ifCond .ne 6, 3) := by decide +kernel
set_option maxRecDepth 100000 in
theorem dX7_peerOf_49 : decode cX7_peerOf 49 = .ok (.goto 14, 3) := by decide +kernel
set_option maxRecDepth 100000 in
theorem dX7_peerOf_52 : decode cX7_peerOf 52 = .ok (.iload 4, 2) := by decide +kernel
set_option maxRecDepth 100000 in
theorem dX7_peerOf_54 : decode cX7_peerOf 54 = .ok (.ifCond .ne 6, 3) := by decide +kernel
set_option maxRecDepth 100000 in
theorem dX7_peerOf_57 : decode cX7_peerOf 57 = .ok (.iload 6, 2) := by decide +kernel
set_option maxRecDepth 100000 in
theorem dX7_peerOf_59 : decode cX7_peerOf 59 = .ok (.ireturn, 1) := by decide +kernel
set_option maxRecDepth 100000 in
theorem dX7_peerOf_60 : decode cX7_peerOf 60 = .ok (.iinc 4 (-1), 3) := by decide +kernel
set_option maxRecDepth 100000 in
theorem dX7_peerOf_63 : decode cX7_peerOf 63 = .ok (.iinc 5 1, 3) := by decide +kernel
set_option maxRecDepth 100000 in
theorem dX7_peerOf_66 : decode cX7_peerOf 66 = .ok (.goto (-60), 3) := by decide +kernel
set_option maxRecDepth 100000 in
theorem dX7_peerOf_69 : decode cX7_peerOf 69 = .ok (.bipush (-9), 2) := by decide +kernel
set_option maxRecDepth 100000 in
theorem dX7_peerOf_71 : decode cX7_peerOf 71 = .ok (.ireturn, 1) := by decide +kernel
set_option maxRecDepth 100000 in
theorem dX7_isShown_0 : decode cX7_isShown 0 = .ok (.aload_n 0, 1) := by decide +kernel
set_option maxRecDepth 100000 in
theorem dX7_isShown_1 : decode cX7_isShown 1 = .ok (.getfield 16, 3) := by decide +kernel
set_option maxRecDepth 100000 in
theorem dX7_isShown_4 : decode cX7_isShown 4 = .ok (.iload_n 2, 1) := by decide +kernel
set_option maxRecDepth 100000 in
theorem dX7_isShown_5 : decode cX7_isShown 5 = .ok (.iaload, 1) := by decide +kernel
set_option maxRecDepth 100000 in
theorem dX7_isShown_6 : decode cX7_isShown 6 = .ok (.iconst 3, 1) := by decide +kernel
set_option maxRecDepth 100000 in
theorem dX7_isShown_7 : decode cX7_isShown 7 = .ok (.if_icmp .ne 20, 3) := by decide +kernel
set_option maxRecDepth 100000 in
theorem dX7_isShown_10 : decode cX7_isShown 10 = .ok (.aload_n 0, 1) := by decide +kernel
set_option maxRecDepth 100000 in
theorem dX7_isShown_11 : decode cX7_isShown 11 = .ok (.getfield 37, 3) := by decide +kernel
set_option maxRecDepth 100000 in
theorem dX7_isShown_14 : decode cX7_isShown 14 = .ok (.iload_n 1, 1) := by decide +kernel
set_option maxRecDepth 100000 in
theorem dX7_isShown_15 : decode cX7_isShown 15 = .ok (.iload_n 2, 1) := by decide +kernel
set_option maxRecDepth 100000 in
theorem dX7_isShown_16 : decode cX7_isShown 16 = .ok (.invokestatic 159, 3) := by decide +kernel
set_option maxRecDepth 100000 in
theorem dX7_isShown_19 : decode cX7_isShown 19 = .ok (.iaload, 1) := by decide +kernel
set_option maxRecDepth 100000 in
theorem dX7_isShown_20 : decode cX7_isShown 20 = .ok (.ifCond .le 7, 3) := by decide +kernel
set_option maxRecDepth 100000 in
theorem dX7_isShown_23 : decode cX7_isShown 23 = .ok (.iconst 1, 1) := by decide +kernel
set_option maxRecDepth 100000 in
theorem dX7_isShown_24 : decode cX7_isShown 24 = .ok (.goto 4, 3) := by decide +kernel
set_option maxRecDepth 100000 in
theorem dX7_isShown_27 : decode cX7_isShown 27 = .ok (.iconst 0, 1) := by decide +kernel
set_option maxRecDepth 100000 in
theorem dX7_isShown_28 : decode cX7_isShown 28 = .ok (.ireturn, 1) := by decide +kernel
set_option maxRecDepth 100000 in
theorem dX7_peer_0 : decode cX7_peer 0 = .ok (.aload_n 0, 1) := by decide +kernel
set_option maxRecDepth 100000 in
theorem dX7_peer_1 : decode cX7_peer 1 = .ok (.iload_n 1, 1) := by decide +kernel
set_option maxRecDepth 100000 in
theorem dX7_peer_2 : decode cX7_peer 2 = .ok (.invokevirtual 151, 3) := by decide +kernel
set_option maxRecDepth 100000 in
theorem dX7_peer_5 : decode cX7_peer 5 = .ok (.ifCond .eq 11, 3) := by decide +kernel
set_option maxRecDepth 100000 in
theorem dX7_peer_8 : decode cX7_peer 8 = .ok (.aload_n 0, 1) := by decide +kernel
set_option maxRecDepth 100000 in
theorem dX7_peer_9 : decode cX7_peer 9 = .ok (.iload_n 2, 1) := by decide +kernel
set_option maxRecDepth 100000 in
theorem dX7_peer_10 : decode cX7_peer 10 = .ok (.invokevirtual 156, 3) := by decide +kernel
set_option maxRecDepth 100000 in
theorem dX7_peer_13 : decode cX7_peer 13 = .ok (.ifCond .ne 9, 3) := by decide +kernel
set_option maxRecDepth 100000 in
theorem dX7_peer_16 : decode cX7_peer 16 = .ok (.aload_n 0, 1) := by decide +kernel
set_option maxRecDepth 100000 in
theorem dX7_peer_17 : decode cX7_peer 17 = .ok (.iconst (-1), 1) := by decide +kernel
set_option maxRecDepth 100000 in
theorem dX7_peer_18 : decode cX7_peer 18 = .ok (.invokevirtual 133, 3) := by decide +kernel
set_option maxRecDepth 100000 in
theorem dX7_peer_21 : decode cX7_peer 21 = .ok (.ireturn, 1) := by decide +kernel
set_option maxRecDepth 100000 in
theorem dX7_peer_22 : decode cX7_peer 22 = .ok (.aload_n 0, 1) := by decide +kernel
set_option maxRecDepth 100000 in
theorem dX7_peer_23 : decode cX7_peer 23 = .ok (.iload_n 1, 1) := by decide +kernel
set_option maxRecDepth 100000 in
theorem dX7_peer_24 : decode cX7_peer 24 = .ok (.iload_n 2, 1) := by decide +kernel
set_option maxRecDepth 100000 in
theorem dX7_peer_25 : decode cX7_peer 25 = .ok (.invokevirtual 382, 3) := by decide +kernel
set_option maxRecDepth 100000 in
theorem dX7_peer_28 : decode cX7_peer 28 = .ok (.ifCond .eq 13, 3) := by decide +kernel
set_option maxRecDepth 100000 in
theorem dX7_peer_31 : decode cX7_peer 31 = .ok (.aload_n 0, 1) := by decide +kernel
set_option maxRecDepth 100000 in
theorem dX7_peer_32 : decode cX7_peer 32 = .ok (.iload_n 1, 1) := by decide +kernel
set_option maxRecDepth 100000 in
theorem dX7_peer_33 : decode cX7_peer 33 = .ok (.iload_n 2, 1) := by decide +kernel
set_option maxRecDepth 100000 in
theorem dX7_peer_34 : decode cX7_peer 34 = .ok (.iload_n 3, 1) := by decide +kernel
set_option maxRecDepth 100000 in
theorem dX7_peer_35 : decode cX7_peer 35 = .ok (.invokevirtual 385, 3) := by decide +kernel
set_option maxRecDepth 100000 in
theorem dX7_peer_38 : decode cX7_peer 38 = .ok (.goto 9, 3) := by decide +kernel
set_option maxRecDepth 100000 in
theorem dX7_peer_41 : decode cX7_peer 41 = .ok (.aload_n 0, 1) := by decide +kernel
set_option maxRecDepth 100000 in
theorem dX7_peer_42 : decode cX7_peer 42 = .ok (.bipush (-3), 2) := by decide +kernel
set_option maxRecDepth 100000 in
theorem dX7_peer_44 : decode cX7_peer 44 = .ok (.invokevirtual 133, 3) := by decide +kernel
set_option maxRecDepth 100000 in
theorem dX7_peer_47 : decode cX7_peer 47 = .ok (.ireturn, 1) := by decide +kernel
set_option maxRecDepth 100000 in
theorem dX7_show_0 : decode cX7_show 0 = .ok (.aload_n 0, 1) := by decide +kernel
set_option maxRecDepth 100000 in
theorem dX7_show_1 : decode cX7_show 1 = .ok (.iload_n 1, 1) := by decide +kernel
set_option maxRecDepth 100000 in
theorem dX7_show_2 : decode cX7_show 2 = .ok (.invokevirtual 151, 3) := by decide +kernel
set_option maxRecDepth 100000 in
theorem dX7_show_5 : decode cX7_show 5 = .ok (.ifCond .eq 19, 3) := by decide +kernel
set_option maxRecDepth 100000 in
theorem dX7_show_8 : decode cX7_show 8 = .ok (.aload_n 0, 1) := by decide +kernel
set_option maxRecDepth 100000 in
theorem dX7_show_9 : decode cX7_show 9 = .ok (.iload_n 2, 1) := by decide +kernel
set_option maxRecDepth 100000 in
theorem dX7_show_10 : decode cX7_show 10 = .ok (.invokevirtual 151, 3) := by decide +kernel
set_option maxRecDepth 100000 in
theorem dX7_show_13 : decode cX7_show 13 = .ok (.ifCond .eq 11, 3) := by decide +kernel
set_option maxRecDepth 100000 in
theorem dX7_show_16 : decode cX7_show 16 = .ok (.aload_n 0, 1) := by decide +kernel
set_option maxRecDepth 100000 in
theorem dX7_show_17 : decode cX7_show 17 = .ok (.iload_n 3, 1) := by decide +kernel
set_option maxRecDepth 100000 in
theorem dX7_show_18 : decode cX7_show 18 = .ok (.invokevirtual 156, 3) := by decide +kernel
set_option maxRecDepth 100000 in
theorem dX7_show_21 : decode cX7_show 21 = .ok (.ifCond .ne 9, 3) := by decide +kernel
set_option maxRecDepth 100000 in
theorem dX7_show_24 : decode cX7_show 24 = .ok (.aload_n 0, 1) := by decide +kernel
set_option maxRecDepth 100000 in
theorem dX7_show_25 : decode cX7_show 25 = .ok (.iconst (-1), 1) := by decide +kernel
set_option maxRecDepth 100000 in
theorem dX7_show_26 : decode cX7_show 26 = .ok (.invokevirtual 133, 3) := by decide +kernel
set_option maxRecDepth 100000 in
theorem dX7_show_29 : decode cX7_show 29 = .ok (.ireturn, 1) := by decide +kernel
set_option maxRecDepth 100000 in
theorem dX7_show_30 : decode cX7_show 30 = .ok (.bipush 6, 2) := by decide +kernel
set_option maxRecDepth 100000 in
theorem dX7_show_32 : decode cX7_show 32 = .ok (.iload_n 2, 1) := by decide +kernel
set_option maxRecDepth 100000 in
theorem dX7_show_33 : decode cX7_show 33 = .ok (.iload_n 3, 1) := by decide +kernel
set_option maxRecDepth 100000 in
theorem dX7_show_34 : decode cX7_show 34 = .ok (.invokestatic 159, 3) := by decide +kernel
set_option maxRecDepth 100000 in
theorem dX7_show_37 : decode cX7_show 37 = .ok (.imul, 1) := by decide +kernel
set_option maxRecDepth 100000 in
theorem dX7_show_38 : decode cX7_show 38 = .ok (.iload_n 1, 1) := by decide +kernel
set_option maxRecDepth 100000 in
theorem dX7_show_39 : decode cX7_show 39 = .ok (.iadd, 1) := by decide +kernel
set_option maxRecDepth 100000 in
theorem dX7_show_40 : decode cX7_show 40 = .ok (.istore 5, 2) := by decide +kernel
set_option maxRecDepth 100000 in
theorem dX7_show_42 : decode cX7_show 42 = .ok (.aload_n 0, 1) := by decide +kernel
set_option maxRecDepth 100000 in
theorem dX7_show_43 : decode cX7_show 43 = .ok (.iload_n 2, 1) := by decide +kernel
set_option maxRecDepth 100000 in
theorem dX7_show_44 : decode cX7_show 44 = .ok (.iload_n 3, 1) := by decide +kernel
set_option maxRecDepth 100000 in
theorem dX7_show_45 : decode cX7_show 45 = .ok (.invokevirtual 382, 3) := by decide +kernel
set_option maxRecDepth 100000 in
theorem dX7_show_48 : decode cX7_show 48 = .ok (.ifCond .eq 35, 3) := by decide +kernel
set_option maxRecDepth 100000 in
theorem dX7_show_51 : decode cX7_show 51 = .ok (.aload_n 0, 1) := by decide +kernel
set_option maxRecDepth 100000 in
theorem dX7_show_52 : decode cX7_show 52 = .ok (.iload_n 2, 1) := by decide +kernel
set_option maxRecDepth 100000 in
theorem dX7_show_53 : decode cX7_show 53 = .ok (.iload_n 3, 1) := by decide +kernel
set_option maxRecDepth 100000 in
theorem dX7_show_54 : decode cX7_show 54 = .ok (.iconst 0, 1) := by decide +kernel
set_option maxRecDepth 100000 in
theorem dX7_show_55 : decode cX7_show 55 = .ok (.invokevirtual 385, 3) := by decide +kernel
set_option maxRecDepth 100000 in
theorem dX7_show_58 : decode cX7_show 58 = .ok (.iload_n 1, 1) := by decide +kernel
set_option maxRecDepth 100000 in
theorem dX7_show_59 : decode cX7_show 59 = .ok (.if_icmp .eq 14, 3) := by decide +kernel
set_option maxRecDepth 100000 in
theorem dX7_show_62 : decode cX7_show 62 = .ok (.aload_n 0, 1) := by decide +kernel
set_option maxRecDepth 100000 in
theorem dX7_show_63 : decode cX7_show 63 = .ok (.iload_n 2, 1) := by decide +kernel
set_option maxRecDepth 100000 in
theorem dX7_show_64 : decode cX7_show 64 = .ok (.iload_n 3, 1) := by decide +kernel
set_option maxRecDepth 100000 in
theorem dX7_show_65 : decode cX7_show 65 = .ok (.iconst 1, 1) := by decide +kernel
set_option maxRecDepth 100000 in
theorem dX7_show_66 : decode cX7_show 66 = .ok (.invokevirtual 385, 3) := by decide +kernel
set_option maxRecDepth 100000 in
theorem dX7_show_69 : decode cX7_show 69 = .ok (.iload_n 1, 1) := by decide +kernel
set_option maxRecDepth 100000 in
theorem dX7_show_70 : decode cX7_show 70 = .ok (.if_icmp .ne 13, 3) := by decide +kernel
set_option maxRecDepth 100000 in
theorem dX7_show_73 : decode cX7_show 73 = .ok (.aload_n 0, 1) := by decide +kernel
set_option maxRecDepth 100000 in
theorem dX7_show_74 : decode cX7_show 74 = .ok (.getfield 49, 3) := by decide +kernel
set_option maxRecDepth 100000 in
theorem dX7_show_77 : decode cX7_show 77 = .ok (.iload 5, 2) := by decide +kernel
set_option maxRecDepth 100000 in
theorem dX7_show_79 : decode cX7_show 79 = .ok (.iaload, 1) := by decide +kernel
set_option maxRecDepth 100000 in
theorem dX7_show_80 : decode cX7_show 80 = .ok (.ifCond .lt 10, 3) := by decide +kernel
set_option maxRecDepth 100000 in
theorem dX7_show_83 : decode cX7_show 83 = .ok (.aload_n 0, 1) := by decide +kernel
set_option maxRecDepth 100000 in
theorem dX7_show_84 : decode cX7_show 84 = .ok (.bipush (-3), 2) := by decide +kernel
set_option maxRecDepth 100000 in
theorem dX7_show_86 : decode cX7_show 86 = .ok (.invokevirtual 133, 3) := by decide +kernel
set_option maxRecDepth 100000 in
theorem dX7_show_89 : decode cX7_show 89 = .ok (.ireturn, 1) := by decide +kernel
set_option maxRecDepth 100000 in
theorem dX7_show_90 : decode cX7_show 90 = .ok (.iload 4, 2) := by decide +kernel
set_option maxRecDepth 100000 in
theorem dX7_show_92 : decode cX7_show 92 = .ok (.ifCond .ge 10, 3) := by decide +kernel
set_option maxRecDepth 100000 in
theorem dX7_show_95 : decode cX7_show 95 = .ok (.aload_n 0, 1) := by decide +kernel
set_option maxRecDepth 100000 in
theorem dX7_show_96 : decode cX7_show 96 = .ok (.bipush (-4), 2) := by decide +kernel
set_option maxRecDepth 100000 in
theorem dX7_show_98 : decode cX7_show 98 = .ok (.invokevirtual 133, 3) := by decide +kernel
set_option maxRecDepth 100000 in
theorem dX7_show_101 : decode cX7_show 101 = .ok (.ireturn, 1) := by decide +kernel
set_option maxRecDepth 100000 in
theorem dX7_show_102 : decode cX7_show 102 = .ok (.iload 4, 2) := by decide +kernel
set_option maxRecDepth 100000 in
theorem dX7_show_104 : decode cX7_show 104 = .ok (.aload_n 0, 1) := by decide +kernel
set_option maxRecDepth 100000 in
theorem dX7_show_105 : decode cX7_show 105 = .ok (.getfield 19, 3) := by decide +kernel
set_option maxRecDepth 100000 in
theorem dX7_show_108 : decode cX7_show 108 = .ok (.iload_n 3, 1) := by decide +kernel
set_option maxRecDepth 100000 in
theorem dX7_show_109 : decode cX7_show 109 = .ok (.iaload, 1) := by decide +kernel
set_option maxRecDepth 100000 in
theorem dX7_show_110 : decode cX7_show 110 = .ok (.if_icmp .le 10, 3) := by decide +kernel
set_option maxRecDepth 100000 in
theorem dX7_show_113 : decode cX7_show 113 = .ok (.aload_n 0, 1) := by decide +kernel
set_option maxRecDepth 100000 in
theorem dX7_show_114 : decode cX7_show 114 = .ok (.bipush (-6), 2) := by decide +kernel
set_option maxRecDepth 100000 in
theorem dX7_show_116 : decode cX7_show 116 = .ok (.invokevirtual 133, 3) := by decide +kernel
set_option maxRecDepth 100000 in
theorem dX7_show_119 : decode cX7_show 119 = .ok (.ireturn, 1) := by decide +kernel
set_option maxRecDepth 100000 in
theorem dX7_show_120 : decode cX7_show 120 = .ok (.aload_n 0, 1) := by decide +kernel
set_option maxRecDepth 100000 in
theorem dX7_show_121 : decode cX7_show 121 = .ok (.getfield 49, 3) := by decide +kernel
set_option maxRecDepth 100000 in
theorem dX7_show_124 : decode cX7_show 124 = .ok (.iload 5, 2) := by decide +kernel
set_option maxRecDepth 100000 in
theorem dX7_show_126 : decode cX7_show 126 = .ok (.iload 4, 2) := by decide +kernel
set_option maxRecDepth 100000 in
theorem dX7_show_128 : decode cX7_show 128 = .ok (.iastore, 1) := by decide +kernel
set_option maxRecDepth 100000 in
theorem dX7_show_129 : decode cX7_show 129 = .ok (.aload_n 0, 1) := by decide +kernel
set_option maxRecDepth 100000 in
theorem dX7_show_130 : decode cX7_show 130 = .ok (.dup, 1) := by decide +kernel
set_option maxRecDepth 100000 in
theorem dX7_show_131 : decode cX7_show 131 = .ok (.getfield 379, 3) := by decide +kernel
set_option maxRecDepth 100000 in
theorem dX7_show_134 : decode cX7_show 134 = .ok (.iconst 1, 1) := by decide +kernel
set_option maxRecDepth 100000 in
theorem dX7_show_135 : decode cX7_show 135 = .ok (.iadd, 1) := by decide +kernel
set_option maxRecDepth 100000 in
theorem dX7_show_136 : decode cX7_show 136 = .ok (.putfield 379, 3) := by decide +kernel
set_option maxRecDepth 100000 in
theorem dX7_show_139 : decode cX7_show 139 = .ok (.aload_n 0, 1) := by decide +kernel
set_option maxRecDepth 100000 in
theorem dX7_show_140 : decode cX7_show 140 = .ok (.iload_n 2, 1) := by decide +kernel
set_option maxRecDepth 100000 in
theorem dX7_show_141 : decode cX7_show 141 = .ok (.iload_n 3, 1) := by decide +kernel
set_option maxRecDepth 100000 in
theorem dX7_show_142 : decode cX7_show 142 = .ok (.invokevirtual 311, 3) := by decide +kernel
set_option maxRecDepth 100000 in
theorem dX7_show_145 : decode cX7_show 145 = .ok (.ireturn, 1) := by decide +kernel
set_option maxRecDepth 100000 in
theorem dX7_appeal_0 : decode cX7_appeal 0 = .ok (.aload_n 0, 1) := by decide +kernel
set_option maxRecDepth 100000 in
theorem dX7_appeal_1 : decode cX7_appeal 1 = .ok (.iload_n 1, 1) := by decide +kernel
set_option maxRecDepth 100000 in
theorem dX7_appeal_2 : decode cX7_appeal 2 = .ok (.invokevirtual 151, 3) := by decide +kernel
set_option maxRecDepth 100000 in
theorem dX7_appeal_5 : decode cX7_appeal 5 = .ok (.ifCond .eq 11, 3) := by decide +kernel
set_option maxRecDepth 100000 in
theorem dX7_appeal_8 : decode cX7_appeal 8 = .ok (.aload_n 0, 1) := by decide +kernel
set_option maxRecDepth 100000 in
theorem dX7_appeal_9 : decode cX7_appeal 9 = .ok (.iload_n 2, 1) := by decide +kernel
set_option maxRecDepth 100000 in
theorem dX7_appeal_10 : decode cX7_appeal 10 = .ok (.invokevirtual 156, 3) := by decide +kernel
set_option maxRecDepth 100000 in
theorem dX7_appeal_13 : decode cX7_appeal 13 = .ok (.ifCond .ne 9, 3) := by decide +kernel
set_option maxRecDepth 100000 in
theorem dX7_appeal_16 : decode cX7_appeal 16 = .ok (.aload_n 0, 1) := by decide +kernel
set_option maxRecDepth 100000 in
theorem dX7_appeal_17 : decode cX7_appeal 17 = .ok (.iconst (-1), 1) := by decide +kernel
set_option maxRecDepth 100000 in
theorem dX7_appeal_18 : decode cX7_appeal 18 = .ok (.invokevirtual 133, 3) := by decide +kernel
set_option maxRecDepth 100000 in
theorem dX7_appeal_21 : decode cX7_appeal 21 = .ok (.ireturn, 1) := by decide +kernel
set_option maxRecDepth 100000 in
theorem dX7_appeal_22 : decode cX7_appeal 22 = .ok (.iconst 3, 1) := by decide +kernel
set_option maxRecDepth 100000 in
theorem dX7_appeal_23 : decode cX7_appeal 23 = .ok (.iload_n 1, 1) := by decide +kernel
set_option maxRecDepth 100000 in
theorem dX7_appeal_24 : decode cX7_appeal 24 = .ok (.iload_n 2, 1) := by decide +kernel
set_option maxRecDepth 100000 in
theorem dX7_appeal_25 : decode cX7_appeal 25 = .ok (.invokestatic 159, 3) := by decide +kernel
set_option maxRecDepth 100000 in
theorem dX7_appeal_28 : decode cX7_appeal 28 = .ok (.imul, 1) := by decide +kernel
set_option maxRecDepth 100000 in
theorem dX7_appeal_29 : decode cX7_appeal 29 = .ok (.istore 4, 2) := by decide +kernel
set_option maxRecDepth 100000 in
theorem dX7_appeal_31 : decode cX7_appeal 31 = .ok (.iconst 2, 1) := by decide +kernel
set_option maxRecDepth 100000 in
theorem dX7_appeal_32 : decode cX7_appeal 32 = .ok (.istore 5, 2) := by decide +kernel
set_option maxRecDepth 100000 in
theorem dX7_appeal_34 : decode cX7_appeal 34 = .ok (.iload 5, 2) := by decide +kernel
set_option maxRecDepth 100000 in
theorem dX7_appeal_36 : decode cX7_appeal 36 = .ok (.ifCond .lt 22, 3) := by decide +kernel
set_option maxRecDepth 100000 in
theorem dX7_appeal_39 : decode cX7_appeal 39 = .ok (.aload_n 0, 1) := by decide +kernel
set_option maxRecDepth 100000 in
theorem dX7_appeal_40 : decode cX7_appeal 40 = .ok (.getfield 46, 3) := by decide +kernel
set_option maxRecDepth 100000 in
theorem dX7_appeal_43 : decode cX7_appeal 43 = .ok (.iload 4, 2) := by decide +kernel
set_option maxRecDepth 100000 in
theorem dX7_appeal_45 : decode cX7_appeal 45 = .ok (.iload 5, 2) := by decide +kernel
set_option maxRecDepth 100000 in
theorem dX7_appeal_47 : decode cX7_appeal 47 = .ok (.iadd, 1) := by decide +kernel
set_option maxRecDepth 100000 in
theorem dX7_appeal_48 : decode cX7_appeal 48 = .ok (.iaload, 1) := by decide +kernel
set_option maxRecDepth 100000 in
theorem dX7_appeal_49 : decode cX7_appeal 49 = .ok (.ifCond .ge 9, 3) := by decide +kernel
set_option maxRecDepth 100000 in
theorem dX7_appeal_52 : decode cX7_appeal 52 = .ok (.iinc 5 (-1), 3) := by decide +kernel
set_option maxRecDepth 100000 in
theorem dX7_appeal_55 : decode cX7_appeal 55 = .ok (.goto (-21), 3) := by decide +kernel
set_option maxRecDepth 100000 in
theorem dX7_appeal_58 : decode cX7_appeal 58 = .ok (.aload_n 0, 1) := by decide +kernel
set_option maxRecDepth 100000 in
theorem dX7_appeal_59 : decode cX7_appeal 59 = .ok (.getfield 16, 3) := by decide +kernel
set_option maxRecDepth 100000 in
theorem dX7_appeal_62 : decode cX7_appeal 62 = .ok (.iload_n 2, 1) := by decide +kernel
set_option maxRecDepth 100000 in
theorem dX7_appeal_63 : decode cX7_appeal 63 = .ok (.iaload, 1) := by decide +kernel
set_option maxRecDepth 100000 in
theorem dX7_appeal_64 : decode cX7_appeal 64 = .ok (.iconst 3, 1) := by decide +kernel
set_option maxRecDepth 100000 in
theorem dX7_appeal_65 : decode cX7_appeal 65 = .ok (.if_icmp .eq 8, 3) := by decide +kernel
set_option maxRecDepth 100000 in
theorem dX7_appeal_68 : decode cX7_appeal 68 = .ok (.iload 5, 2) := by decide +kernel
set_option maxRecDepth 100000 in
theorem dX7_appeal_70 : decode cX7_appeal 70 = .ok (.ifCond .ge 10, 3) := by decide +kernel
set_option maxRecDepth 100000 in
theorem dX7_appeal_73 : decode cX7_appeal 73 = .ok (.aload_n 0, 1) := by decide +kernel
set_option maxRecDepth 100000 in
theorem dX7_appeal_74 : decode cX7_appeal 74 = .ok (.bipush (-3), 2) := by decide +kernel
set_option maxRecDepth 100000 in
theorem dX7_appeal_76 : decode cX7_appeal 76 = .ok (.invokevirtual 133, 3) := by decide +kernel
set_option maxRecDepth 100000 in
theorem dX7_appeal_79 : decode cX7_appeal 79 = .ok (.ireturn, 1) := by decide +kernel
set_option maxRecDepth 100000 in
theorem dX7_appeal_80 : decode cX7_appeal 80 = .ok (.iload_n 3, 1) := by decide +kernel
set_option maxRecDepth 100000 in
theorem dX7_appeal_81 : decode cX7_appeal 81 = .ok (.ifCond .ge 10, 3) := by decide +kernel
set_option maxRecDepth 100000 in
theorem dX7_appeal_84 : decode cX7_appeal 84 = .ok (.aload_n 0, 1) := by decide +kernel
set_option maxRecDepth 100000 in
theorem dX7_appeal_85 : decode cX7_appeal 85 = .ok (.bipush (-4), 2) := by decide +kernel
set_option maxRecDepth 100000 in
theorem dX7_appeal_87 : decode cX7_appeal 87 = .ok (.invokevirtual 133, 3) := by decide +kernel
set_option maxRecDepth 100000 in
theorem dX7_appeal_90 : decode cX7_appeal 90 = .ok (.ireturn, 1) := by decide +kernel
set_option maxRecDepth 100000 in
theorem dX7_appeal_91 : decode cX7_appeal 91 = .ok (.iload_n 3, 1) := by decide +kernel
set_option maxRecDepth 100000 in
theorem dX7_appeal_92 : decode cX7_appeal 92 = .ok (.aload_n 0, 1) := by decide +kernel
set_option maxRecDepth 100000 in
theorem dX7_appeal_93 : decode cX7_appeal 93 = .ok (.getfield 19, 3) := by decide +kernel
set_option maxRecDepth 100000 in
theorem dX7_appeal_96 : decode cX7_appeal 96 = .ok (.iload_n 2, 1) := by decide +kernel
set_option maxRecDepth 100000 in
theorem dX7_appeal_97 : decode cX7_appeal 97 = .ok (.iaload, 1) := by decide +kernel
set_option maxRecDepth 100000 in
theorem dX7_appeal_98 : decode cX7_appeal 98 = .ok (.if_icmp .le 10, 3) := by decide +kernel
set_option maxRecDepth 100000 in
theorem dX7_appeal_101 : decode cX7_appeal 101 = .ok (.aload_n 0, 1) := by decide +kernel
set_option maxRecDepth 100000 in
theorem dX7_appeal_102 : decode cX7_appeal 102 = .ok (.bipush (-6), 2) := by decide +kernel
set_option maxRecDepth 100000 in
theorem dX7_appeal_104 : decode cX7_appeal 104 = .ok (.invokevirtual 133, 3) := by decide +kernel
set_option maxRecDepth 100000 in
theorem dX7_appeal_107 : decode cX7_appeal 107 = .ok (.ireturn, 1) := by decide +kernel
set_option maxRecDepth 100000 in
theorem dX7_appeal_108 : decode cX7_appeal 108 = .ok (.aload_n 0, 1) := by decide +kernel
set_option maxRecDepth 100000 in
theorem dX7_appeal_109 : decode cX7_appeal 109 = .ok (.getfield 46, 3) := by decide +kernel
set_option maxRecDepth 100000 in
theorem dX7_appeal_112 : decode cX7_appeal 112 = .ok (.iload 4, 2) := by decide +kernel
set_option maxRecDepth 100000 in
theorem dX7_appeal_114 : decode cX7_appeal 114 = .ok (.iload 5, 2) := by decide +kernel
set_option maxRecDepth 100000 in
theorem dX7_appeal_116 : decode cX7_appeal 116 = .ok (.iadd, 1) := by decide +kernel
set_option maxRecDepth 100000 in
theorem dX7_appeal_117 : decode cX7_appeal 117 = .ok (.iaload, 1) := by decide +kernel
set_option maxRecDepth 100000 in
theorem dX7_appeal_118 : decode cX7_appeal 118 = .ok (.istore 6, 2) := by decide +kernel
set_option maxRecDepth 100000 in
theorem dX7_appeal_120 : decode cX7_appeal 120 = .ok (.aload_n 0, 1) := by decide +kernel
set_option maxRecDepth 100000 in
theorem dX7_appeal_121 : decode cX7_appeal 121 = .ok (.getfield 46, 3) := by decide +kernel
set_option maxRecDepth 100000 in
theorem dX7_appeal_124 : decode cX7_appeal 124 = .ok (.iload 4, 2) := by decide +kernel
set_option maxRecDepth 100000 in
theorem dX7_appeal_126 : decode cX7_appeal 126 = .ok (.iload 5, 2) := by decide +kernel
set_option maxRecDepth 100000 in
theorem dX7_appeal_128 : decode cX7_appeal 128 = .ok (.iadd, 1) := by decide +kernel
set_option maxRecDepth 100000 in
theorem dX7_appeal_129 : decode cX7_appeal 129 = .ok (.iload_n 3, 1) := by decide +kernel
set_option maxRecDepth 100000 in
theorem dX7_appeal_130 : decode cX7_appeal 130 = .ok (.iastore, 1) := by decide +kernel
set_option maxRecDepth 100000 in
theorem dX7_appeal_131 : decode cX7_appeal 131 = .ok (.aload_n 0, 1) := by decide +kernel
set_option maxRecDepth 100000 in
theorem dX7_appeal_132 : decode cX7_appeal 132 = .ok (.dup, 1) := by decide +kernel
set_option maxRecDepth 100000 in
theorem dX7_appeal_133 : decode cX7_appeal 133 = .ok (.getfield 388, 3) := by decide +kernel
set_option maxRecDepth 100000 in
theorem dX7_appeal_136 : decode cX7_appeal 136 = .ok (.iconst 1, 1) := by decide +kernel
set_option maxRecDepth 100000 in
theorem dX7_appeal_137 : decode cX7_appeal 137 = .ok (.iadd, 1) := by decide +kernel
set_option maxRecDepth 100000 in
theorem dX7_appeal_138 : decode cX7_appeal 138 = .ok (.putfield 388, 3) := by decide +kernel
set_option maxRecDepth 100000 in
theorem dX7_appeal_141 : decode cX7_appeal 141 = .ok (.iload 6, 2) := by decide +kernel
set_option maxRecDepth 100000 in
theorem dX7_appeal_143 : decode cX7_appeal 143 = .ok (.ireturn, 1) := by decide +kernel
set_option maxRecDepth 100000 in
theorem dX7_markOf_0 : decode cX7_markOf 0 = .ok (.aload_n 0, 1) := by decide +kernel
set_option maxRecDepth 100000 in
theorem dX7_markOf_1 : decode cX7_markOf 1 = .ok (.iload_n 1, 1) := by decide +kernel
set_option maxRecDepth 100000 in
theorem dX7_markOf_2 : decode cX7_markOf 2 = .ok (.invokevirtual 151, 3) := by decide +kernel
set_option maxRecDepth 100000 in
theorem dX7_markOf_5 : decode cX7_markOf 5 = .ok (.ifCond .eq 11, 3) := by decide +kernel
set_option maxRecDepth 100000 in
theorem dX7_markOf_8 : decode cX7_markOf 8 = .ok (.aload_n 0, 1) := by decide +kernel
set_option maxRecDepth 100000 in
theorem dX7_markOf_9 : decode cX7_markOf 9 = .ok (.iload_n 2, 1) := by decide +kernel
set_option maxRecDepth 100000 in
theorem dX7_markOf_10 : decode cX7_markOf 10 = .ok (.invokevirtual 156, 3) := by decide +kernel
set_option maxRecDepth 100000 in
theorem dX7_markOf_13 : decode cX7_markOf 13 = .ok (.ifCond .ne 9, 3) := by decide +kernel
set_option maxRecDepth 100000 in
theorem dX7_markOf_16 : decode cX7_markOf 16 = .ok (.aload_n 0, 1) := by decide +kernel
set_option maxRecDepth 100000 in
theorem dX7_markOf_17 : decode cX7_markOf 17 = .ok (.iconst (-1), 1) := by decide +kernel
set_option maxRecDepth 100000 in
theorem dX7_markOf_18 : decode cX7_markOf 18 = .ok (.invokevirtual 133, 3) := by decide +kernel
set_option maxRecDepth 100000 in
theorem dX7_markOf_21 : decode cX7_markOf 21 = .ok (.ireturn, 1) := by decide +kernel
set_option maxRecDepth 100000 in
theorem dX7_markOf_22 : decode cX7_markOf 22 = .ok (.iload_n 3, 1) := by decide +kernel
set_option maxRecDepth 100000 in
theorem dX7_markOf_23 : decode cX7_markOf 23 = .ok (.iconst 5, 1) := by decide +kernel
set_option maxRecDepth 100000 in
theorem dX7_markOf_24 : decode cX7_markOf 24 = .ok (.invokestatic 141, 3) := by decide +kernel
set_option maxRecDepth 100000 in
theorem dX7_markOf_27 : decode cX7_markOf 27 = .ok (.ifCond .ne 10, 3) := by decide +kernel
set_option maxRecDepth 100000 in
theorem dX7_markOf_30 : decode cX7_markOf 30 = .ok (.aload_n 0, 1) := by decide +kernel
set_option maxRecDepth 100000 in
theorem dX7_markOf_31 : decode cX7_markOf 31 = .ok (.bipush (-2), 2) := by decide +kernel
set_option maxRecDepth 100000 in
theorem dX7_markOf_33 : decode cX7_markOf 33 = .ok (.invokevirtual 133, 3) := by decide +kernel
set_option maxRecDepth 100000 in
theorem dX7_markOf_36 : decode cX7_markOf 36 = .ok (.ireturn, 1) := by decide +kernel
set_option maxRecDepth 100000 in
theorem dX7_markOf_37 : decode cX7_markOf 37 = .ok (.iload_n 1, 1) := by decide +kernel
set_option maxRecDepth 100000 in
theorem dX7_markOf_38 : decode cX7_markOf 38 = .ok (.iload_n 2, 1) := by decide +kernel
set_option maxRecDepth 100000 in
theorem dX7_markOf_39 : decode cX7_markOf 39 = .ok (.invokestatic 159, 3) := by decide +kernel
set_option maxRecDepth 100000 in
theorem dX7_markOf_42 : decode cX7_markOf 42 = .ok (.istore 4, 2) := by decide +kernel
set_option maxRecDepth 100000 in
theorem dX7_markOf_44 : decode cX7_markOf 44 = .ok (.aload_n 0, 1) := by decide +kernel
set_option maxRecDepth 100000 in
theorem dX7_markOf_45 : decode cX7_markOf 45 = .ok (.getfield 52, 3) := by decide +kernel
set_option maxRecDepth 100000 in
theorem dX7_markOf_48 : decode cX7_markOf 48 = .ok (.iload 4, 2) := by decide +kernel
set_option maxRecDepth 100000 in
theorem dX7_markOf_50 : decode cX7_markOf 50 = .ok (.baload, 1) := by decide +kernel
set_option maxRecDepth 100000 in
theorem dX7_markOf_51 : decode cX7_markOf 51 = .ok (.ifCond .ne 16, 3) := by decide +kernel
set_option maxRecDepth 100000 in
theorem dX7_markOf_54 : decode cX7_markOf 54 = .ok (.aload_n 0, 1) := by decide +kernel
set_option maxRecDepth 100000 in
theorem dX7_markOf_55 : decode cX7_markOf 55 = .ok (.iload_n 1, 1) := by decide +kernel
set_option maxRecDepth 100000 in
theorem dX7_markOf_56 : decode cX7_markOf 56 = .ok (.iload_n 2, 1) := by decide +kernel
set_option maxRecDepth 100000 in
theorem dX7_markOf_57 : decode cX7_markOf 57 = .ok (.invokevirtual 324, 3) := by decide +kernel
set_option maxRecDepth 100000 in
theorem dX7_markOf_60 : decode cX7_markOf 60 = .ok (.ifCond .eq 7, 3) := by decide +kernel
set_option maxRecDepth 100000 in
theorem dX7_markOf_63 : decode cX7_markOf 63 = .ok (.iconst 1, 1) := by decide +kernel
set_option maxRecDepth 100000 in
theorem dX7_markOf_64 : decode cX7_markOf 64 = .ok (.goto 4, 3) := by decide +kernel
set_option maxRecDepth 100000 in
theorem dX7_markOf_67 : decode cX7_markOf 67 = .ok (.iconst 0, 1) := by decide +kernel
set_option maxRecDepth 100000 in
theorem dX7_markOf_68 : decode cX7_markOf 68 = .ok (.istore 5, 2) := by decide +kernel
set_option maxRecDepth 100000 in
theorem dX7_markOf_70 : decode cX7_markOf 70 = .ok (.iload_n 3, 1) := by decide +kernel
set_option maxRecDepth 100000 in
theorem dX7_markOf_71 : decode cX7_markOf 71 = .ok (.iconst 4, 1) := by decide +kernel
set_option maxRecDepth 100000 in
theorem dX7_markOf_72 : decode cX7_markOf 72 = .ok (.if_icmp .ne 11, 3) := by decide +kernel
set_option maxRecDepth 100000 in
theorem dX7_markOf_75 : decode cX7_markOf 75 = .ok (.aload_n 0, 1) := by decide +kernel
set_option maxRecDepth 100000 in
theorem dX7_markOf_76 : decode cX7_markOf 76 = .ok (.getfield 37, 3) := by decide +kernel
set_option maxRecDepth 100000 in
theorem dX7_markOf_79 : decode cX7_markOf 79 = .ok (.iload 4, 2) := by decide +kernel
set_option maxRecDepth 100000 in
theorem dX7_markOf_81 : decode cX7_markOf 81 = .ok (.iaload, 1) := by decide +kernel
set_option maxRecDepth 100000 in
theorem dX7_markOf_82 : decode cX7_markOf 82 = .ok (.ireturn, 1) := by decide +kernel
set_option maxRecDepth 100000 in
theorem dX7_markOf_83 : decode cX7_markOf 83 = .ok (.iload_n 3, 1) := by decide +kernel
set_option maxRecDepth 100000 in
theorem dX7_markOf_84 : decode cX7_markOf 84 = .ok (.iconst 3, 1) := by decide +kernel
set_option maxRecDepth 100000 in
theorem dX7_markOf_85 : decode cX7_markOf 85 = .ok (.if_icmp .ne 48, 3) := by decide +kernel
set_option maxRecDepth 100000 in
theorem dX7_markOf_88 : decode cX7_markOf 88 = .ok (.aload_n 0, 1) := by decide +kernel
set_option maxRecDepth 100000 in
theorem dX7_markOf_89 : decode cX7_markOf 89 = .ok (.getfield 37, 3) := by decide +kernel
set_option maxRecDepth 100000 in
theorem dX7_markOf_92 : decode cX7_markOf 92 = .ok (.iload 4, 2) := by decide +kernel
set_option maxRecDepth 100000 in
theorem dX7_markOf_94 : decode cX7_markOf 94 = .ok (.iaload, 1) := by decide +kernel
set_option maxRecDepth 100000 in
theorem dX7_markOf_95 : decode cX7_markOf 95 = .ok (.ifCond .ne 8, 3) := by decide +kernel
set_option maxRecDepth 100000 in
theorem dX7_markOf_98 : decode cX7_markOf 98 = .ok (.bipush (-9), 2) := by decide +kernel
set_option maxRecDepth 100000 in
theorem dX7_markOf_100 : decode cX7_markOf 100 = .ok (.goto 32, 3) := by decide +kernel
set_option maxRecDepth 100000 in
theorem dX7_markOf_103 : decode cX7_markOf 103 = .ok (.aload_n 0, 1) := by decide +kernel
set_option maxRecDepth 100000 in
theorem dX7_markOf_104 : decode cX7_markOf 104 = .ok (.iload_n 1, 1) := by decide +kernel
set_option maxRecDepth 100000 in
theorem dX7_markOf_105 : decode cX7_markOf 105 = .ok (.iload_n 2, 1) := by decide +kernel
set_option maxRecDepth 100000 in
theorem dX7_markOf_106 : decode cX7_markOf 106 = .ok (.aload_n 0, 1) := by decide +kernel
set_option maxRecDepth 100000 in
theorem dX7_markOf_107 : decode cX7_markOf 107 = .ok (.getfield 16, 3) := by decide +kernel
set_option maxRecDepth 100000 in
theorem dX7_markOf_110 : decode cX7_markOf 110 = .ok (.iload_n 2, 1) := by decide +kernel
set_option maxRecDepth 100000 in
theorem dX7_markOf_111 : decode cX7_markOf 111 = .ok (.iaload, 1) := by decide +kernel
set_option maxRecDepth 100000 in
theorem dX7_markOf_112 : decode cX7_markOf 112 = .ok (.iconst 2, 1) := by decide +kernel
set_option maxRecDepth 100000 in
theorem dX7_markOf_113 : decode cX7_markOf 113 = .ok (.if_icmp .ne 15, 3) := by decide +kernel
set_option maxRecDepth 100000 in
theorem dX7_markOf_116 : decode cX7_markOf 116 = .ok (.aload_n 0, 1) := by decide +kernel
set_option maxRecDepth 100000 in
theorem dX7_markOf_117 : decode cX7_markOf 117 = .ok (.getfield 37, 3) := by decide +kernel
set_option maxRecDepth 100000 in
theorem dX7_markOf_120 : decode cX7_markOf 120 = .ok (.iload 4, 2) := by decide +kernel
set_option maxRecDepth 100000 in
theorem dX7_markOf_122 : decode cX7_markOf 122 = .ok (.iaload, 1) := by decide +kernel
set_option maxRecDepth 100000 in
theorem dX7_markOf_123 : decode cX7_markOf 123 = .ok (.iconst 1, 1) := by decide +kernel
set_option maxRecDepth 100000 in
theorem dX7_markOf_124 : decode cX7_markOf 124 = .ok (.isub, 1) := by decide +kernel
set_option maxRecDepth 100000 in
theorem dX7_markOf_125 : decode cX7_markOf 125 = .ok (.goto 4, 3) := by decide +kernel
set_option maxRecDepth 100000 in
theorem dX7_markOf_128 : decode cX7_markOf 128 = .ok (.iconst 0, 1) := by decide +kernel
set_option maxRecDepth 100000 in
theorem dX7_markOf_129 : decode cX7_markOf 129 = .ok (.invokevirtual 304, 3) := by decide +kernel
set_option maxRecDepth 100000 in
theorem dX7_markOf_132 : decode cX7_markOf 132 = .ok (.ireturn, 1) := by decide +kernel
set_option maxRecDepth 100000 in
theorem dX7_markOf_133 : decode cX7_markOf 133 = .ok (.iload_n 3, 1) := by decide +kernel
set_option maxRecDepth 100000 in
theorem dX7_markOf_134 : decode cX7_markOf 134 = .ok (.iconst 2, 1) := by decide +kernel
set_option maxRecDepth 100000 in
theorem dX7_markOf_135 : decode cX7_markOf 135 = .ok (.if_icmp .ne 28, 3) := by decide +kernel
set_option maxRecDepth 100000 in
theorem dX7_markOf_138 : decode cX7_markOf 138 = .ok (.aload_n 0, 1) := by decide +kernel
set_option maxRecDepth 100000 in
theorem dX7_markOf_139 : decode cX7_markOf 139 = .ok (.getfield 52, 3) := by decide +kernel
set_option maxRecDepth 100000 in
theorem dX7_markOf_142 : decode cX7_markOf 142 = .ok (.iload 4, 2) := by decide +kernel
set_option maxRecDepth 100000 in
theorem dX7_markOf_144 : decode cX7_markOf 144 = .ok (.baload, 1) := by decide +kernel
set_option maxRecDepth 100000 in
theorem dX7_markOf_145 : decode cX7_markOf 145 = .ok (.ifCond .eq 7, 3) := by decide +kernel
set_option maxRecDepth 100000 in
theorem dX7_markOf_148 : decode cX7_markOf 148 = .ok (.iconst 0, 1) := by decide +kernel
set_option maxRecDepth 100000 in
theorem dX7_markOf_149 : decode cX7_markOf 149 = .ok (.goto 13, 3) := by decide +kernel
set_option maxRecDepth 100000 in
theorem dX7_markOf_152 : decode cX7_markOf 152 = .ok (.iload 5, 2) := by decide +kernel
set_option maxRecDepth 100000 in
theorem dX7_markOf_154 : decode cX7_markOf 154 = .ok (.ifCond .eq 7, 3) := by decide +kernel
set_option maxRecDepth 100000 in
theorem dX7_markOf_157 : decode cX7_markOf 157 = .ok (.iconst 1, 1) := by decide +kernel
set_option maxRecDepth 100000 in
theorem dX7_markOf_158 : decode cX7_markOf 158 = .ok (.goto 4, 3) := by decide +kernel
set_option maxRecDepth 100000 in
theorem dX7_markOf_161 : decode cX7_markOf 161 = .ok (.iconst 2, 1) := by decide +kernel
set_option maxRecDepth 100000 in
theorem dX7_markOf_162 : decode cX7_markOf 162 = .ok (.ireturn, 1) := by decide +kernel
set_option maxRecDepth 100000 in
theorem dX7_markOf_163 : decode cX7_markOf 163 = .ok (.iload 5, 2) := by decide +kernel
set_option maxRecDepth 100000 in
theorem dX7_markOf_165 : decode cX7_markOf 165 = .ok (.ifCond .ne 5, 3) := by decide +kernel
set_option maxRecDepth 100000 in
theorem dX7_markOf_168 : decode cX7_markOf 168 = .ok (.iload_n 3, 1) := by decide +kernel
set_option maxRecDepth 100000 in
theorem dX7_markOf_169 : decode cX7_markOf 169 = .ok (.ireturn, 1) := by decide +kernel
set_option maxRecDepth 100000 in
theorem dX7_markOf_170 : decode cX7_markOf 170 = .ok (.aload_n 0, 1) := by decide +kernel
set_option maxRecDepth 100000 in
theorem dX7_markOf_171 : decode cX7_markOf 171 = .ok (.iload_n 1, 1) := by decide +kernel
set_option maxRecDepth 100000 in
theorem dX7_markOf_172 : decode cX7_markOf 172 = .ok (.iload_n 2, 1) := by decide +kernel
set_option maxRecDepth 100000 in
theorem dX7_markOf_173 : decode cX7_markOf 173 = .ok (.invokevirtual 333, 3) := by decide +kernel
set_option maxRecDepth 100000 in
theorem dX7_markOf_176 : decode cX7_markOf 176 = .ok (.iload_n 3, 1) := by decide +kernel
set_option maxRecDepth 100000 in
theorem dX7_markOf_177 : decode cX7_markOf 177 = .ok (.ifCond .ne 10, 3) := by decide +kernel
set_option maxRecDepth 100000 in
theorem dX7_markOf_180 : decode cX7_markOf 180 = .ok (.aload_n 0, 1) := by decide +kernel
set_option maxRecDepth 100000 in
theorem dX7_markOf_181 : decode cX7_markOf 181 = .ok (.getfield 255, 3) := by decide +kernel
set_option maxRecDepth 100000 in
theorem dX7_markOf_184 : decode cX7_markOf 184 = .ok (.goto 7, 3) := by decide +kernel
set_option maxRecDepth 100000 in
theorem dX7_markOf_187 : decode cX7_markOf 187 = .ok (.aload_n 0, 1) := by decide +kernel
set_option maxRecDepth 100000 in
theorem dX7_markOf_188 : decode cX7_markOf 188 = .ok (.getfield 259, 3) := by decide +kernel
set_option maxRecDepth 100000 in
theorem dX7_markOf_191 : decode cX7_markOf 191 = .ok (.l2i, 1) := by decide +kernel
set_option maxRecDepth 100000 in
theorem dX7_markOf_192 : decode cX7_markOf 192 = .ok (.ireturn, 1) := by decide +kernel
set_option maxRecDepth 100000 in
theorem dX7_value_0 : decode cX7_value 0 = .ok (.aload_n 0, 1) := by decide +kernel
set_option maxRecDepth 100000 in
theorem dX7_value_1 : decode cX7_value 1 = .ok (.iload_n 1, 1) := by decide +kernel
set_option maxRecDepth 100000 in
theorem dX7_value_2 : decode cX7_value 2 = .ok (.invokevirtual 151, 3) := by decide +kernel
set_option maxRecDepth 100000 in
theorem dX7_value_5 : decode cX7_value 5 = .ok (.ifCond .eq 11, 3) := by decide +kernel
set_option maxRecDepth 100000 in
theorem dX7_value_8 : decode cX7_value 8 = .ok (.aload_n 0, 1) := by decide +kernel
set_option maxRecDepth 100000 in
theorem dX7_value_9 : decode cX7_value 9 = .ok (.iload_n 2, 1) := by decide +kernel
set_option maxRecDepth 100000 in
theorem dX7_value_10 : decode cX7_value 10 = .ok (.invokevirtual 289, 3) := by decide +kernel
set_option maxRecDepth 100000 in
theorem dX7_value_13 : decode cX7_value 13 = .ok (.ifCond .ne 9, 3) := by decide +kernel
set_option maxRecDepth 100000 in
theorem dX7_value_16 : decode cX7_value 16 = .ok (.aload_n 0, 1) := by decide +kernel
set_option maxRecDepth 100000 in
theorem dX7_value_17 : decode cX7_value 17 = .ok (.iconst (-1), 1) := by decide +kernel
set_option maxRecDepth 100000 in
theorem dX7_value_18 : decode cX7_value 18 = .ok (.invokevirtual 391, 3) := by decide +kernel
set_option maxRecDepth 100000 in
theorem dX7_value_21 : decode cX7_value 21 = .ok (.ireturn, 1) := by decide +kernel
set_option maxRecDepth 100000 in
theorem dX7_value_22 : decode cX7_value 22 = .ok (.iload_n 3, 1) := by decide +kernel
set_option maxRecDepth 100000 in
theorem dX7_value_23 : decode cX7_value 23 = .ok (.iconst 3, 1) := by decide +kernel
set_option maxRecDepth 100000 in
theorem dX7_value_24 : decode cX7_value 24 = .ok (.invokestatic 141, 3) := by decide +kernel
set_option maxRecDepth 100000 in
theorem dX7_value_27 : decode cX7_value 27 = .ok (.ifCond .ne 10, 3) := by decide +kernel
set_option maxRecDepth 100000 in
theorem dX7_value_30 : decode cX7_value 30 = .ok (.aload_n 0, 1) := by decide +kernel
set_option maxRecDepth 100000 in
theorem dX7_value_31 : decode cX7_value 31 = .ok (.bipush (-2), 2) := by decide +kernel
set_option maxRecDepth 100000 in
theorem dX7_value_33 : decode cX7_value 33 = .ok (.invokevirtual 391, 3) := by decide +kernel
set_option maxRecDepth 100000 in
theorem dX7_value_36 : decode cX7_value 36 = .ok (.ireturn, 1) := by decide +kernel
set_option maxRecDepth 100000 in
theorem dX7_value_37 : decode cX7_value 37 = .ok (.aload_n 0, 1) := by decide +kernel
set_option maxRecDepth 100000 in
theorem dX7_value_38 : decode cX7_value 38 = .ok (.iload_n 1, 1) := by decide +kernel
set_option maxRecDepth 100000 in
theorem dX7_value_39 : decode cX7_value 39 = .ok (.invokevirtual 246, 3) := by decide +kernel
set_option maxRecDepth 100000 in
theorem dX7_value_42 : decode cX7_value 42 = .ok (.aload_n 0, 1) := by decide +kernel
set_option maxRecDepth 100000 in
theorem dX7_value_43 : decode cX7_value 43 = .ok (.iload_n 2, 1) := by decide +kernel
set_option maxRecDepth 100000 in
theorem dX7_value_44 : decode cX7_value 44 = .ok (.invokevirtual 249, 3) := by decide +kernel
set_option maxRecDepth 100000 in
theorem dX7_value_47 : decode cX7_value 47 = .ok (.iload_n 3, 1) := by decide +kernel
set_option maxRecDepth 100000 in
theorem dX7_value_48 : decode cX7_value 48 = .ok (.iconst 2, 1) := by decide +kernel
set_option maxRecDepth 100000 in
theorem dX7_value_49 : decode cX7_value 49 = .ok (.if_icmp .ne 8, 3) := by decide +kernel
set_option maxRecDepth 100000 in
theorem dX7_value_52 : decode cX7_value 52 = .ok (.aload_n 0, 1) := by decide +kernel
set_option maxRecDepth 100000 in
theorem dX7_value_53 : decode cX7_value 53 = .ok (.getfield 252, 3) := by decide +kernel
set_option maxRecDepth 100000 in
theorem dX7_value_56 : decode cX7_value 56 = .ok (.ireturn, 1) := by decide +kernel
set_option maxRecDepth 100000 in
theorem dX7_value_57 : decode cX7_value 57 = .ok (.aload_n 0, 1) := by decide +kernel
set_option maxRecDepth 100000 in
theorem dX7_value_58 : decode cX7_value 58 = .ok (.getfield 252, 3) := by decide +kernel
set_option maxRecDepth 100000 in
theorem dX7_value_61 : decode cX7_value 61 = .ok (.iconst 1, 1) := by decide +kernel
set_option maxRecDepth 100000 in
theorem dX7_value_62 : decode cX7_value 62 = .ok (.if_icmp .eq 5, 3) := by decide +kernel
set_option maxRecDepth 100000 in
theorem dX7_value_65 : decode cX7_value 65 = .ok (.iload_n 3, 1) := by decide +kernel
set_option maxRecDepth 100000 in
theorem dX7_value_66 : decode cX7_value 66 = .ok (.ireturn, 1) := by decide +kernel
set_option maxRecDepth 100000 in
theorem dX7_value_67 : decode cX7_value 67 = .ok (.iload_n 3, 1) := by decide +kernel
set_option maxRecDepth 100000 in
theorem dX7_value_68 : decode cX7_value 68 = .ok (.ifCond .ne 10, 3) := by decide +kernel
set_option maxRecDepth 100000 in
theorem dX7_value_71 : decode cX7_value 71 = .ok (.aload_n 0, 1) := by decide +kernel
set_option maxRecDepth 100000 in
theorem dX7_value_72 : decode cX7_value 72 = .ok (.getfield 255, 3) := by decide +kernel
set_option maxRecDepth 100000 in
theorem dX7_value_75 : decode cX7_value 75 = .ok (.goto 7, 3) := by decide +kernel
set_option maxRecDepth 100000 in
theorem dX7_value_78 : decode cX7_value 78 = .ok (.aload_n 0, 1) := by decide +kernel
set_option maxRecDepth 100000 in
theorem dX7_value_79 : decode cX7_value 79 = .ok (.getfield 259, 3) := by decide +kernel
set_option maxRecDepth 100000 in
theorem dX7_value_82 : decode cX7_value 82 = .ok (.l2i, 1) := by decide +kernel
set_option maxRecDepth 100000 in
theorem dX7_value_83 : decode cX7_value 83 = .ok (.ireturn, 1) := by decide +kernel
set_option maxRecDepth 100000 in
theorem dX7_looks_0 : decode cX7_looks 0 = .ok (.aload_n 0, 1) := by decide +kernel
set_option maxRecDepth 100000 in
theorem dX7_looks_1 : decode cX7_looks 1 = .ok (.invokevirtual 330, 3) := by decide +kernel
set_option maxRecDepth 100000 in
theorem dX7_looks_4 : decode cX7_looks 4 = .ok (.aload_n 0, 1) := by decide +kernel
set_option maxRecDepth 100000 in
theorem dX7_looks_5 : decode cX7_looks 5 = .ok (.iload_n 1, 1) := by decide +kernel
set_option maxRecDepth 100000 in
theorem dX7_looks_6 : decode cX7_looks 6 = .ok (.invokevirtual 249, 3) := by decide +kernel
set_option maxRecDepth 100000 in
theorem dX7_looks_9 : decode cX7_looks 9 = .ok (.aload_n 0, 1) := by decide +kernel
set_option maxRecDepth 100000 in
theorem dX7_looks_10 : decode cX7_looks 10 = .ok (.getfield 252, 3) := by decide +kernel
set_option maxRecDepth 100000 in
theorem dX7_looks_13 : decode cX7_looks 13 = .ok (.iconst 1, 1) := by decide +kernel
set_option maxRecDepth 100000 in
theorem dX7_looks_14 : decode cX7_looks 14 = .ok (.if_icmp .eq 4, 3) := by decide +kernel
set_option maxRecDepth 100000 in
theorem dX7_looks_17 : decode cX7_looks 17 = .ok (.return_, 1) := by decide +kernel
set_option maxRecDepth 100000 in
theorem dX7_looks_18 : decode cX7_looks 18 = .ok (.aload_n 0, 1) := by decide +kernel
set_option maxRecDepth 100000 in
theorem dX7_looks_19 : decode cX7_looks 19 = .ok (.getfield 394, 3) := by decide +kernel
set_option maxRecDepth 100000 in
theorem dX7_looks_22 : decode cX7_looks 22 = .ok (.ifCond .eq 25, 3) := by decide +kernel
set_option maxRecDepth 100000 in
theorem dX7_looks_25 : decode cX7_looks 25 = .ok (.aload_n 0, 1) := by decide +kernel
set_option maxRecDepth 100000 in
theorem dX7_looks_26 : decode cX7_looks 26 = .ok (.getfield 255, 3) := by decide +kernel
set_option maxRecDepth 100000 in
theorem dX7_looks_29 : decode cX7_looks 29 = .ok (.aload_n 0, 1) := by decide +kernel
set_option maxRecDepth 100000 in
theorem dX7_looks_30 : decode cX7_looks 30 = .ok (.getfield 398, 3) := by decide +kernel
set_option maxRecDepth 100000 in
theorem dX7_looks_33 : decode cX7_looks 33 = .ok (.lmul, 1) := by decide +kernel
set_option maxRecDepth 100000 in
theorem dX7_looks_34 : decode cX7_looks 34 = .ok (.aload_n 0, 1) := by decide +kernel
set_option maxRecDepth 100000 in
theorem dX7_looks_35 : decode cX7_looks 35 = .ok (.getfield 401, 3) := by decide +kernel
set_option maxRecDepth 100000 in
theorem dX7_looks_38 : decode cX7_looks 38 = .ok (.aload_n 0, 1) := by decide +kernel
set_option maxRecDepth 100000 in
theorem dX7_looks_39 : decode cX7_looks 39 = .ok (.getfield 259, 3) := by decide +kernel
set_option maxRecDepth 100000 in
theorem dX7_looks_42 : decode cX7_looks 42 = .ok (.lmul, 1) := by decide +kernel
set_option maxRecDepth 100000 in
theorem dX7_looks_43 : decode cX7_looks 43 = .ok (.lcmp, 1) := by decide +kernel
set_option maxRecDepth 100000 in
theorem dX7_looks_44 : decode cX7_looks 44 = .ok (.ifCond .ge 19, 3) := by decide +kernel
set_option maxRecDepth 100000 in
theorem dX7_looks_47 : decode cX7_looks 47 = .ok (.aload_n 0, 1) := by decide +kernel
set_option maxRecDepth 100000 in
theorem dX7_looks_48 : decode cX7_looks 48 = .ok (.aload_n 0, 1) := by decide +kernel
set_option maxRecDepth 100000 in
theorem dX7_looks_49 : decode cX7_looks 49 = .ok (.getfield 255, 3) := by decide +kernel
set_option maxRecDepth 100000 in
theorem dX7_looks_52 : decode cX7_looks 52 = .ok (.putfield 401, 3) := by decide +kernel
set_option maxRecDepth 100000 in
theorem dX7_looks_55 : decode cX7_looks 55 = .ok (.aload_n 0, 1) := by decide +kernel
set_option maxRecDepth 100000 in
theorem dX7_looks_56 : decode cX7_looks 56 = .ok (.aload_n 0, 1) := by decide +kernel
set_option maxRecDepth 100000 in
theorem dX7_looks_57 : decode cX7_looks 57 = .ok (.getfield 259, 3) := by decide +kernel
set_option maxRecDepth 100000 in
theorem dX7_looks_60 : decode cX7_looks 60 = .ok (.putfield 398, 3) := by decide +kernel
set_option maxRecDepth 100000 in
theorem dX7_looks_63 : decode cX7_looks 63 = .ok (.aload_n 0, 1) := by decide +kernel
set_option maxRecDepth 100000 in
theorem dX7_looks_64 : decode cX7_looks 64 = .ok (.getfield 394, 3) := by decide +kernel
set_option maxRecDepth 100000 in
theorem dX7_looks_67 : decode cX7_looks 67 = .ok (.ifCond .eq 25, 3) := by decide +kernel
set_option maxRecDepth 100000 in
theorem dX7_looks_70 : decode cX7_looks 70 = .ok (.aload_n 0, 1) := by decide +kernel
set_option maxRecDepth 100000 in
theorem dX7_looks_71 : decode cX7_looks 71 = .ok (.getfield 255, 3) := by decide +kernel
set_option maxRecDepth 100000 in
theorem dX7_looks_74 : decode cX7_looks 74 = .ok (.aload_n 0, 1) := by decide +kernel
set_option maxRecDepth 100000 in
theorem dX7_looks_75 : decode cX7_looks 75 = .ok (.getfield 404, 3) := by decide +kernel
set_option maxRecDepth 100000 in
theorem dX7_looks_78 : decode cX7_looks 78 = .ok (.lmul, 1) := by decide +kernel
set_option maxRecDepth 100000 in
theorem dX7_looks_79 : decode cX7_looks 79 = .ok (.aload_n 0, 1) := by decide +kernel
set_option maxRecDepth 100000 in
theorem dX7_looks_80 : decode cX7_looks 80 = .ok (.getfield 407, 3) := by decide +kernel
set_option maxRecDepth 100000 in
theorem dX7_looks_83 : decode cX7_looks 83 = .ok (.aload_n 0, 1) := by decide +kernel
set_option maxRecDepth 100000 in
theorem dX7_looks_84 : decode cX7_looks 84 = .ok (.getfield 259, 3) := by decide +kernel
set_option maxRecDepth 100000 in
theorem dX7_looks_87 : decode cX7_looks 87 = .ok (.lmul, 1) := by decide +kernel
set_option maxRecDepth 100000 in
theorem dX7_looks_88 : decode cX7_looks 88 = .ok (.lcmp, 1) := by decide +kernel
set_option maxRecDepth 100000 in
theorem dX7_looks_89 : decode cX7_looks 89 = .ok (.ifCond .le 19, 3) := by decide +kernel
set_option maxRecDepth 100000 in
theorem dX7_looks_92 : decode cX7_looks 92 = .ok (.aload_n 0, 1) := by decide +kernel
set_option maxRecDepth 100000 in
theorem dX7_looks_93 : decode cX7_looks 93 = .ok (.aload_n 0, 1) := by decide +kernel
set_option maxRecDepth 100000 in
theorem dX7_looks_94 : decode cX7_looks 94 = .ok (.getfield 255, 3) := by decide +kernel
set_option maxRecDepth 100000 in
theorem dX7_looks_97 : decode cX7_looks 97 = .ok (.putfield 407, 3) := by decide +kernel
set_option maxRecDepth 100000 in
theorem dX7_looks_100 : decode cX7_looks 100 = .ok (.aload_n 0, 1) := by decide +kernel
set_option maxRecDepth 100000 in
theorem dX7_looks_101 : decode cX7_looks 101 = .ok (.aload_n 0, 1) := by decide +kernel
set_option maxRecDepth 100000 in
theorem dX7_looks_102 : decode cX7_looks 102 = .ok (.getfield 259, 3) := by decide +kernel
set_option maxRecDepth 100000 in
theorem dX7_looks_105 : decode cX7_looks 105 = .ok (.putfield 404, 3) := by decide +kernel
set_option maxRecDepth 100000 in
theorem dX7_looks_108 : decode cX7_looks 108 = .ok (.aload_n 0, 1) := by decide +kernel
set_option maxRecDepth 100000 in
theorem dX7_looks_109 : decode cX7_looks 109 = .ok (.iconst 1, 1) := by decide +kernel
set_option maxRecDepth 100000 in
theorem dX7_looks_110 : decode cX7_looks 110 = .ok (.putfield 394, 3) := by decide +kernel
set_option maxRecDepth 100000 in
theorem dX7_looks_113 : decode cX7_looks 113 = .ok (.return_, 1) := by decide +kernel
set_option maxRecDepth 100000 in
theorem dX7_goes_0 : decode cX7_goes 0 = .ok (.iload_n 2, 1) := by decide +kernel
set_option maxRecDepth 100000 in
theorem dX7_goes_1 : decode cX7_goes 1 = .ok (.aload_n 0, 1) := by decide +kernel
set_option maxRecDepth 100000 in
theorem dX7_goes_2 : decode cX7_goes 2 = .ok (.getfield 410, 3) := by decide +kernel
set_option maxRecDepth 100000 in
theorem dX7_goes_5 : decode cX7_goes 5 = .ok (.if_icmp .ne 9, 3) := by decide +kernel
set_option maxRecDepth 100000 in
theorem dX7_goes_8 : decode cX7_goes 8 = .ok (.aload_n 0, 1) := by decide +kernel
set_option maxRecDepth 100000 in
theorem dX7_goes_9 : decode cX7_goes 9 = .ok (.iload_n 1, 1) := by decide +kernel
set_option maxRecDepth 100000 in
theorem dX7_goes_10 : decode cX7_goes 10 = .ok (.invokevirtual 413, 3) := by decide +kernel
set_option maxRecDepth 100000 in
theorem dX7_goes_13 : decode cX7_goes 13 = .ok (.return_, 1) := by decide +kernel
set_option maxRecDepth 100000 in
theorem dX7_goes_14 : decode cX7_goes 14 = .ok (.iconst 0, 1) := by decide +kernel
set_option maxRecDepth 100000 in
theorem dX7_goes_15 : decode cX7_goes 15 = .ok (.istore_n 3, 1) := by decide +kernel
set_option maxRecDepth 100000 in
theorem dX7_goes_16 : decode cX7_goes 16 = .ok (.iload_n 3, 1) := by decide +kernel
set_option maxRecDepth 100000 in
theorem dX7_goes_17 : decode cX7_goes 17 = .ok (.aload_n 0, 1) := by decide +kernel
set_option maxRecDepth 100000 in
theorem dX7_goes_18 : decode cX7_goes 18 = .ok (.getfield 19, 3) := by decide +kernel
set_option maxRecDepth 100000 in
theorem dX7_goes_21 : decode cX7_goes 21 = .ok (.aload_n 0, 1) := by decide +kernel
set_option maxRecDepth 100000 in
theorem dX7_goes_22 : decode cX7_goes 22 = .ok (.getfield 129, 3) := by decide +kernel
set_option maxRecDepth 100000 in
theorem dX7_goes_25 : decode cX7_goes 25 = .ok (.iload_n 2, 1) := by decide +kernel
set_option maxRecDepth 100000 in
theorem dX7_goes_26 : decode cX7_goes 26 = .ok (.iaload, 1) := by decide +kernel
set_option maxRecDepth 100000 in
theorem dX7_goes_27 : decode cX7_goes 27 = .ok (.iaload, 1) := by decide +kernel
set_option maxRecDepth 100000 in
theorem dX7_goes_28 : decode cX7_goes 28 = .ok (.if_icmp .gt 29, 3) := by decide +kernel
set_option maxRecDepth 100000 in
theorem dX7_goes_31 : decode cX7_goes 31 = .ok (.aload_n 0, 1) := by decide +kernel
set_option maxRecDepth 100000 in
theorem dX7_goes_32 : decode cX7_goes 32 = .ok (.getfield 105, 3) := by decide +kernel
set_option maxRecDepth 100000 in
theorem dX7_goes_35 : decode cX7_goes 35 = .ok (.aload_n 0, 1) := by decide +kernel
set_option maxRecDepth 100000 in
theorem dX7_goes_36 : decode cX7_goes 36 = .ok (.getfield 129, 3) := by decide +kernel
set_option maxRecDepth 100000 in
theorem dX7_goes_39 : decode cX7_goes 39 = .ok (.iload_n 2, 1) := by decide +kernel
set_option maxRecDepth 100000 in
theorem dX7_goes_40 : decode cX7_goes 40 = .ok (.iaload, 1) := by decide +kernel
set_option maxRecDepth 100000 in
theorem dX7_goes_41 : decode cX7_goes 41 = .ok (.iload_n 3, 1) := by decide +kernel
set_option maxRecDepth 100000 in
theorem dX7_goes_42 : decode cX7_goes 42 = .ok (.iastore, 1) := by decide +kernel
set_option maxRecDepth 100000 in
theorem dX7_goes_43 : decode cX7_goes 43 = .ok (.aload_n 0, 1) := by decide +kernel
set_option maxRecDepth 100000 in
theorem dX7_goes_44 : decode cX7_goes 44 = .ok (.iload_n 1, 1) := by decide +kernel
set_option maxRecDepth 100000 in
theorem dX7_goes_45 : decode cX7_goes 45 = .ok (.iload_n 2, 1) := by decide +kernel
set_option maxRecDepth 100000 in
theorem dX7_goes_46 : decode cX7_goes 46 = .ok (.iconst 1, 1) := by decide +kernel
set_option maxRecDepth 100000 in
theorem dX7_goes_47 : decode cX7_goes 47 = .ok (.iadd, 1) := by decide +kernel
set_option maxRecDepth 100000 in
theorem dX7_goes_48 : decode cX7_goes 48 = .ok (.invokevirtual 416, 3) := by decide +kernel
set_option maxRecDepth 100000 in
theorem dX7_goes_51 : decode cX7_goes 51 = .ok (.iinc 3 1, 3) := by decide +kernel
set_option maxRecDepth 100000 in
theorem dX7_goes_54 : decode cX7_goes 54 = .ok (.goto (-38), 3) := by decide +kernel
set_option maxRecDepth 100000 in
theorem dX7_goes_57 : decode cX7_goes 57 = .ok (.return_, 1) := by decide +kernel
set_option maxRecDepth 100000 in
theorem dX7_range_0 : decode cX7_range 0 = .ok (.aload_n 0, 1) := by decide +kernel
set_option maxRecDepth 100000 in
theorem dX7_range_1 : decode cX7_range 1 = .ok (.iload_n 1, 1) := by decide +kernel
set_option maxRecDepth 100000 in
theorem dX7_range_2 : decode cX7_range 2 = .ok (.invokevirtual 151, 3) := by decide +kernel
set_option maxRecDepth 100000 in
theorem dX7_range_5 : decode cX7_range 5 = .ok (.ifCond .eq 11, 3) := by decide +kernel
set_option maxRecDepth 100000 in
theorem dX7_range_8 : decode cX7_range 8 = .ok (.aload_n 0, 1) := by decide +kernel
set_option maxRecDepth 100000 in
theorem dX7_range_9 : decode cX7_range 9 = .ok (.iload_n 2, 1) := by decide +kernel
set_option maxRecDepth 100000 in
theorem dX7_range_10 : decode cX7_range 10 = .ok (.invokevirtual 289, 3) := by decide +kernel
set_option maxRecDepth 100000 in
theorem dX7_range_13 : decode cX7_range 13 = .ok (.ifCond .ne 9, 3) := by decide +kernel
set_option maxRecDepth 100000 in
theorem dX7_range_16 : decode cX7_range 16 = .ok (.aload_n 0, 1) := by decide +kernel
set_option maxRecDepth 100000 in
theorem dX7_range_17 : decode cX7_range 17 = .ok (.iconst (-1), 1) := by decide +kernel
set_option maxRecDepth 100000 in
theorem dX7_range_18 : decode cX7_range 18 = .ok (.invokevirtual 391, 3) := by decide +kernel
set_option maxRecDepth 100000 in
theorem dX7_range_21 : decode cX7_range 21 = .ok (.ireturn, 1) := by decide +kernel
set_option maxRecDepth 100000 in
theorem dX7_range_22 : decode cX7_range 22 = .ok (.iload_n 3, 1) := by decide +kernel
set_option maxRecDepth 100000 in
theorem dX7_range_23 : decode cX7_range 23 = .ok (.iconst 5, 1) := by decide +kernel
set_option maxRecDepth 100000 in
theorem dX7_range_24 : decode cX7_range 24 = .ok (.invokestatic 141, 3) := by decide +kernel
set_option maxRecDepth 100000 in
theorem dX7_range_27 : decode cX7_range 27 = .ok (.ifCond .ne 10, 3) := by decide +kernel
set_option maxRecDepth 100000 in
theorem dX7_range_30 : decode cX7_range 30 = .ok (.aload_n 0, 1) := by decide +kernel
set_option maxRecDepth 100000 in
theorem dX7_range_31 : decode cX7_range 31 = .ok (.bipush (-2), 2) := by decide +kernel
set_option maxRecDepth 100000 in
theorem dX7_range_33 : decode cX7_range 33 = .ok (.invokevirtual 391, 3) := by decide +kernel
set_option maxRecDepth 100000 in
theorem dX7_range_36 : decode cX7_range 36 = .ok (.ireturn, 1) := by decide +kernel
set_option maxRecDepth 100000 in
theorem dX7_range_37 : decode cX7_range 37 = .ok (.aload_n 0, 1) := by decide +kernel
set_option maxRecDepth 100000 in
theorem dX7_range_38 : decode cX7_range 38 = .ok (.aload_n 0, 1) := by decide +kernel
set_option maxRecDepth 100000 in
theorem dX7_range_39 : decode cX7_range 39 = .ok (.getfield 148, 3) := by decide +kernel
set_option maxRecDepth 100000 in
theorem dX7_range_42 : decode cX7_range 42 = .ok (.invokevirtual 277, 3) := by decide +kernel
set_option maxRecDepth 100000 in
theorem dX7_range_45 : decode cX7_range 45 = .ok (.aload_n 0, 1) := by decide +kernel
set_option maxRecDepth 100000 in
theorem dX7_range_46 : decode cX7_range 46 = .ok (.iconst 0, 1) := by decide +kernel
set_option maxRecDepth 100000 in
theorem dX7_range_47 : decode cX7_range 47 = .ok (.putfield 410, 3) := by decide +kernel
set_option maxRecDepth 100000 in
theorem dX7_range_50 : decode cX7_range 50 = .ok (.iconst 0, 1) := by decide +kernel
set_option maxRecDepth 100000 in
theorem dX7_range_51 : decode cX7_range 51 = .ok (.istore 4, 2) := by decide +kernel
set_option maxRecDepth 100000 in
theorem dX7_range_53 : decode cX7_range 53 = .ok (.iload 4, 2) := by decide +kernel
set_option maxRecDepth 100000 in
theorem dX7_range_55 : decode cX7_range 55 = .ok (.aload_n 0, 1) := by decide +kernel
set_option maxRecDepth 100000 in
theorem dX7_range_56 : decode cX7_range 56 = .ok (.getfield 145, 3) := by decide +kernel
set_option maxRecDepth 100000 in
theorem dX7_range_59 : decode cX7_range 59 = .ok (.if_icmp .ge 60, 3) := by decide +kernel
set_option maxRecDepth 100000 in
theorem dX7_range_62 : decode cX7_range 62 = .ok (.aload_n 0, 1) := by decide +kernel
set_option maxRecDepth 100000 in
theorem dX7_range_63 : decode cX7_range 63 = .ok (.getfield 92, 3) := by decide +kernel
set_option maxRecDepth 100000 in
theorem dX7_range_66 : decode cX7_range 66 = .ok (.iload_n 2, 1) := by decide +kernel
set_option maxRecDepth 100000 in
theorem dX7_range_67 : decode cX7_range 67 = .ok (.iaload, 1) := by decide +kernel
set_option maxRecDepth 100000 in
theorem dX7_range_68 : decode cX7_range 68 = .ok (.bipush 12, 2) := by decide +kernel
set_option maxRecDepth 100000 in
theorem dX7_range_70 : decode cX7_range 70 = .ok (.iload 4, 2) := by decide +kernel
set_option maxRecDepth 100000 in
theorem dX7_range_72 : decode cX7_range 72 = .ok (.iadd, 1) := by decide +kernel
set_option maxRecDepth 100000 in
theorem dX7_range_73 : decode cX7_range 73 = .ok (.ishr, 1) := by decide +kernel
set_option maxRecDepth 100000 in
theorem dX7_range_74 : decode cX7_range 74 = .ok (.iconst 1, 1) := by decide +kernel
set_option maxRecDepth 100000 in
theorem dX7_range_75 : decode cX7_range 75 = .ok (.iand, 1) := by decide +kernel
set_option maxRecDepth 100000 in
theorem dX7_range_76 : decode cX7_range 76 = .ok (.ifCond .eq 37, 3) := by decide +kernel
set_option maxRecDepth 100000 in
theorem dX7_range_79 : decode cX7_range 79 = .ok (.aload_n 0, 1) := by decide +kernel
set_option maxRecDepth 100000 in
theorem dX7_range_80 : decode cX7_range 80 = .ok (.iload_n 1, 1) := by decide +kernel
set_option maxRecDepth 100000 in
theorem dX7_range_81 : decode cX7_range 81 = .ok (.iload 4, 2) := by decide +kernel
set_option maxRecDepth 100000 in
theorem dX7_range_83 : decode cX7_range 83 = .ok (.invokevirtual 419, 3) := by decide +kernel
set_option maxRecDepth 100000 in
theorem dX7_range_86 : decode cX7_range 86 = .ok (.ifCond .ne 6, 3) := by decide +kernel
set_option maxRecDepth 100000 in
theorem dX7_range_89 : decode cX7_range 89 = .ok (.goto 24, 3) := by decide +kernel
set_option maxRecDepth 100000 in
theorem dX7_range_92 : decode cX7_range 92 = .ok (.aload_n 0, 1) := by decide +kernel
set_option maxRecDepth 100000 in
theorem dX7_range_93 : decode cX7_range 93 = .ok (.getfield 129, 3) := by decide +kernel
set_option maxRecDepth 100000 in
theorem dX7_range_96 : decode cX7_range 96 = .ok (.aload_n 0, 1) := by decide +kernel
set_option maxRecDepth 100000 in
theorem dX7_range_97 : decode cX7_range 97 = .ok (.getfield 410, 3) := by decide +kernel
set_option maxRecDepth 100000 in
theorem dX7_range_100 : decode cX7_range 100 = .ok (.iload 4, 2) := by decide +kernel
set_option maxRecDepth 100000 in
theorem dX7_range_102 : decode cX7_range 102 = .ok (.iastore, 1) := by decide +kernel
set_option maxRecDepth 100000 in
theorem dX7_range_103 : decode cX7_range 103 = .ok (.aload_n 0, 1) := by decide +kernel
set_option maxRecDepth 100000 in
theorem dX7_range_104 : decode cX7_range 104 = .ok (.dup, 1) := by decide +kernel
set_option maxRecDepth 100000 in
theorem dX7_range_105 : decode cX7_range 105 = .ok (.getfield 410, 3) := by decide +kernel
set_option maxRecDepth 100000 in
theorem dX7_range_108 : decode cX7_range 108 = .ok (.iconst 1, 1) := by decide +kernel
set_option maxRecDepth 100000 in
theorem dX7_range_109 : decode cX7_range 109 = .ok (.iadd, 1) := by decide +kernel
set_option maxRecDepth 100000 in
theorem dX7_range_110 : decode cX7_range 110 = .ok (.putfield 410, 3) := by decide +kernel
set_option maxRecDepth 100000 in
theorem dX7_range_113 : decode cX7_range 113 = .ok (.iinc 4 1, 3) := by decide +kernel
set_option maxRecDepth 100000 in
theorem dX7_range_116 : decode cX7_range 116 = .ok (.goto (-63), 3) := by decide +kernel
set_option maxRecDepth 100000 in
theorem dX7_range_119 : decode cX7_range 119 = .ok (.iload_n 3, 1) := by decide +kernel
set_option maxRecDepth 100000 in
theorem dX7_range_120 : decode cX7_range 120 = .ok (.iconst 4, 1) := by decide +kernel
set_option maxRecDepth 100000 in
theorem dX7_range_121 : decode cX7_range 121 = .ok (.if_icmp .ne 8, 3) := by decide +kernel
set_option maxRecDepth 100000 in
theorem dX7_range_124 : decode cX7_range 124 = .ok (.aload_n 0, 1) := by decide +kernel
set_option maxRecDepth 100000 in
theorem dX7_range_125 : decode cX7_range 125 = .ok (.getfield 410, 3) := by decide +kernel
set_option maxRecDepth 100000 in
theorem dX7_range_128 : decode cX7_range 128 = .ok (.ireturn, 1) := by decide +kernel
set_option maxRecDepth 100000 in
theorem dX7_range_129 : decode cX7_range 129 = .ok (.aload_n 0, 1) := by decide +kernel
set_option maxRecDepth 100000 in
theorem dX7_range_130 : decode cX7_range 130 = .ok (.getfield 89, 3) := by decide +kernel
set_option maxRecDepth 100000 in
theorem dX7_range_133 : decode cX7_range 133 = .ok (.aload_n 0, 1) := by decide +kernel
set_option maxRecDepth 100000 in
theorem dX7_range_134 : decode cX7_range 134 = .ok (.getfield 148, 3) := by decide +kernel
set_option maxRecDepth 100000 in
theorem dX7_range_137 : decode cX7_range 137 = .ok (.baload, 1) := by decide +kernel
set_option maxRecDepth 100000 in
theorem dX7_range_138 : decode cX7_range 138 = .ok (.ifCond .eq 18, 3) := by decide +kernel
set_option maxRecDepth 100000 in
theorem dX7_range_141 : decode cX7_range 141 = .ok (.aload_n 0, 1) := by decide +kernel
set_option maxRecDepth 100000 in
theorem dX7_range_142 : decode cX7_range 142 = .ok (.getfield 410, 3) := by decide +kernel
set_option maxRecDepth 100000 in
theorem dX7_range_145 : decode cX7_range 145 = .ok (.iconst 3, 1) := by decide +kernel
set_option maxRecDepth 100000 in
theorem dX7_range_146 : decode cX7_range 146 = .ok (.if_icmp .le 10, 3) := by decide +kernel
set_option maxRecDepth 100000 in
theorem dX7_range_149 : decode cX7_range 149 = .ok (.aload_n 0, 1) := by decide +kernel
set_option maxRecDepth 100000 in
theorem dX7_range_150 : decode cX7_range 150 = .ok (.bipush (-3), 2) := by decide +kernel
set_option maxRecDepth 100000 in
theorem dX7_range_152 : decode cX7_range 152 = .ok (.invokevirtual 391, 3) := by decide +kernel
set_option maxRecDepth 100000 in
theorem dX7_range_155 : decode cX7_range 155 = .ok (.ireturn, 1) := by decide +kernel
set_option maxRecDepth 100000 in
theorem dX7_range_156 : decode cX7_range 156 = .ok (.aload_n 0, 1) := by decide +kernel
set_option maxRecDepth 100000 in
theorem dX7_range_157 : decode cX7_range 157 = .ok (.iload_n 1, 1) := by decide +kernel
set_option maxRecDepth 100000 in
theorem dX7_range_158 : decode cX7_range 158 = .ok (.invokevirtual 246, 3) := by decide +kernel
set_option maxRecDepth 100000 in
theorem dX7_range_161 : decode cX7_range 161 = .ok (.aload_n 0, 1) := by decide +kernel
set_option maxRecDepth 100000 in
theorem dX7_range_162 : decode cX7_range 162 = .ok (.iconst 0, 1) := by decide +kernel
set_option maxRecDepth 100000 in
theorem dX7_range_163 : decode cX7_range 163 = .ok (.putfield 394, 3) := by decide +kernel
set_option maxRecDepth 100000 in
theorem dX7_range_166 : decode cX7_range 166 = .ok (.aload_n 0, 1) := by decide +kernel
set_option maxRecDepth 100000 in
theorem dX7_range_167 : decode cX7_range 167 = .ok (.getfield 89, 3) := by decide +kernel
set_option maxRecDepth 100000 in
theorem dX7_range_170 : decode cX7_range 170 = .ok (.aload_n 0, 1) := by decide +kernel
set_option maxRecDepth 100000 in
theorem dX7_range_171 : decode cX7_range 171 = .ok (.getfield 148, 3) := by decide +kernel
set_option maxRecDepth 100000 in
theorem dX7_range_174 : decode cX7_range 174 = .ok (.baload, 1) := by decide +kernel
set_option maxRecDepth 100000 in
theorem dX7_range_175 : decode cX7_range 175 = .ok (.ifCond .eq 12, 3) := by decide +kernel
set_option maxRecDepth 100000 in
theorem dX7_range_178 : decode cX7_range 178 = .ok (.aload_n 0, 1) := by decide +kernel
set_option maxRecDepth 100000 in
theorem dX7_range_179 : decode cX7_range 179 = .ok (.iload_n 2, 1) := by decide +kernel
set_option maxRecDepth 100000 in
theorem dX7_range_180 : decode cX7_range 180 = .ok (.iconst 0, 1) := by decide +kernel
set_option maxRecDepth 100000 in
theorem dX7_range_181 : decode cX7_range 181 = .ok (.invokevirtual 416, 3) := by decide +kernel
set_option maxRecDepth 100000 in
theorem dX7_range_184 : decode cX7_range 184 = .ok (.goto 55, 3) := by decide +kernel
set_option maxRecDepth 100000 in
theorem dX7_range_187 : decode cX7_range 187 = .ok (.aload_n 0, 1) := by decide +kernel
set_option maxRecDepth 100000 in
theorem dX7_range_188 : decode cX7_range 188 = .ok (.iload_n 2, 1) := by decide +kernel
set_option maxRecDepth 100000 in
theorem dX7_range_189 : decode cX7_range 189 = .ok (.invokevirtual 413, 3) := by decide +kernel
set_option maxRecDepth 100000 in
theorem dX7_range_192 : decode cX7_range 192 = .ok (.iconst 0, 1) := by decide +kernel
set_option maxRecDepth 100000 in
theorem dX7_range_193 : decode cX7_range 193 = .ok (.istore 4, 2) := by decide +kernel
set_option maxRecDepth 100000 in
theorem dX7_range_195 : decode cX7_range 195 = .ok (.iload 4, 2) := by decide +kernel
set_option maxRecDepth 100000 in
theorem dX7_range_197 : decode cX7_range 197 = .ok (.aload_n 0, 1) := by decide +kernel
set_option maxRecDepth 100000 in
theorem dX7_range_198 : decode cX7_range 198 = .ok (.getfield 410, 3) := by decide +kernel
set_option maxRecDepth 100000 in
theorem dX7_range_201 : decode cX7_range 201 = .ok (.if_icmp .ge 33, 3) := by decide +kernel
set_option maxRecDepth 100000 in
theorem dX7_range_204 : decode cX7_range 204 = .ok (.aload_n 0, 1) := by decide +kernel
set_option maxRecDepth 100000 in
theorem dX7_range_205 : decode cX7_range 205 = .ok (.getfield 105, 3) := by decide +kernel
set_option maxRecDepth 100000 in
theorem dX7_range_208 : decode cX7_range 208 = .ok (.aload_n 0, 1) := by decide +kernel
set_option maxRecDepth 100000 in
theorem dX7_range_209 : decode cX7_range 209 = .ok (.getfield 129, 3) := by decide +kernel
set_option maxRecDepth 100000 in
theorem dX7_range_212 : decode cX7_range 212 = .ok (.iload 4, 2) := by decide +kernel
set_option maxRecDepth 100000 in
theorem dX7_range_214 : decode cX7_range 214 = .ok (.iaload, 1) := by decide +kernel
set_option maxRecDepth 100000 in
theorem dX7_range_215 : decode cX7_range 215 = .ok (.aload_n 0, 1) := by decide +kernel
set_option maxRecDepth 100000 in
theorem dX7_range_216 : decode cX7_range 216 = .ok (.getfield 19, 3) := by decide +kernel
set_option maxRecDepth 100000 in
theorem dX7_range_219 : decode cX7_range 219 = .ok (.aload_n 0, 1) := by decide +kernel
set_option maxRecDepth 100000 in
theorem dX7_range_220 : decode cX7_range 220 = .ok (.getfield 129, 3) := by decide +kernel
set_option maxRecDepth 100000 in
theorem dX7_range_223 : decode cX7_range 223 = .ok (.iload 4, 2) := by decide +kernel
set_option maxRecDepth 100000 in
theorem dX7_range_225 : decode cX7_range 225 = .ok (.iaload, 1) := by decide +kernel
set_option maxRecDepth 100000 in
theorem dX7_range_226 : decode cX7_range 226 = .ok (.iaload, 1) := by decide +kernel
set_option maxRecDepth 100000 in
theorem dX7_range_227 : decode cX7_range 227 = .ok (.iastore, 1) := by decide +kernel
set_option maxRecDepth 100000 in
theorem dX7_range_228 : decode cX7_range 228 = .ok (.iinc 4 1, 3) := by decide +kernel
set_option maxRecDepth 100000 in
theorem dX7_range_231 : decode cX7_range 231 = .ok (.goto (-36), 3) := by decide +kernel
set_option maxRecDepth 100000 in
theorem dX7_range_234 : decode cX7_range 234 = .ok (.aload_n 0, 1) := by decide +kernel
set_option maxRecDepth 100000 in
theorem dX7_range_235 : decode cX7_range 235 = .ok (.iload_n 2, 1) := by decide +kernel
set_option maxRecDepth 100000 in
theorem dX7_range_236 : decode cX7_range 236 = .ok (.invokevirtual 413, 3) := by decide +kernel
set_option maxRecDepth 100000 in
theorem dX7_range_239 : decode cX7_range 239 = .ok (.aload_n 0, 1) := by decide +kernel
set_option maxRecDepth 100000 in
theorem dX7_range_240 : decode cX7_range 240 = .ok (.getfield 394, 3) := by decide +kernel
set_option maxRecDepth 100000 in
theorem dX7_range_243 : decode cX7_range 243 = .ok (.ifCond .ne 10, 3) := by decide +kernel
set_option maxRecDepth 100000 in
theorem dX7_range_246 : decode cX7_range 246 = .ok (.aload_n 0, 1) := by decide +kernel
set_option maxRecDepth 100000 in
theorem dX7_range_247 : decode cX7_range 247 = .ok (.bipush (-3), 2) := by decide +kernel
set_option maxRecDepth 100000 in
theorem dX7_range_249 : decode cX7_range 249 = .ok (.invokevirtual 391, 3) := by decide +kernel
set_option maxRecDepth 100000 in
theorem dX7_range_252 : decode cX7_range 252 = .ok (.ireturn, 1) := by decide +kernel
set_option maxRecDepth 100000 in
theorem dX7_range_253 : decode cX7_range 253 = .ok (.iload_n 3, 1) := by decide +kernel
set_option maxRecDepth 100000 in
theorem dX7_range_254 : decode cX7_range 254 = .ok (.ifCond .ne 10, 3) := by decide +kernel
set_option maxRecDepth 100000 in
theorem dX7_range_257 : decode cX7_range 257 = .ok (.aload_n 0, 1) := by decide +kernel
set_option maxRecDepth 100000 in
theorem dX7_range_258 : decode cX7_range 258 = .ok (.getfield 401, 3) := by decide +kernel
set_option maxRecDepth 100000 in
theorem dX7_range_261 : decode cX7_range 261 = .ok (.goto 31, 3) := by decide +kernel
set_option maxRecDepth 100000 in
theorem dX7_range_264 : decode cX7_range 264 = .ok (.iload_n 3, 1) := by decide +kernel
set_option maxRecDepth 100000 in
theorem dX7_range_265 : decode cX7_range 265 = .ok (.iconst 1, 1) := by decide +kernel
set_option maxRecDepth 100000 in
theorem dX7_range_266 : decode cX7_range 266 = .ok (.if_icmp .ne 10, 3) := by decide +kernel
set_option maxRecDepth 100000 in
theorem dX7_range_269 : decode cX7_range 269 = .ok (.aload_n 0, 1) := by decide +kernel
set_option maxRecDepth 100000 in
theorem dX7_range_270 : decode cX7_range 270 = .ok (.getfield 398, 3) := by decide +kernel
set_option maxRecDepth 100000 in
theorem dX7_range_273 : decode cX7_range 273 = .ok (.goto 19, 3) := by decide +kernel
set_option maxRecDepth 100000 in
theorem dX7_range_276 : decode cX7_range 276 = .ok (.iload_n 3, 1) := by decide +kernel
set_option maxRecDepth 100000 in
theorem dX7_range_277 : decode cX7_range 277 = .ok (.iconst 2, 1) := by decide +kernel
set_option maxRecDepth 100000 in
theorem dX7_range_278 : decode cX7_range 278 = .ok (.if_icmp .ne 10, 3) := by decide +kernel
set_option maxRecDepth 100000 in
theorem dX7_range_281 : decode cX7_range 281 = .ok (.aload_n 0, 1) := by decide +kernel
set_option maxRecDepth 100000 in
theorem dX7_range_282 : decode cX7_range 282 = .ok (.getfield 407, 3) := by decide +kernel
set_option maxRecDepth 100000 in
theorem dX7_range_285 : decode cX7_range 285 = .ok (.goto 7, 3) := by decide +kernel
set_option maxRecDepth 100000 in
theorem dX7_range_288 : decode cX7_range 288 = .ok (.aload_n 0, 1) := by decide +kernel
set_option maxRecDepth 100000 in
theorem dX7_range_289 : decode cX7_range 289 = .ok (.getfield 404, 3) := by decide +kernel
set_option maxRecDepth 100000 in
theorem dX7_range_292 : decode cX7_range 292 = .ok (.l2i, 1) := by decide +kernel
set_option maxRecDepth 100000 in
theorem dX7_range_293 : decode cX7_range 293 = .ok (.ireturn, 1) := by decide +kernel
set_option maxRecDepth 100000 in
theorem dX7_least_0 : decode cX7_least 0 = .ok (.aload_n 0, 1) := by decide +kernel
set_option maxRecDepth 100000 in
theorem dX7_least_1 : decode cX7_least 1 = .ok (.iload_n 1, 1) := by decide +kernel
set_option maxRecDepth 100000 in
theorem dX7_least_2 : decode cX7_least 2 = .ok (.invokevirtual 151, 3) := by decide +kernel
set_option maxRecDepth 100000 in
theorem dX7_least_5 : decode cX7_least 5 = .ok (.ifCond .eq 19, 3) := by decide +kernel
set_option maxRecDepth 100000 in
theorem dX7_least_8 : decode cX7_least 8 = .ok (.aload_n 0, 1) := by decide +kernel
set_option maxRecDepth 100000 in
theorem dX7_least_9 : decode cX7_least 9 = .ok (.iload_n 2, 1) := by decide +kernel
set_option maxRecDepth 100000 in
theorem dX7_least_10 : decode cX7_least 10 = .ok (.invokevirtual 289, 3) := by decide +kernel
set_option maxRecDepth 100000 in
theorem dX7_least_13 : decode cX7_least 13 = .ok (.ifCond .eq 11, 3) := by decide +kernel
set_option maxRecDepth 100000 in
theorem dX7_least_16 : decode cX7_least 16 = .ok (.aload_n 0, 1) := by decide +kernel
set_option maxRecDepth 100000 in
theorem dX7_least_17 : decode cX7_least 17 = .ok (.iload_n 3, 1) := by decide +kernel
set_option maxRecDepth 100000 in
theorem dX7_least_18 : decode cX7_least 18 = .ok (.invokevirtual 156, 3) := by decide +kernel
set_option maxRecDepth 100000 in
theorem dX7_least_21 : decode cX7_least 21 = .ok (.ifCond .ne 9, 3) := by decide +kernel
set_option maxRecDepth 100000 in
theorem dX7_least_24 : decode cX7_least 24 = .ok (.aload_n 0, 1) := by decide +kernel
set_option maxRecDepth 100000 in
theorem dX7_least_25 : decode cX7_least 25 = .ok (.iconst (-1), 1) := by decide +kernel
set_option maxRecDepth 100000 in
theorem dX7_least_26 : decode cX7_least 26 = .ok (.invokevirtual 133, 3) := by decide +kernel
set_option maxRecDepth 100000 in
theorem dX7_least_29 : decode cX7_least 29 = .ok (.ireturn, 1) := by decide +kernel
set_option maxRecDepth 100000 in
theorem dX7_least_30 : decode cX7_least 30 = .ok (.aload_n 0, 1) := by decide +kernel
set_option maxRecDepth 100000 in
theorem dX7_least_31 : decode cX7_least 31 = .ok (.iload_n 1, 1) := by decide +kernel
set_option maxRecDepth 100000 in
theorem dX7_least_32 : decode cX7_least 32 = .ok (.iload_n 3, 1) := by decide +kernel
set_option maxRecDepth 100000 in
theorem dX7_least_33 : decode cX7_least 33 = .ok (.invokevirtual 419, 3) := by decide +kernel
set_option maxRecDepth 100000 in
theorem dX7_least_36 : decode cX7_least 36 = .ok (.ifCond .ne 10, 3) := by decide +kernel
set_option maxRecDepth 100000 in
theorem dX7_least_39 : decode cX7_least 39 = .ok (.aload_n 0, 1) := by decide +kernel
set_option maxRecDepth 100000 in
theorem dX7_least_40 : decode cX7_least 40 = .ok (.bipush (-3), 2) := by decide +kernel
set_option maxRecDepth 100000 in
theorem dX7_least_42 : decode cX7_least 42 = .ok (.invokevirtual 133, 3) := by decide +kernel
set_option maxRecDepth 100000 in
theorem dX7_least_45 : decode cX7_least 45 = .ok (.ireturn, 1) := by decide +kernel
set_option maxRecDepth 100000 in
theorem dX7_least_46 : decode cX7_least 46 = .ok (.iload 4, 2) := by decide +kernel
set_option maxRecDepth 100000 in
theorem dX7_least_48 : decode cX7_least 48 = .ok (.ifCond .ge 10, 3) := by decide +kernel
set_option maxRecDepth 100000 in
theorem dX7_least_51 : decode cX7_least 51 = .ok (.aload_n 0, 1) := by decide +kernel
set_option maxRecDepth 100000 in
theorem dX7_least_52 : decode cX7_least 52 = .ok (.bipush (-4), 2) := by decide +kernel
set_option maxRecDepth 100000 in
theorem dX7_least_54 : decode cX7_least 54 = .ok (.invokevirtual 133, 3) := by decide +kernel
set_option maxRecDepth 100000 in
theorem dX7_least_57 : decode cX7_least 57 = .ok (.ireturn, 1) := by decide +kernel
set_option maxRecDepth 100000 in
theorem dX7_least_58 : decode cX7_least 58 = .ok (.iload 4, 2) := by decide +kernel
set_option maxRecDepth 100000 in
theorem dX7_least_60 : decode cX7_least 60 = .ok (.sipush 9999, 3) := by decide +kernel
set_option maxRecDepth 100000 in
theorem dX7_least_63 : decode cX7_least 63 = .ok (.if_icmp .le 10, 3) := by decide +kernel
set_option maxRecDepth 100000 in
theorem dX7_least_66 : decode cX7_least 66 = .ok (.aload_n 0, 1) := by decide +kernel
set_option maxRecDepth 100000 in
theorem dX7_least_67 : decode cX7_least 67 = .ok (.bipush (-6), 2) := by decide +kernel
set_option maxRecDepth 100000 in
theorem dX7_least_69 : decode cX7_least 69 = .ok (.invokevirtual 133, 3) := by decide +kernel
set_option maxRecDepth 100000 in
theorem dX7_least_72 : decode cX7_least 72 = .ok (.ireturn, 1) := by decide +kernel
set_option maxRecDepth 100000 in
theorem dX7_least_73 : decode cX7_least 73 = .ok (.aload_n 0, 1) := by decide +kernel
set_option maxRecDepth 100000 in
theorem dX7_least_74 : decode cX7_least 74 = .ok (.iload_n 1, 1) := by decide +kernel
set_option maxRecDepth 100000 in
theorem dX7_least_75 : decode cX7_least 75 = .ok (.invokevirtual 246, 3) := by decide +kernel
set_option maxRecDepth 100000 in
theorem dX7_least_78 : decode cX7_least 78 = .ok (.iconst 0, 1) := by decide +kernel
set_option maxRecDepth 100000 in
theorem dX7_least_79 : decode cX7_least 79 = .ok (.istore 5, 2) := by decide +kernel
set_option maxRecDepth 100000 in
theorem dX7_least_81 : decode cX7_least 81 = .ok (.iload 5, 2) := by decide +kernel
set_option maxRecDepth 100000 in
theorem dX7_least_83 : decode cX7_least 83 = .ok (.aload_n 0, 1) := by decide +kernel
set_option maxRecDepth 100000 in
theorem dX7_least_84 : decode cX7_least 84 = .ok (.getfield 19, 3) := by decide +kernel
set_option maxRecDepth 100000 in
theorem dX7_least_87 : decode cX7_least 87 = .ok (.iload_n 3, 1) := by decide +kernel
set_option maxRecDepth 100000 in
theorem dX7_least_88 : decode cX7_least 88 = .ok (.iaload, 1) := by decide +kernel
set_option maxRecDepth 100000 in
theorem dX7_least_89 : decode cX7_least 89 = .ok (.if_icmp .gt 53, 3) := by decide +kernel
set_option maxRecDepth 100000 in
theorem dX7_least_92 : decode cX7_least 92 = .ok (.aload_n 0, 1) := by decide +kernel
set_option maxRecDepth 100000 in
theorem dX7_least_93 : decode cX7_least 93 = .ok (.getfield 105, 3) := by decide +kernel
set_option maxRecDepth 100000 in
theorem dX7_least_96 : decode cX7_least 96 = .ok (.iload_n 3, 1) := by decide +kernel
set_option maxRecDepth 100000 in
theorem dX7_least_97 : decode cX7_least 97 = .ok (.iload 5, 2) := by decide +kernel
set_option maxRecDepth 100000 in
theorem dX7_least_99 : decode cX7_least 99 = .ok (.iastore, 1) := by decide +kernel
set_option maxRecDepth 100000 in
theorem dX7_least_100 : decode cX7_least 100 = .ok (.aload_n 0, 1) := by decide +kernel
set_option maxRecDepth 100000 in
theorem dX7_least_101 : decode cX7_least 101 = .ok (.invokevirtual 330, 3) := by decide +kernel
set_option maxRecDepth 100000 in
theorem dX7_least_104 : decode cX7_least 104 = .ok (.aload_n 0, 1) := by decide +kernel
set_option maxRecDepth 100000 in
theorem dX7_least_105 : decode cX7_least 105 = .ok (.iload_n 2, 1) := by decide +kernel
set_option maxRecDepth 100000 in
theorem dX7_least_106 : decode cX7_least 106 = .ok (.invokevirtual 249, 3) := by decide +kernel
set_option maxRecDepth 100000 in
theorem dX7_least_109 : decode cX7_least 109 = .ok (.aload_n 0, 1) := by decide +kernel
set_option maxRecDepth 100000 in
theorem dX7_least_110 : decode cX7_least 110 = .ok (.getfield 252, 3) := by decide +kernel
set_option maxRecDepth 100000 in
theorem dX7_least_113 : decode cX7_least 113 = .ok (.iconst 1, 1) := by decide +kernel
set_option maxRecDepth 100000 in
theorem dX7_least_114 : decode cX7_least 114 = .ok (.if_icmp .ne 22, 3) := by decide +kernel
set_option maxRecDepth 100000 in
theorem dX7_least_117 : decode cX7_least 117 = .ok (.aload_n 0, 1) := by decide +kernel
set_option maxRecDepth 100000 in
theorem dX7_least_118 : decode cX7_least 118 = .ok (.getfield 255, 3) := by decide +kernel
set_option maxRecDepth 100000 in
theorem dX7_least_121 : decode cX7_least 121 = .ok (.iload 4, 2) := by decide +kernel
set_option maxRecDepth 100000 in
theorem dX7_least_123 : decode cX7_least 123 = .ok (.i2l, 1) := by decide +kernel
set_option maxRecDepth 100000 in
theorem dX7_least_124 : decode cX7_least 124 = .ok (.aload_n 0, 1) := by decide +kernel
set_option maxRecDepth 100000 in
theorem dX7_least_125 : decode cX7_least 125 = .ok (.getfield 259, 3) := by decide +kernel
set_option maxRecDepth 100000 in
theorem dX7_least_128 : decode cX7_least 128 = .ok (.lmul, 1) := by decide +kernel
set_option maxRecDepth 100000 in
theorem dX7_least_129 : decode cX7_least 129 = .ok (.lcmp, 1) := by decide +kernel
set_option maxRecDepth 100000 in
theorem dX7_least_130 : decode cX7_least 130 = .ok (.ifCond .lt 6, 3) := by decide +kernel
set_option maxRecDepth 100000 in
theorem dX7_least_133 : decode cX7_least 133 = .ok (.iload 5, 2) := by decide +kernel
set_option maxRecDepth 100000 in
theorem dX7_least_135 : decode cX7_least 135 = .ok (.ireturn, 1) := by decide +kernel
set_option maxRecDepth 100000 in
theorem dX7_least_136 : decode cX7_least 136 = .ok (.iinc 5 1, 3) := by decide +kernel
set_option maxRecDepth 100000 in
theorem dX7_least_139 : decode cX7_least 139 = .ok (.goto (-58), 3) := by decide +kernel
set_option maxRecDepth 100000 in
theorem dX7_least_142 : decode cX7_least 142 = .ok (.bipush (-9), 2) := by decide +kernel
set_option maxRecDepth 100000 in
theorem dX7_least_144 : decode cX7_least 144 = .ok (.ireturn, 1) := by decide +kernel
set_option maxRecDepth 100000 in
theorem dX7_count_0 : decode cX7_count 0 = .ok (.iload_n 1, 1) := by decide +kernel
set_option maxRecDepth 100000 in
theorem dX7_count_1 : decode cX7_count 1 = .ok (.bipush 10, 2) := by decide +kernel
set_option maxRecDepth 100000 in
theorem dX7_count_3 : decode cX7_count 3 = .ok (.if_icmp .le 19, 3) := by decide +kernel
set_option maxRecDepth 100000 in
theorem dX7_count_6 : decode cX7_count 6 = .ok (.iload_n 1, 1) := by decide +kernel
set_option maxRecDepth 100000 in
theorem dX7_count_7 : decode cX7_count 7 = .ok (.bipush 18, 2) := by decide +kernel
set_option maxRecDepth 100000 in
theorem dX7_count_9 : decode cX7_count 9 = .ok (.if_icmp .ge 13, 3) := by decide +kernel
set_option maxRecDepth 100000 in
theorem dX7_count_12 : decode cX7_count 12 = .ok (.aload_n 0, 1) := by decide +kernel
set_option maxRecDepth 100000 in
theorem dX7_count_13 : decode cX7_count 13 = .ok (.getfield 7, 3) := by decide +kernel
set_option maxRecDepth 100000 in
theorem dX7_count_16 : decode cX7_count 16 = .ok (.iload_n 1, 1) := by decide +kernel
set_option maxRecDepth 100000 in
theorem dX7_count_17 : decode cX7_count 17 = .ok (.bipush 10, 2) := by decide +kernel
set_option maxRecDepth 100000 in
theorem dX7_count_19 : decode cX7_count 19 = .ok (.isub, 1) := by decide +kernel
set_option maxRecDepth 100000 in
theorem dX7_count_20 : decode cX7_count 20 = .ok (.iaload, 1) := by decide +kernel
set_option maxRecDepth 100000 in
theorem dX7_count_21 : decode cX7_count 21 = .ok (.ireturn, 1) := by decide +kernel
set_option maxRecDepth 100000 in
theorem dX7_count_22 : decode cX7_count 22 = .ok (.iload_n 1, 1) := by decide +kernel
set_option maxRecDepth 100000 in
theorem dX7_count_23 : decode cX7_count 23 = .ok (.tableswitch 157 0 18 #[89, 94, 99, 109, 114, 119, 124, 129, 134, 157, 157, 157, 157, 157, 157, 157, 157, 157, 152], 89) := by decide +kernel
set_option maxRecDepth 100000 in
theorem dX7_count_112 : decode cX7_count 112 = .ok (.aload_n 0, 1) := by decide +kernel
set_option maxRecDepth 100000 in
theorem dX7_count_113 : decode cX7_count 113 = .ok (.getfield 137, 3) := by decide +kernel
set_option maxRecDepth 100000 in
theorem dX7_count_116 : decode cX7_count 116 = .ok (.ireturn, 1) := by decide +kernel
set_option maxRecDepth 100000 in
theorem dX7_count_117 : decode cX7_count 117 = .ok (.aload_n 0, 1) := by decide +kernel
set_option maxRecDepth 100000 in
theorem dX7_count_118 : decode cX7_count 118 = .ok (.getfield 145, 3) := by decide +kernel
set_option maxRecDepth 100000 in
theorem dX7_count_121 : decode cX7_count 121 = .ok (.ireturn, 1) := by decide +kernel
set_option maxRecDepth 100000 in
theorem dX7_count_122 : decode cX7_count 122 = .ok (.aload_n 0, 1) := by decide +kernel
set_option maxRecDepth 100000 in
theorem dX7_count_123 : decode cX7_count 123 = .ok (.getfield 77, 3) := by decide +kernel
set_option maxRecDepth 100000 in
theorem dX7_count_126 : decode cX7_count 126 = .ok (.aload_n 0, 1) := by decide +kernel
set_option maxRecDepth 100000 in
theorem dX7_count_127 : decode cX7_count 127 = .ok (.getfield 148, 3) := by decide +kernel
set_option maxRecDepth 100000 in
theorem dX7_count_130 : decode cX7_count 130 = .ok (.iaload, 1) := by decide +kernel
set_option maxRecDepth 100000 in
theorem dX7_count_131 : decode cX7_count 131 = .ok (.ireturn, 1) := by decide +kernel
set_option maxRecDepth 100000 in
theorem dX7_count_132 : decode cX7_count 132 = .ok (.aload_n 0, 1) := by decide +kernel
set_option maxRecDepth 100000 in
theorem dX7_count_133 : decode cX7_count 133 = .ok (.getfield 163, 3) := by decide +kernel
set_option maxRecDepth 100000 in
theorem dX7_count_136 : decode cX7_count 136 = .ok (.ireturn, 1) := by decide +kernel
set_option maxRecDepth 100000 in
theorem dX7_count_137 : decode cX7_count 137 = .ok (.aload_n 0, 1) := by decide +kernel
set_option maxRecDepth 100000 in
theorem dX7_count_138 : decode cX7_count 138 = .ok (.getfield 166, 3) := by decide +kernel
set_option maxRecDepth 100000 in
theorem dX7_count_141 : decode cX7_count 141 = .ok (.ireturn, 1) := by decide +kernel
set_option maxRecDepth 100000 in
theorem dX7_count_142 : decode cX7_count 142 = .ok (.aload_n 0, 1) := by decide +kernel
set_option maxRecDepth 100000 in
theorem dX7_count_143 : decode cX7_count 143 = .ok (.getfield 366, 3) := by decide +kernel
set_option maxRecDepth 100000 in
theorem dX7_count_146 : decode cX7_count 146 = .ok (.ireturn, 1) := by decide +kernel
set_option maxRecDepth 100000 in
theorem dX7_count_147 : decode cX7_count 147 = .ok (.aload_n 0, 1) := by decide +kernel
set_option maxRecDepth 100000 in
theorem dX7_count_148 : decode cX7_count 148 = .ok (.getfield 379, 3) := by decide +kernel
set_option maxRecDepth 100000 in
theorem dX7_count_151 : decode cX7_count 151 = .ok (.ireturn, 1) := by decide +kernel
set_option maxRecDepth 100000 in
theorem dX7_count_152 : decode cX7_count 152 = .ok (.aload_n 0, 1) := by decide +kernel
set_option maxRecDepth 100000 in
theorem dX7_count_153 : decode cX7_count 153 = .ok (.getfield 388, 3) := by decide +kernel
set_option maxRecDepth 100000 in
theorem dX7_count_156 : decode cX7_count 156 = .ok (.ireturn, 1) := by decide +kernel
set_option maxRecDepth 100000 in
theorem dX7_count_157 : decode cX7_count 157 = .ok (.aload_n 0, 1) := by decide +kernel
set_option maxRecDepth 100000 in
theorem dX7_count_158 : decode cX7_count 158 = .ok (.getfield 89, 3) := by decide +kernel
set_option maxRecDepth 100000 in
theorem dX7_count_161 : decode cX7_count 161 = .ok (.aload_n 0, 1) := by decide +kernel
set_option maxRecDepth 100000 in
theorem dX7_count_162 : decode cX7_count 162 = .ok (.getfield 148, 3) := by decide +kernel
set_option maxRecDepth 100000 in
theorem dX7_count_165 : decode cX7_count 165 = .ok (.baload, 1) := by decide +kernel
set_option maxRecDepth 100000 in
theorem dX7_count_166 : decode cX7_count 166 = .ok (.ifCond .eq 7, 3) := by decide +kernel
set_option maxRecDepth 100000 in
theorem dX7_count_169 : decode cX7_count 169 = .ok (.iconst 1, 1) := by decide +kernel
set_option maxRecDepth 100000 in
theorem dX7_count_170 : decode cX7_count 170 = .ok (.goto 4, 3) := by decide +kernel
set_option maxRecDepth 100000 in
theorem dX7_count_173 : decode cX7_count 173 = .ok (.iconst 0, 1) := by decide +kernel
set_option maxRecDepth 100000 in
theorem dX7_count_174 : decode cX7_count 174 = .ok (.ireturn, 1) := by decide +kernel
set_option maxRecDepth 100000 in
theorem dX7_count_175 : decode cX7_count 175 = .ok (.aload_n 0, 1) := by decide +kernel
set_option maxRecDepth 100000 in
theorem dX7_count_176 : decode cX7_count 176 = .ok (.getfield 262, 3) := by decide +kernel
set_option maxRecDepth 100000 in
theorem dX7_count_179 : decode cX7_count 179 = .ok (.ireturn, 1) := by decide +kernel
set_option maxRecDepth 100000 in
theorem dX7_count_180 : decode cX7_count 180 = .ok (.bipush (-9), 2) := by decide +kernel
set_option maxRecDepth 100000 in
theorem dX7_count_182 : decode cX7_count 182 = .ok (.ireturn, 1) := by decide +kernel
