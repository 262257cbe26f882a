set_option maxRecDepth 100000 in
theorem dX7_init_0 : decode cX7_init 0 = .ok (.aload_n 0, 1) := by decide +kernel
set_option maxRecDepth 100000 in
theorem dX7_init_1 : decode cX7_init 1 = .ok (.invokespecial 1, 3) := by decide +kernel
set_option maxRecDepth 100000 in
theorem dX7_init_4 : decode cX7_init 4 = .ok (.aload_n 0, 1) := by decide +kernel
set_option maxRecDepth 100000 in
theorem dX7_init_5 : decode cX7_init 5 = .ok (.bipush 8, 2) := by decide +kernel
set_option maxRecDepth 100000 in
theorem dX7_init_7 : decode cX7_init 7 = .ok (.newarray .int, 2) := by decide +kernel
set_option maxRecDepth 100000 in
theorem dX7_init_9 : decode cX7_init 9 = .ok (.putfield 7, 3) := by decide +kernel
set_option maxRecDepth 100000 in
theorem dX7_init_12 : decode cX7_init 12 = .ok (.aload_n 0, 1) := by decide +kernel
set_option maxRecDepth 100000 in
theorem dX7_init_13 : decode cX7_init 13 = .ok (.bipush 6, 2) := by decide +kernel
set_option maxRecDepth 100000 in
theorem dX7_init_15 : decode cX7_init 15 = .ok (.newarray .int, 2) := by decide +kernel
set_option maxRecDepth 100000 in
theorem dX7_init_17 : decode cX7_init 17 = .ok (.putfield 13, 3) := by decide +kernel
set_option maxRecDepth 100000 in
theorem dX7_init_20 : decode cX7_init 20 = .ok (.aload_n 0, 1) := by decide +kernel
set_option maxRecDepth 100000 in
theorem dX7_init_21 : decode cX7_init 21 = .ok (.bipush 10, 2) := by decide +kernel
set_option maxRecDepth 100000 in
theorem dX7_init_23 : decode cX7_init 23 = .ok (.newarray .int, 2) := by decide +kernel
set_option maxRecDepth 100000 in
theorem dX7_init_25 : decode cX7_init 25 = .ok (.putfield 16, 3) := by decide +kernel
set_option maxRecDepth 100000 in
theorem dX7_init_28 : decode cX7_init 28 = .ok (.aload_n 0, 1) := by decide +kernel
set_option maxRecDepth 100000 in
theorem dX7_init_29 : decode cX7_init 29 = .ok (.bipush 10, 2) := by decide +kernel
set_option maxRecDepth 100000 in
theorem dX7_init_31 : decode cX7_init 31 = .ok (.newarray .int, 2) := by decide +kernel
set_option maxRecDepth 100000 in
theorem dX7_init_33 : decode cX7_init 33 = .ok (.putfield 19, 3) := by decide +kernel
set_option maxRecDepth 100000 in
theorem dX7_init_36 : decode cX7_init 36 = .ok (.aload_n 0, 1) := by decide +kernel
set_option maxRecDepth 100000 in
theorem dX7_init_37 : decode cX7_init 37 = .ok (.bipush 10, 2) := by decide +kernel
set_option maxRecDepth 100000 in
theorem dX7_init_39 : decode cX7_init 39 = .ok (.newarray .int, 2) := by decide +kernel
set_option maxRecDepth 100000 in
theorem dX7_init_41 : decode cX7_init 41 = .ok (.putfield 22, 3) := by decide +kernel
set_option maxRecDepth 100000 in
theorem dX7_init_44 : decode cX7_init 44 = .ok (.aload_n 0, 1) := by decide +kernel
set_option maxRecDepth 100000 in
theorem dX7_init_45 : decode cX7_init 45 = .ok (.bipush 10, 2) := by decide +kernel
set_option maxRecDepth 100000 in
theorem dX7_init_47 : decode cX7_init 47 = .ok (.newarray .int, 2) := by decide +kernel
set_option maxRecDepth 100000 in
theorem dX7_init_49 : decode cX7_init 49 = .ok (.putfield 25, 3) := by decide +kernel
set_option maxRecDepth 100000 in
theorem dX7_init_52 : decode cX7_init 52 = .ok (.aload_n 0, 1) := by decide +kernel
set_option maxRecDepth 100000 in
theorem dX7_init_53 : decode cX7_init 53 = .ok (.bipush 10, 2) := by decide +kernel
set_option maxRecDepth 100000 in
theorem dX7_init_55 : decode cX7_init 55 = .ok (.newarray .int, 2) := by decide +kernel
set_option maxRecDepth 100000 in
theorem dX7_init_57 : decode cX7_init 57 = .ok (.putfield 28, 3) := by decide +kernel
set_option maxRecDepth 100000 in
theorem dX7_init_60 : decode cX7_init 60 = .ok (.aload_n 0, 1) := by decide +kernel
set_option maxRecDepth 100000 in
theorem dX7_init_61 : decode cX7_init 61 = .ok (.bipush 10, 2) := by decide +kernel
set_option maxRecDepth 100000 in
theorem dX7_init_63 : decode cX7_init 63 = .ok (.newarray .int, 2) := by decide +kernel
set_option maxRecDepth 100000 in
theorem dX7_init_65 : decode cX7_init 65 = .ok (.putfield 31, 3) := by decide +kernel
set_option maxRecDepth 100000 in
theorem dX7_init_68 : decode cX7_init 68 = .ok (.aload_n 0, 1) := by decide +kernel
set_option maxRecDepth 100000 in
theorem dX7_init_69 : decode cX7_init 69 = .ok (.bipush 60, 2) := by decide +kernel
set_option maxRecDepth 100000 in
theorem dX7_init_71 : decode cX7_init 71 = .ok (.newarray .int, 2) := by decide +kernel
set_option maxRecDepth 100000 in
theorem dX7_init_73 : decode cX7_init 73 = .ok (.putfield 34, 3) := by decide +kernel
set_option maxRecDepth 100000 in
theorem dX7_init_76 : decode cX7_init 76 = .ok (.aload_n 0, 1) := by decide +kernel
set_option maxRecDepth 100000 in
theorem dX7_init_77 : decode cX7_init 77 = .ok (.bipush 60, 2) := by decide +kernel
set_option maxRecDepth 100000 in
theorem dX7_init_79 : decode cX7_init 79 = .ok (.newarray .int, 2) := by decide +kernel
set_option maxRecDepth 100000 in
theorem dX7_init_81 : decode cX7_init 81 = .ok (.putfield 37, 3) := by decide +kernel
set_option maxRecDepth 100000 in
theorem dX7_init_84 : decode cX7_init 84 = .ok (.aload_n 0, 1) := by decide +kernel
set_option maxRecDepth 100000 in
theorem dX7_init_85 : decode cX7_init 85 = .ok (.sipush 180, 3) := by decide +kernel
set_option maxRecDepth 100000 in
theorem dX7_init_88 : decode cX7_init 88 = .ok (.newarray .int, 2) := by decide +kernel
set_option maxRecDepth 100000 in
theorem dX7_init_90 : decode cX7_init 90 = .ok (.putfield 40, 3) := by decide +kernel
set_option maxRecDepth 100000 in
theorem dX7_init_93 : decode cX7_init 93 = .ok (.aload_n 0, 1) := by decide +kernel
set_option maxRecDepth 100000 in
theorem dX7_init_94 : decode cX7_init 94 = .ok (.sipush 180, 3) := by decide +kernel
set_option maxRecDepth 100000 in
theorem dX7_init_97 : decode cX7_init 97 = .ok (.newarray .int, 2) := by decide +kernel
set_option maxRecDepth 100000 in
theorem dX7_init_99 : decode cX7_init 99 = .ok (.putfield 43, 3) := by decide +kernel
set_option maxRecDepth 100000 in
theorem dX7_init_102 : decode cX7_init 102 = .ok (.aload_n 0, 1) := by decide +kernel
set_option maxRecDepth 100000 in
theorem dX7_init_103 : decode cX7_init 103 = .ok (.sipush 180, 3) := by decide +kernel
set_option maxRecDepth 100000 in
theorem dX7_init_106 : decode cX7_init 106 = .ok (.newarray .int, 2) := by decide +kernel
set_option maxRecDepth 100000 in
theorem dX7_init_108 : decode cX7_init 108 = .ok (.putfield 46, 3) := by decide +kernel
set_option maxRecDepth 100000 in
theorem dX7_init_111 : decode cX7_init 111 = .ok (.aload_n 0, 1) := by decide +kernel
set_option maxRecDepth 100000 in
theorem dX7_init_112 : decode cX7_init 112 = .ok (.sipush 360, 3) := by decide +kernel
set_option maxRecDepth 100000 in
theorem dX7_init_115 : decode cX7_init 115 = .ok (.newarray .int, 2) := by decide +kernel
set_option maxRecDepth 100000 in
theorem dX7_init_117 : decode cX7_init 117 = .ok (.putfield 49, 3) := by decide +kernel
set_option maxRecDepth 100000 in
theorem dX7_init_120 : decode cX7_init 120 = .ok (.aload_n 0, 1) := by decide +kernel
set_option maxRecDepth 100000 in
theorem dX7_init_121 : decode cX7_init 121 = .ok (.bipush 60, 2) := by decide +kernel
set_option maxRecDepth 100000 in
theorem dX7_init_123 : decode cX7_init 123 = .ok (.newarray .boolean, 2) := by decide +kernel
set_option maxRecDepth 100000 in
theorem dX7_init_125 : decode cX7_init 125 = .ok (.putfield 52, 3) := by decide +kernel
set_option maxRecDepth 100000 in
theorem dX7_init_128 : decode cX7_init 128 = .ok (.aload_n 0, 1) := by decide +kernel
set_option maxRecDepth 100000 in
theorem dX7_init_129 : decode cX7_init 129 = .ok (.sipush 600, 3) := by decide +kernel
set_option maxRecDepth 100000 in
theorem dX7_init_132 : decode cX7_init 132 = .ok (.newarray .int, 2) := by decide +kernel
set_option maxRecDepth 100000 in
theorem dX7_init_134 : decode cX7_init 134 = .ok (.putfield 56, 3) := by decide +kernel
set_option maxRecDepth 100000 in
theorem dX7_init_137 : decode cX7_init 137 = .ok (.aload_n 0, 1) := by decide +kernel
set_option maxRecDepth 100000 in
theorem dX7_init_138 : decode cX7_init 138 = .ok (.sipush 3200, 3) := by decide +kernel
set_option maxRecDepth 100000 in
theorem dX7_init_141 : decode cX7_init 141 = .ok (.newarray .int, 2) := by decide +kernel
set_option maxRecDepth 100000 in
theorem dX7_init_143 : decode cX7_init 143 = .ok (.putfield 59, 3) := by decide +kernel
set_option maxRecDepth 100000 in
theorem dX7_init_146 : decode cX7_init 146 = .ok (.aload_n 0, 1) := by decide +kernel
set_option maxRecDepth 100000 in
theorem dX7_init_147 : decode cX7_init 147 = .ok (.sipush 3200, 3) := by decide +kernel
set_option maxRecDepth 100000 in
theorem dX7_init_150 : decode cX7_init 150 = .ok (.newarray .int, 2) := by decide +kernel
set_option maxRecDepth 100000 in
theorem dX7_init_152 : decode cX7_init 152 = .ok (.putfield 62, 3) := by decide +kernel
set_option maxRecDepth 100000 in
theorem dX7_init_155 : decode cX7_init 155 = .ok (.aload_n 0, 1) := by decide +kernel
set_option maxRecDepth 100000 in
theorem dX7_init_156 : decode cX7_init 156 = .ok (.sipush 3200, 3) := by decide +kernel
set_option maxRecDepth 100000 in
theorem dX7_init_159 : decode cX7_init 159 = .ok (.newarray .int, 2) := by decide +kernel
set_option maxRecDepth 100000 in
theorem dX7_init_161 : decode cX7_init 161 = .ok (.putfield 65, 3) := by decide +kernel
set_option maxRecDepth 100000 in
theorem dX7_init_164 : decode cX7_init 164 = .ok (.aload_n 0, 1) := by decide +kernel
set_option maxRecDepth 100000 in
theorem dX7_init_165 : decode cX7_init 165 = .ok (.sipush 3200, 3) := by decide +kernel
set_option maxRecDepth 100000 in
theorem dX7_init_168 : decode cX7_init 168 = .ok (.newarray .int, 2) := by decide +kernel
set_option maxRecDepth 100000 in
theorem dX7_init_170 : decode cX7_init 170 = .ok (.putfield 68, 3) := by decide +kernel
set_option maxRecDepth 100000 in
theorem dX7_init_173 : decode cX7_init 173 = .ok (.aload_n 0, 1) := by decide +kernel
set_option maxRecDepth 100000 in
theorem dX7_init_174 : decode cX7_init 174 = .ok (.sipush 3200, 3) := by decide +kernel
set_option maxRecDepth 100000 in
theorem dX7_init_177 : decode cX7_init 177 = .ok (.newarray .int, 2) := by decide +kernel
set_option maxRecDepth 100000 in
theorem dX7_init_179 : decode cX7_init 179 = .ok (.putfield 71, 3) := by decide +kernel
set_option maxRecDepth 100000 in
theorem dX7_init_182 : decode cX7_init 182 = .ok (.aload_n 0, 1) := by decide +kernel
set_option maxRecDepth 100000 in
theorem dX7_init_183 : decode cX7_init 183 = .ok (.sipush 3200, 3) := by decide +kernel
set_option maxRecDepth 100000 in
theorem dX7_init_186 : decode cX7_init 186 = .ok (.newarray .boolean, 2) := by decide +kernel
set_option maxRecDepth 100000 in
theorem dX7_init_188 : decode cX7_init 188 = .ok (.putfield 74, 3) := by decide +kernel
set_option maxRecDepth 100000 in
theorem dX7_init_191 : decode cX7_init 191 = .ok (.aload_n 0, 1) := by decide +kernel
set_option maxRecDepth 100000 in
theorem dX7_init_192 : decode cX7_init 192 = .ok (.iconst 2, 1) := by decide +kernel
set_option maxRecDepth 100000 in
theorem dX7_init_193 : decode cX7_init 193 = .ok (.newarray .int, 2) := by decide +kernel
set_option maxRecDepth 100000 in
theorem dX7_init_195 : decode cX7_init 195 = .ok (.putfield 77, 3) := by decide +kernel
set_option maxRecDepth 100000 in
theorem dX7_init_198 : decode cX7_init 198 = .ok (.aload_n 0, 1) := by decide +kernel
set_option maxRecDepth 100000 in
theorem dX7_init_199 : decode cX7_init 199 = .ok (.bipush 24, 2) := by decide +kernel
set_option maxRecDepth 100000 in
theorem dX7_init_201 : decode cX7_init 201 = .ok (.newarray .int, 2) := by decide +kernel
set_option maxRecDepth 100000 in
theorem dX7_init_203 : decode cX7_init 203 = .ok (.putfield 80, 3) := by decide +kernel
set_option maxRecDepth 100000 in
theorem dX7_init_206 : decode cX7_init 206 = .ok (.aload_n 0, 1) := by decide +kernel
set_option maxRecDepth 100000 in
theorem dX7_init_207 : decode cX7_init 207 = .ok (.bipush 24, 2) := by decide +kernel
set_option maxRecDepth 100000 in
theorem dX7_init_209 : decode cX7_init 209 = .ok (.newarray .int, 2) := by decide +kernel
set_option maxRecDepth 100000 in
theorem dX7_init_211 : decode cX7_init 211 = .ok (.putfield 83, 3) := by decide +kernel
set_option maxRecDepth 100000 in
theorem dX7_init_214 : decode cX7_init 214 = .ok (.aload_n 0, 1) := by decide +kernel
set_option maxRecDepth 100000 in
theorem dX7_init_215 : decode cX7_init 215 = .ok (.bipush 26, 2) := by decide +kernel
set_option maxRecDepth 100000 in
theorem dX7_init_217 : decode cX7_init 217 = .ok (.newarray .int, 2) := by decide +kernel
set_option maxRecDepth 100000 in
theorem dX7_init_219 : decode cX7_init 219 = .ok (.putfield 86, 3) := by decide +kernel
set_option maxRecDepth 100000 in
theorem dX7_init_222 : decode cX7_init 222 = .ok (.aload_n 0, 1) := by decide +kernel
set_option maxRecDepth 100000 in
theorem dX7_init_223 : decode cX7_init 223 = .ok (.iconst 2, 1) := by decide +kernel
set_option maxRecDepth 100000 in
theorem dX7_init_224 : decode cX7_init 224 = .ok (.newarray .boolean, 2) := by decide +kernel
set_option maxRecDepth 100000 in
theorem dX7_init_226 : decode cX7_init 226 = .ok (.putfield 89, 3) := by decide +kernel
set_option maxRecDepth 100000 in
theorem dX7_init_229 : decode cX7_init 229 = .ok (.aload_n 0, 1) := by decide +kernel
set_option maxRecDepth 100000 in
theorem dX7_init_230 : decode cX7_init 230 = .ok (.bipush 22, 2) := by decide +kernel
set_option maxRecDepth 100000 in
theorem dX7_init_232 : decode cX7_init 232 = .ok (.newarray .int, 2) := by decide +kernel
set_option maxRecDepth 100000 in
theorem dX7_init_234 : decode cX7_init 234 = .ok (.putfield 92, 3) := by decide +kernel
set_option maxRecDepth 100000 in
theorem dX7_init_237 : decode cX7_init 237 = .ok (.aload_n 0, 1) := by decide +kernel
set_option maxRecDepth 100000 in
theorem dX7_init_238 : decode cX7_init 238 = .ok (.bipush 72, 2) := by decide +kernel
set_option maxRecDepth 100000 in
theorem dX7_init_240 : decode cX7_init 240 = .ok (.newarray .int, 2) := by decide +kernel
set_option maxRecDepth 100000 in
theorem dX7_init_242 : decode cX7_init 242 = .ok (.putfield 95, 3) := by decide +kernel
set_option maxRecDepth 100000 in
theorem dX7_init_245 : decode cX7_init 245 = .ok (.aload_n 0, 1) := by decide +kernel
set_option maxRecDepth 100000 in
theorem dX7_init_246 : decode cX7_init 246 = .ok (.bipush 72, 2) := by decide +kernel
set_option maxRecDepth 100000 in
theorem dX7_init_248 : decode cX7_init 248 = .ok (.newarray .long, 2) := by decide +kernel
set_option maxRecDepth 100000 in
theorem dX7_init_250 : decode cX7_init 250 = .ok (.putfield 98, 3) := by decide +kernel
set_option maxRecDepth 100000 in
theorem dX7_init_253 : decode cX7_init 253 = .ok (.aload_n 0, 1) := by decide +kernel
set_option maxRecDepth 100000 in
theorem dX7_init_254 : decode cX7_init 254 = .ok (.bipush 72, 2) := by decide +kernel
set_option maxRecDepth 100000 in
theorem dX7_init_256 : decode cX7_init 256 = .ok (.newarray .long, 2) := by decide +kernel
set_option maxRecDepth 100000 in
theorem dX7_init_258 : decode cX7_init 258 = .ok (.putfield 102, 3) := by decide +kernel
set_option maxRecDepth 100000 in
theorem dX7_init_261 : decode cX7_init 261 = .ok (.aload_n 0, 1) := by decide +kernel
set_option maxRecDepth 100000 in
theorem dX7_init_262 : decode cX7_init 262 = .ok (.bipush 10, 2) := by decide +kernel
set_option maxRecDepth 100000 in
theorem dX7_init_264 : decode cX7_init 264 = .ok (.newarray .int, 2) := by decide +kernel
set_option maxRecDepth 100000 in
theorem dX7_init_266 : decode cX7_init 266 = .ok (.putfield 105, 3) := by decide +kernel
set_option maxRecDepth 100000 in
theorem dX7_init_269 : decode cX7_init 269 = .ok (.aload_n 0, 1) := by decide +kernel
set_option maxRecDepth 100000 in
theorem dX7_init_270 : decode cX7_init 270 = .ok (.bipush 12, 2) := by decide +kernel
set_option maxRecDepth 100000 in
theorem dX7_init_272 : decode cX7_init 272 = .ok (.newarray .int, 2) := by decide +kernel
set_option maxRecDepth 100000 in
theorem dX7_init_274 : decode cX7_init 274 = .ok (.putfield 108, 3) := by decide +kernel
set_option maxRecDepth 100000 in
theorem dX7_init_277 : decode cX7_init 277 = .ok (.aload_n 0, 1) := by decide +kernel
set_option maxRecDepth 100000 in
theorem dX7_init_278 : decode cX7_init 278 = .ok (.bipush 12, 2) := by decide +kernel
set_option maxRecDepth 100000 in
theorem dX7_init_280 : decode cX7_init 280 = .ok (.newarray .long, 2) := by decide +kernel
set_option maxRecDepth 100000 in
theorem dX7_init_282 : decode cX7_init 282 = .ok (.putfield 111, 3) := by decide +kernel
set_option maxRecDepth 100000 in
theorem dX7_init_285 : decode cX7_init 285 = .ok (.aload_n 0, 1) := by decide +kernel
set_option maxRecDepth 100000 in
theorem dX7_init_286 : decode cX7_init 286 = .ok (.bipush 12, 2) := by decide +kernel
set_option maxRecDepth 100000 in
theorem dX7_init_288 : decode cX7_init 288 = .ok (.newarray .long, 2) := by decide +kernel
set_option maxRecDepth 100000 in
theorem dX7_init_290 : decode cX7_init 290 = .ok (.putfield 114, 3) := by decide +kernel
set_option maxRecDepth 100000 in
theorem dX7_init_293 : decode cX7_init 293 = .ok (.aload_n 0, 1) := by decide +kernel
set_option maxRecDepth 100000 in
theorem dX7_init_294 : decode cX7_init 294 = .ok (.sipush 3200, 3) := by decide +kernel
set_option maxRecDepth 100000 in
theorem dX7_init_297 : decode cX7_init 297 = .ok (.newarray .int, 2) := by decide +kernel
set_option maxRecDepth 100000 in
theorem dX7_init_299 : decode cX7_init 299 = .ok (.putfield 117, 3) := by decide +kernel
set_option maxRecDepth 100000 in
theorem dX7_init_302 : decode cX7_init 302 = .ok (.aload_n 0, 1) := by decide +kernel
set_option maxRecDepth 100000 in
theorem dX7_init_303 : decode cX7_init 303 = .ok (.sipush 3200, 3) := by decide +kernel
set_option maxRecDepth 100000 in
theorem dX7_init_306 : decode cX7_init 306 = .ok (.newarray .long, 2) := by decide +kernel
set_option maxRecDepth 100000 in
theorem dX7_init_308 : decode cX7_init 308 = .ok (.putfield 120, 3) := by decide +kernel
set_option maxRecDepth 100000 in
theorem dX7_init_311 : decode cX7_init 311 = .ok (.aload_n 0, 1) := by decide +kernel
set_option maxRecDepth 100000 in
theorem dX7_init_312 : decode cX7_init 312 = .ok (.sipush 3200, 3) := by decide +kernel
set_option maxRecDepth 100000 in
theorem dX7_init_315 : decode cX7_init 315 = .ok (.newarray .long, 2) := by decide +kernel
set_option maxRecDepth 100000 in
theorem dX7_init_317 : decode cX7_init 317 = .ok (.putfield 123, 3) := by decide +kernel
set_option maxRecDepth 100000 in
theorem dX7_init_320 : decode cX7_init 320 = .ok (.aload_n 0, 1) := by decide +kernel
set_option maxRecDepth 100000 in
theorem dX7_init_321 : decode cX7_init 321 = .ok (.bipush 10, 2) := by decide +kernel
set_option maxRecDepth 100000 in
theorem dX7_init_323 : decode cX7_init 323 = .ok (.newarray .int, 2) := by decide +kernel
set_option maxRecDepth 100000 in
theorem dX7_init_325 : decode cX7_init 325 = .ok (.putfield 126, 3) := by decide +kernel
set_option maxRecDepth 100000 in
theorem dX7_init_328 : decode cX7_init 328 = .ok (.aload_n 0, 1) := by decide +kernel
set_option maxRecDepth 100000 in
theorem dX7_init_329 : decode cX7_init 329 = .ok (.bipush 10, 2) := by decide +kernel
set_option maxRecDepth 100000 in
theorem dX7_init_331 : decode cX7_init 331 = .ok (.newarray .int, 2) := by decide +kernel
set_option maxRecDepth 100000 in
theorem dX7_init_333 : decode cX7_init 333 = .ok (.putfield 129, 3) := by decide +kernel
set_option maxRecDepth 100000 in
theorem dX7_init_336 : decode cX7_init 336 = .ok (.iconst 0, 1) := by decide +kernel
set_option maxRecDepth 100000 in
theorem dX7_init_337 : decode cX7_init 337 = .ok (.istore_n 1, 1) := by decide +kernel
set_option maxRecDepth 100000 in
theorem dX7_init_338 : decode cX7_init 338 = .ok (.iload_n 1, 1) := by decide +kernel
set_option maxRecDepth 100000 in
theorem dX7_init_339 : decode cX7_init 339 = .ok (.aload_n 0, 1) := by decide +kernel
set_option maxRecDepth 100000 in
theorem dX7_init_340 : decode cX7_init 340 = .ok (.getfield 46, 3) := by decide +kernel
set_option maxRecDepth 100000 in
theorem dX7_init_343 : decode cX7_init 343 = .ok (.arraylength, 1) := by decide +kernel
set_option maxRecDepth 100000 in
theorem dX7_init_344 : decode cX7_init 344 = .ok (.if_icmp .ge 16, 3) := by decide +kernel
set_option maxRecDepth 100000 in
theorem dX7_init_347 : decode cX7_init 347 = .ok (.aload_n 0, 1) := by decide +kernel
set_option maxRecDepth 100000 in
theorem dX7_init_348 : decode cX7_init 348 = .ok (.getfield 46, 3) := by decide +kernel
set_option maxRecDepth 100000 in
theorem dX7_init_351 : decode cX7_init 351 = .ok (.iload_n 1, 1) := by decide +kernel
set_option maxRecDepth 100000 in
theorem dX7_init_352 : decode cX7_init 352 = .ok (.iconst (-1), 1) := by decide +kernel
set_option maxRecDepth 100000 in
theorem dX7_init_353 : decode cX7_init 353 = .ok (.iastore, 1) := by decide +kernel
set_option maxRecDepth 100000 in
theorem dX7_init_354 : decode cX7_init 354 = .ok (.iinc 1 1, 3) := by decide +kernel
set_option maxRecDepth 100000 in
theorem dX7_init_357 : decode cX7_init 357 = .ok (.goto (-19), 3) := by decide +kernel
set_option maxRecDepth 100000 in
theorem dX7_init_360 : decode cX7_init 360 = .ok (.iconst 0, 1) := by decide +kernel
set_option maxRecDepth 100000 in
theorem dX7_init_361 : decode cX7_init 361 = .ok (.istore_n 1, 1) := by decide +kernel
set_option maxRecDepth 100000 in
theorem dX7_init_362 : decode cX7_init 362 = .ok (.iload_n 1, 1) := by decide +kernel
set_option maxRecDepth 100000 in
theorem dX7_init_363 : decode cX7_init 363 = .ok (.aload_n 0, 1) := by decide +kernel
set_option maxRecDepth 100000 in
theorem dX7_init_364 : decode cX7_init 364 = .ok (.getfield 49, 3) := by decide +kernel
set_option maxRecDepth 100000 in
theorem dX7_init_367 : decode cX7_init 367 = .ok (.arraylength, 1) := by decide +kernel
set_option maxRecDepth 100000 in
theorem dX7_init_368 : decode cX7_init 368 = .ok (.if_icmp .ge 16, 3) := by decide +kernel
set_option maxRecDepth 100000 in
theorem dX7_init_371 : decode cX7_init 371 = .ok (.aload_n 0, 1) := by decide +kernel
set_option maxRecDepth 100000 in
theorem dX7_init_372 : decode cX7_init 372 = .ok (.getfield 49, 3) := by decide +kernel
set_option maxRecDepth 100000 in
theorem dX7_init_375 : decode cX7_init 375 = .ok (.iload_n 1, 1) := by decide +kernel
set_option maxRecDepth 100000 in
theorem dX7_init_376 : decode cX7_init 376 = .ok (.iconst (-1), 1) := by decide +kernel
set_option maxRecDepth 100000 in
theorem dX7_init_377 : decode cX7_init 377 = .ok (.iastore, 1) := by decide +kernel
set_option maxRecDepth 100000 in
theorem dX7_init_378 : decode cX7_init 378 = .ok (.iinc 1 1, 3) := by decide +kernel
set_option maxRecDepth 100000 in
theorem dX7_init_381 : decode cX7_init 381 = .ok (.goto (-19), 3) := by decide +kernel
set_option maxRecDepth 100000 in
theorem dX7_init_384 : decode cX7_init 384 = .ok (.iconst 0, 1) := by decide +kernel
set_option maxRecDepth 100000 in
theorem dX7_init_385 : decode cX7_init 385 = .ok (.istore_n 1, 1) := by decide +kernel
set_option maxRecDepth 100000 in
theorem dX7_init_386 : decode cX7_init 386 = .ok (.iload_n 1, 1) := by decide +kernel
set_option maxRecDepth 100000 in
theorem dX7_init_387 : decode cX7_init 387 = .ok (.bipush 10, 2) := by decide +kernel
set_option maxRecDepth 100000 in
theorem dX7_init_389 : decode cX7_init 389 = .ok (.if_icmp .ge 16, 3) := by decide +kernel
set_option maxRecDepth 100000 in
theorem dX7_init_392 : decode cX7_init 392 = .ok (.aload_n 0, 1) := by decide +kernel
set_option maxRecDepth 100000 in
theorem dX7_init_393 : decode cX7_init 393 = .ok (.getfield 28, 3) := by decide +kernel
set_option maxRecDepth 100000 in
theorem dX7_init_396 : decode cX7_init 396 = .ok (.iload_n 1, 1) := by decide +kernel
set_option maxRecDepth 100000 in
theorem dX7_init_397 : decode cX7_init 397 = .ok (.iconst (-1), 1) := by decide +kernel
set_option maxRecDepth 100000 in
theorem dX7_init_398 : decode cX7_init 398 = .ok (.iastore, 1) := by decide +kernel
set_option maxRecDepth 100000 in
theorem dX7_init_399 : decode cX7_init 399 = .ok (.iinc 1 1, 3) := by decide +kernel
set_option maxRecDepth 100000 in
theorem dX7_init_402 : decode cX7_init 402 = .ok (.goto (-16), 3) := by decide +kernel
set_option maxRecDepth 100000 in
theorem dX7_init_405 : decode cX7_init 405 = .ok (.iconst 0, 1) := by decide +kernel
set_option maxRecDepth 100000 in
theorem dX7_init_406 : decode cX7_init 406 = .ok (.istore_n 1, 1) := by decide +kernel
set_option maxRecDepth 100000 in
theorem dX7_init_407 : decode cX7_init 407 = .ok (.iload_n 1, 1) := by decide +kernel
set_option maxRecDepth 100000 in
theorem dX7_init_408 : decode cX7_init 408 = .ok (.bipush 6, 2) := by decide +kernel
set_option maxRecDepth 100000 in
theorem dX7_init_410 : decode cX7_init 410 = .ok (.if_icmp .ge 16, 3) := by decide +kernel
set_option maxRecDepth 100000 in
theorem dX7_init_413 : decode cX7_init 413 = .ok (.aload_n 0, 1) := by decide +kernel
set_option maxRecDepth 100000 in
theorem dX7_init_414 : decode cX7_init 414 = .ok (.getfield 13, 3) := by decide +kernel
set_option maxRecDepth 100000 in
theorem dX7_init_417 : decode cX7_init 417 = .ok (.iload_n 1, 1) := by decide +kernel
set_option maxRecDepth 100000 in
theorem dX7_init_418 : decode cX7_init 418 = .ok (.iload_n 1, 1) := by decide +kernel
set_option maxRecDepth 100000 in
theorem dX7_init_419 : decode cX7_init 419 = .ok (.iastore, 1) := by decide +kernel
set_option maxRecDepth 100000 in
theorem dX7_init_420 : decode cX7_init 420 = .ok (.iinc 1 1, 3) := by decide +kernel
set_option maxRecDepth 100000 in
theorem dX7_init_423 : decode cX7_init 423 = .ok (.goto (-16), 3) := by decide +kernel
set_option maxRecDepth 100000 in
theorem dX7_init_426 : decode cX7_init 426 = .ok (.return_, 1) := by decide +kernel
set_option maxRecDepth 100000 in
theorem dX7_refuse_0 : decode cX7_refuse 0 = .ok (.aload_n 0, 1) := by decide +kernel
set_option maxRecDepth 100000 in
theorem dX7_refuse_1 : decode cX7_refuse 1 = .ok (.getfield 7, 3) := by decide +kernel
set_option maxRecDepth 100000 in
theorem dX7_refuse_4 : decode cX7_refuse 4 = .ok (.iload_n 1, 1) := by decide +kernel
set_option maxRecDepth 100000 in
theorem dX7_refuse_5 : decode cX7_refuse 5 = .ok (.ineg, 1) := by decide +kernel
set_option maxRecDepth 100000 in
theorem dX7_refuse_6 : decode cX7_refuse 6 = .ok (.dup2, 1) := by decide +kernel
set_option maxRecDepth 100000 in
theorem dX7_refuse_7 : decode cX7_refuse 7 = .ok (.iaload, 1) := by decide +kernel
set_option maxRecDepth 100000 in
theorem dX7_refuse_8 : decode cX7_refuse 8 = .ok (.iconst 1, 1) := by decide +kernel
set_option maxRecDepth 100000 in
theorem dX7_refuse_9 : decode cX7_refuse 9 = .ok (.iadd, 1) := by decide +kernel
set_option maxRecDepth 100000 in
theorem dX7_refuse_10 : decode cX7_refuse 10 = .ok (.iastore, 1) := by decide +kernel
set_option maxRecDepth 100000 in
theorem dX7_refuse_11 : decode cX7_refuse 11 = .ok (.iload_n 1, 1) := by decide +kernel
set_option maxRecDepth 100000 in
theorem dX7_refuse_12 : decode cX7_refuse 12 = .ok (.ireturn, 1) := by decide +kernel
set_option maxRecDepth 100000 in
theorem dX7_refuseFar_0 : decode cX7_refuseFar 0 = .ok (.ldc 132, 2) := by decide +kernel
set_option maxRecDepth 100000 in
theorem dX7_refuseFar_2 : decode cX7_refuseFar 2 = .ok (.aload_n 0, 1) := by decide +kernel
set_option maxRecDepth 100000 in
theorem dX7_refuseFar_3 : decode cX7_refuseFar 3 = .ok (.iload_n 1, 1) := by decide +kernel
set_option maxRecDepth 100000 in
theorem dX7_refuseFar_4 : decode cX7_refuseFar 4 = .ok (.invokevirtual 133, 3) := by decide +kernel
set_option maxRecDepth 100000 in
theorem dX7_refuseFar_7 : decode cX7_refuseFar 7 = .ok (.isub, 1) := by decide +kernel
set_option maxRecDepth 100000 in
theorem dX7_refuseFar_8 : decode cX7_refuseFar 8 = .ok (.ireturn, 1) := by decide +kernel
set_option maxRecDepth 100000 in
theorem dX7_isIn_0 : decode cX7_isIn 0 = .ok (.iload_n 0, 1) := by decide +kernel
set_option maxRecDepth 100000 in
theorem dX7_isIn_1 : decode cX7_isIn 1 = .ok (.ifCond .lt 12, 3) := by decide +kernel
set_option maxRecDepth 100000 in
theorem dX7_isIn_4 : decode cX7_isIn 4 = .ok (.iload_n 0, 1) := by decide +kernel
set_option maxRecDepth 100000 in
theorem dX7_isIn_5 : decode cX7_isIn 5 = .ok (.iload_n 1, 1) := by decide +kernel
set_option maxRecDepth 100000 in
theorem dX7_isIn_6 : decode cX7_isIn 6 = .ok (.if_icmp .ge 7, 3) := by decide +kernel
set_option maxRecDepth 100000 in
theorem dX7_isIn_9 : decode cX7_isIn 9 = .ok (.iconst 1, 1) := by decide +kernel
set_option maxRecDepth 100000 in
theorem dX7_isIn_10 : decode cX7_isIn 10 = .ok (.goto 4, 3) := by decide +kernel
set_option maxRecDepth 100000 in
theorem dX7_isIn_13 : decode cX7_isIn 13 = .ok (.iconst 0, 1) := by decide +kernel
set_option maxRecDepth 100000 in
theorem dX7_isIn_14 : decode cX7_isIn 14 = .ok (.ireturn, 1) := by decide +kernel
set_option maxRecDepth 100000 in
theorem dX7_isPupil_0 : decode cX7_isPupil 0 = .ok (.iload_n 1, 1) := by decide +kernel
set_option maxRecDepth 100000 in
theorem dX7_isPupil_1 : decode cX7_isPupil 1 = .ok (.aload_n 0, 1) := by decide +kernel
set_option maxRecDepth 100000 in
theorem dX7_isPupil_2 : decode cX7_isPupil 2 = .ok (.getfield 137, 3) := by decide +kernel
set_option maxRecDepth 100000 in
theorem dX7_isPupil_5 : decode cX7_isPupil 5 = .ok (.invokestatic 141, 3) := by decide +kernel
set_option maxRecDepth 100000 in
theorem dX7_isPupil_8 : decode cX7_isPupil 8 = .ok (.ireturn, 1) := by decide +kernel
set_option maxRecDepth 100000 in
theorem dX7_isWork_0 : decode cX7_isWork 0 = .ok (.iload_n 1, 1) := by decide +kernel
set_option maxRecDepth 100000 in
theorem dX7_isWork_1 : decode cX7_isWork 1 = .ok (.aload_n 0, 1) := by decide +kernel
set_option maxRecDepth 100000 in
theorem dX7_isWork_2 : decode cX7_isWork 2 = .ok (.getfield 145, 3) := by decide +kernel
set_option maxRecDepth 100000 in
theorem dX7_isWork_5 : decode cX7_isWork 5 = .ok (.invokestatic 141, 3) := by decide +kernel
set_option maxRecDepth 100000 in
theorem dX7_isWork_8 : decode cX7_isWork 8 = .ok (.ireturn, 1) := by decide +kernel
set_option maxRecDepth 100000 in
theorem dX7_isRule_0 : decode cX7_isRule 0 = .ok (.iload_n 1, 1) := by decide +kernel
set_option maxRecDepth 100000 in
theorem dX7_isRule_1 : decode cX7_isRule 1 = .ok (.aload_n 0, 1) := by decide +kernel
set_option maxRecDepth 100000 in
theorem dX7_isRule_2 : decode cX7_isRule 2 = .ok (.getfield 77, 3) := by decide +kernel
set_option maxRecDepth 100000 in
theorem dX7_isRule_5 : decode cX7_isRule 5 = .ok (.aload_n 0, 1) := by decide +kernel
set_option maxRecDepth 100000 in
theorem dX7_isRule_6 : decode cX7_isRule 6 = .ok (.getfield 148, 3) := by decide +kernel
set_option maxRecDepth 100000 in
theorem dX7_isRule_9 : decode cX7_isRule 9 = .ok (.iaload, 1) := by decide +kernel
set_option maxRecDepth 100000 in
theorem dX7_isRule_10 : decode cX7_isRule 10 = .ok (.invokestatic 141, 3) := by decide +kernel
set_option maxRecDepth 100000 in
theorem dX7_isRule_13 : decode cX7_isRule 13 = .ok (.ireturn, 1) := by decide +kernel
set_option maxRecDepth 100000 in
theorem dX7_spot_0 : decode cX7_spot 0 = .ok (.bipush 10, 2) := by decide +kernel
set_option maxRecDepth 100000 in
theorem dX7_spot_2 : decode cX7_spot 2 = .ok (.iload_n 0, 1) := by decide +kernel
set_option maxRecDepth 100000 in
theorem dX7_spot_3 : decode cX7_spot 3 = .ok (.imul, 1) := by decide +kernel
set_option maxRecDepth 100000 in
theorem dX7_spot_4 : decode cX7_spot 4 = .ok (.iload_n 1, 1) := by decide +kernel
set_option maxRecDepth 100000 in
theorem dX7_spot_5 : decode cX7_spot 5 = .ok (.iadd, 1) := by decide +kernel
set_option maxRecDepth 100000 in
theorem dX7_spot_6 : decode cX7_spot 6 = .ok (.ireturn, 1) := by decide +kernel
set_option maxRecDepth 100000 in
theorem dX7_pupil_0 : decode cX7_pupil 0 = .ok (.aload_n 0, 1) := by decide +kernel
set_option maxRecDepth 100000 in
theorem dX7_pupil_1 : decode cX7_pupil 1 = .ok (.getfield 137, 3) := by decide +kernel
set_option maxRecDepth 100000 in
theorem dX7_pupil_4 : decode cX7_pupil 4 = .ok (.bipush 6, 2) := by decide +kernel
set_option maxRecDepth 100000 in
theorem dX7_pupil_6 : decode cX7_pupil 6 = .ok (.if_icmp .ne 10, 3) := by decide +kernel
set_option maxRecDepth 100000 in
theorem dX7_pupil_9 : decode cX7_pupil 9 = .ok (.aload_n 0, 1) := by decide +kernel
set_option maxRecDepth 100000 in
theorem dX7_pupil_10 : decode cX7_pupil 10 = .ok (.bipush (-6), 2) := by decide +kernel
set_option maxRecDepth 100000 in
theorem dX7_pupil_12 : decode cX7_pupil 12 = .ok (.invokevirtual 133, 3) := by decide +kernel
set_option maxRecDepth 100000 in
theorem dX7_pupil_15 : decode cX7_pupil 15 = .ok (.ireturn, 1) := by decide +kernel
set_option maxRecDepth 100000 in
theorem dX7_pupil_16 : decode cX7_pupil 16 = .ok (.aload_n 0, 1) := by decide +kernel
set_option maxRecDepth 100000 in
theorem dX7_pupil_17 : decode cX7_pupil 17 = .ok (.dup, 1) := by decide +kernel
set_option maxRecDepth 100000 in
theorem dX7_pupil_18 : decode cX7_pupil 18 = .ok (.getfield 137, 3) := by decide +kernel
set_option maxRecDepth 100000 in
theorem dX7_pupil_21 : decode cX7_pupil 21 = .ok (.iconst 1, 1) := by decide +kernel
set_option maxRecDepth 100000 in
theorem dX7_pupil_22 : decode cX7_pupil 22 = .ok (.iadd, 1) := by decide +kernel
set_option maxRecDepth 100000 in
theorem dX7_pupil_23 : decode cX7_pupil 23 = .ok (.putfield 137, 3) := by decide +kernel
set_option maxRecDepth 100000 in
theorem dX7_pupil_26 : decode cX7_pupil 26 = .ok (.aload_n 0, 1) := by decide +kernel
set_option maxRecDepth 100000 in
theorem dX7_pupil_27 : decode cX7_pupil 27 = .ok (.getfield 137, 3) := by decide +kernel
set_option maxRecDepth 100000 in
theorem dX7_pupil_30 : decode cX7_pupil 30 = .ok (.iconst 1, 1) := by decide +kernel
set_option maxRecDepth 100000 in
theorem dX7_pupil_31 : decode cX7_pupil 31 = .ok (.isub, 1) := by decide +kernel
set_option maxRecDepth 100000 in
theorem dX7_pupil_32 : decode cX7_pupil 32 = .ok (.ireturn, 1) := by decide +kernel
set_option maxRecDepth 100000 in
theorem dX7_group_0 : decode cX7_group 0 = .ok (.aload_n 0, 1) := by decide +kernel
set_option maxRecDepth 100000 in
theorem dX7_group_1 : decode cX7_group 1 = .ok (.iload_n 1, 1) := by decide +kernel
set_option maxRecDepth 100000 in
theorem dX7_group_2 : decode cX7_group 2 = .ok (.invokevirtual 151, 3) := by decide +kernel
set_option maxRecDepth 100000 in
theorem dX7_group_5 : decode cX7_group 5 = .ok (.ifCond .eq 12, 3) := by decide +kernel
set_option maxRecDepth 100000 in
theorem dX7_group_8 : decode cX7_group 8 = .ok (.iload_n 2, 1) := by decide +kernel
set_option maxRecDepth 100000 in
theorem dX7_group_9 : decode cX7_group 9 = .ok (.bipush 6, 2) := by decide +kernel
set_option maxRecDepth 100000 in
theorem dX7_group_11 : decode cX7_group 11 = .ok (.invokestatic 141, 3) := by decide +kernel
set_option maxRecDepth 100000 in
theorem dX7_group_14 : decode cX7_group 14 = .ok (.ifCond .ne 9, 3) := by decide +kernel
set_option maxRecDepth 100000 in
theorem dX7_group_17 : decode cX7_group 17 = .ok (.aload_n 0, 1) := by decide +kernel
set_option maxRecDepth 100000 in
theorem dX7_group_18 : decode cX7_group 18 = .ok (.iconst (-1), 1) := by decide +kernel
set_option maxRecDepth 100000 in
theorem dX7_group_19 : decode cX7_group 19 = .ok (.invokevirtual 133, 3) := by decide +kernel
set_option maxRecDepth 100000 in
theorem dX7_group_22 : decode cX7_group 22 = .ok (.ireturn, 1) := by decide +kernel
set_option maxRecDepth 100000 in
theorem dX7_group_23 : decode cX7_group 23 = .ok (.aload_n 0, 1) := by decide +kernel
set_option maxRecDepth 100000 in
theorem dX7_group_24 : decode cX7_group 24 = .ok (.getfield 13, 3) := by decide +kernel
set_option maxRecDepth 100000 in
theorem dX7_group_27 : decode cX7_group 27 = .ok (.iload_n 1, 1) := by decide +kernel
set_option maxRecDepth 100000 in
theorem dX7_group_28 : decode cX7_group 28 = .ok (.iaload, 1) := by decide +kernel
set_option maxRecDepth 100000 in
theorem dX7_group_29 : decode cX7_group 29 = .ok (.istore_n 3, 1) := by decide +kernel
set_option maxRecDepth 100000 in
theorem dX7_group_30 : decode cX7_group 30 = .ok (.aload_n 0, 1) := by decide +kernel
set_option maxRecDepth 100000 in
theorem dX7_group_31 : decode cX7_group 31 = .ok (.getfield 13, 3) := by decide +kernel
set_option maxRecDepth 100000 in
theorem dX7_group_34 : decode cX7_group 34 = .ok (.iload_n 1, 1) := by decide +kernel
set_option maxRecDepth 100000 in
theorem dX7_group_35 : decode cX7_group 35 = .ok (.iload_n 2, 1) := by decide +kernel
set_option maxRecDepth 100000 in
theorem dX7_group_36 : decode cX7_group 36 = .ok (.iastore, 1) := by decide +kernel
set_option maxRecDepth 100000 in
theorem dX7_group_37 : decode cX7_group 37 = .ok (.iload_n 3, 1) := by decide +kernel
set_option maxRecDepth 100000 in
theorem dX7_group_38 : decode cX7_group 38 = .ok (.ireturn, 1) := by decide +kernel
set_option maxRecDepth 100000 in
theorem dX7_work_0 : decode cX7_work 0 = .ok (.iload_n 1, 1) := by decide +kernel
set_option maxRecDepth 100000 in
theorem dX7_work_1 : decode cX7_work 1 = .ok (.iconst 4, 1) := by decide +kernel
set_option maxRecDepth 100000 in
theorem dX7_work_2 : decode cX7_work 2 = .ok (.invokestatic 141, 3) := by decide +kernel
set_option maxRecDepth 100000 in
theorem dX7_work_5 : decode cX7_work 5 = .ok (.ifCond .ne 9, 3) := by decide +kernel
set_option maxRecDepth 100000 in
theorem dX7_work_8 : decode cX7_work 8 = .ok (.aload_n 0, 1) := by decide +kernel
set_option maxRecDepth 100000 in
theorem dX7_work_9 : decode cX7_work 9 = .ok (.iconst (-1), 1) := by decide +kernel
set_option maxRecDepth 100000 in
theorem dX7_work_10 : decode cX7_work 10 = .ok (.invokevirtual 133, 3) := by decide +kernel
set_option maxRecDepth 100000 in
theorem dX7_work_13 : decode cX7_work 13 = .ok (.ireturn, 1) := by decide +kernel
set_option maxRecDepth 100000 in
theorem dX7_work_14 : decode cX7_work 14 = .ok (.iload_n 2, 1) := by decide +kernel
set_option maxRecDepth 100000 in
theorem dX7_work_15 : decode cX7_work 15 = .ok (.iconst 1, 1) := by decide +kernel
set_option maxRecDepth 100000 in
theorem dX7_work_16 : decode cX7_work 16 = .ok (.if_icmp .lt 12, 3) := by decide +kernel
set_option maxRecDepth 100000 in
theorem dX7_work_19 : decode cX7_work 19 = .ok (.iload_n 3, 1) := by decide +kernel
set_option maxRecDepth 100000 in
theorem dX7_work_20 : decode cX7_work 20 = .ok (.ifCond .lt 8, 3) := by decide +kernel
set_option maxRecDepth 100000 in
theorem dX7_work_23 : decode cX7_work 23 = .ok (.iload 4, 2) := by decide +kernel
set_option maxRecDepth 100000 in
theorem dX7_work_25 : decode cX7_work 25 = .ok (.ifCond .ge 10, 3) := by decide +kernel
set_option maxRecDepth 100000 in
theorem dX7_work_28 : decode cX7_work 28 = .ok (.aload_n 0, 1) := by decide +kernel
set_option maxRecDepth 100000 in
theorem dX7_work_29 : decode cX7_work 29 = .ok (.bipush (-4), 2) := by decide +kernel
set_option maxRecDepth 100000 in
theorem dX7_work_31 : decode cX7_work 31 = .ok (.invokevirtual 133, 3) := by decide +kernel
set_option maxRecDepth 100000 in
theorem dX7_work_34 : decode cX7_work 34 = .ok (.ireturn, 1) := by decide +kernel
set_option maxRecDepth 100000 in
theorem dX7_work_35 : decode cX7_work 35 = .ok (.iload_n 2, 1) := by decide +kernel
set_option maxRecDepth 100000 in
theorem dX7_work_36 : decode cX7_work 36 = .ok (.bipush 20, 2) := by decide +kernel
set_option maxRecDepth 100000 in
theorem dX7_work_38 : decode cX7_work 38 = .ok (.if_icmp .gt 25, 3) := by decide +kernel
set_option maxRecDepth 100000 in
theorem dX7_work_41 : decode cX7_work 41 = .ok (.iload_n 3, 1) := by decide +kernel
set_option maxRecDepth 100000 in
theorem dX7_work_42 : decode cX7_work 42 = .ok (.ldc 155, 2) := by decide +kernel
set_option maxRecDepth 100000 in
theorem dX7_work_44 : decode cX7_work 44 = .ok (.if_icmp .gt 19, 3) := by decide +kernel
set_option maxRecDepth 100000 in
theorem dX7_work_47 : decode cX7_work 47 = .ok (.iload 4, 2) := by decide +kernel
set_option maxRecDepth 100000 in
theorem dX7_work_49 : decode cX7_work 49 = .ok (.bipush 100, 2) := by decide +kernel
set_option maxRecDepth 100000 in
theorem dX7_work_51 : decode cX7_work 51 = .ok (.if_icmp .gt 12, 3) := by decide +kernel
set_option maxRecDepth 100000 in
theorem dX7_work_54 : decode cX7_work 54 = .ok (.aload_n 0, 1) := by decide +kernel
set_option maxRecDepth 100000 in
theorem dX7_work_55 : decode cX7_work 55 = .ok (.getfield 145, 3) := by decide +kernel
set_option maxRecDepth 100000 in
theorem dX7_work_58 : decode cX7_work 58 = .ok (.bipush 10, 2) := by decide +kernel
set_option maxRecDepth 100000 in
theorem dX7_work_60 : decode cX7_work 60 = .ok (.if_icmp .ne 10, 3) := by decide +kernel
set_option maxRecDepth 100000 in
theorem dX7_work_63 : decode cX7_work 63 = .ok (.aload_n 0, 1) := by decide +kernel
set_option maxRecDepth 100000 in
theorem dX7_work_64 : decode cX7_work 64 = .ok (.bipush (-6), 2) := by decide +kernel
set_option maxRecDepth 100000 in
theorem dX7_work_66 : decode cX7_work 66 = .ok (.invokevirtual 133, 3) := by decide +kernel
set_option maxRecDepth 100000 in
theorem dX7_work_69 : decode cX7_work 69 = .ok (.ireturn, 1) := by decide +kernel
set_option maxRecDepth 100000 in
theorem dX7_work_70 : decode cX7_work 70 = .ok (.aload_n 0, 1) := by decide +kernel
set_option maxRecDepth 100000 in
theorem dX7_work_71 : decode cX7_work 71 = .ok (.getfield 16, 3) := by decide +kernel
set_option maxRecDepth 100000 in
theorem dX7_work_74 : decode cX7_work 74 = .ok (.aload_n 0, 1) := by decide +kernel
set_option maxRecDepth 100000 in
theorem dX7_work_75 : decode cX7_work 75 = .ok (.getfield 145, 3) := by decide +kernel
set_option maxRecDepth 100000 in
theorem dX7_work_78 : decode cX7_work 78 = .ok (.iload_n 1, 1) := by decide +kernel
set_option maxRecDepth 100000 in
theorem dX7_work_79 : decode cX7_work 79 = .ok (.iastore, 1) := by decide +kernel
set_option maxRecDepth 100000 in
theorem dX7_work_80 : decode cX7_work 80 = .ok (.aload_n 0, 1) := by decide +kernel
set_option maxRecDepth 100000 in
theorem dX7_work_81 : decode cX7_work 81 = .ok (.getfield 19, 3) := by decide +kernel
set_option maxRecDepth 100000 in
theorem dX7_work_84 : decode cX7_work 84 = .ok (.aload_n 0, 1) := by decide +kernel
set_option maxRecDepth 100000 in
theorem dX7_work_85 : decode cX7_work 85 = .ok (.getfield 145, 3) := by decide +kernel
set_option maxRecDepth 100000 in
theorem dX7_work_88 : decode cX7_work 88 = .ok (.iload_n 2, 1) := by decide +kernel
set_option maxRecDepth 100000 in
theorem dX7_work_89 : decode cX7_work 89 = .ok (.iastore, 1) := by decide +kernel
set_option maxRecDepth 100000 in
theorem dX7_work_90 : decode cX7_work 90 = .ok (.aload_n 0, 1) := by decide +kernel
set_option maxRecDepth 100000 in
theorem dX7_work_91 : decode cX7_work 91 = .ok (.getfield 22, 3) := by decide +kernel
set_option maxRecDepth 100000 in
theorem dX7_work_94 : decode cX7_work 94 = .ok (.aload_n 0, 1) := by decide +kernel
set_option maxRecDepth 100000 in
theorem dX7_work_95 : decode cX7_work 95 = .ok (.getfield 145, 3) := by decide +kernel
set_option maxRecDepth 100000 in
theorem dX7_work_98 : decode cX7_work 98 = .ok (.iload_n 3, 1) := by decide +kernel
set_option maxRecDepth 100000 in
theorem dX7_work_99 : decode cX7_work 99 = .ok (.iastore, 1) := by decide +kernel
set_option maxRecDepth 100000 in
theorem dX7_work_100 : decode cX7_work 100 = .ok (.aload_n 0, 1) := by decide +kernel
set_option maxRecDepth 100000 in
theorem dX7_work_101 : decode cX7_work 101 = .ok (.getfield 25, 3) := by decide +kernel
set_option maxRecDepth 100000 in
theorem dX7_work_104 : decode cX7_work 104 = .ok (.aload_n 0, 1) := by decide +kernel
set_option maxRecDepth 100000 in
theorem dX7_work_105 : decode cX7_work 105 = .ok (.getfield 145, 3) := by decide +kernel
set_option maxRecDepth 100000 in
theorem dX7_work_108 : decode cX7_work 108 = .ok (.iload 4, 2) := by decide +kernel
set_option maxRecDepth 100000 in
theorem dX7_work_110 : decode cX7_work 110 = .ok (.iastore, 1) := by decide +kernel
set_option maxRecDepth 100000 in
theorem dX7_work_111 : decode cX7_work 111 = .ok (.aload_n 0, 1) := by decide +kernel
set_option maxRecDepth 100000 in
theorem dX7_work_112 : decode cX7_work 112 = .ok (.dup, 1) := by decide +kernel
set_option maxRecDepth 100000 in
theorem dX7_work_113 : decode cX7_work 113 = .ok (.getfield 145, 3) := by decide +kernel
set_option maxRecDepth 100000 in
theorem dX7_work_116 : decode cX7_work 116 = .ok (.iconst 1, 1) := by decide +kernel
set_option maxRecDepth 100000 in
theorem dX7_work_117 : decode cX7_work 117 = .ok (.iadd, 1) := by decide +kernel
set_option maxRecDepth 100000 in
theorem dX7_work_118 : decode cX7_work 118 = .ok (.putfield 145, 3) := by decide +kernel
set_option maxRecDepth 100000 in
theorem dX7_work_121 : decode cX7_work 121 = .ok (.aload_n 0, 1) := by decide +kernel
set_option maxRecDepth 100000 in
theorem dX7_work_122 : decode cX7_work 122 = .ok (.getfield 145, 3) := by decide +kernel
set_option maxRecDepth 100000 in
theorem dX7_work_125 : decode cX7_work 125 = .ok (.iconst 1, 1) := by decide +kernel
set_option maxRecDepth 100000 in
theorem dX7_work_126 : decode cX7_work 126 = .ok (.isub, 1) := by decide +kernel
set_option maxRecDepth 100000 in
theorem dX7_work_127 : decode cX7_work 127 = .ok (.ireturn, 1) := by decide +kernel
set_option maxRecDepth 100000 in
theorem dX7_leave_0 : decode cX7_leave 0 = .ok (.aload_n 0, 1) := by decide +kernel
set_option maxRecDepth 100000 in
theorem dX7_leave_1 : decode cX7_leave 1 = .ok (.iload_n 1, 1) := by decide +kernel
set_option maxRecDepth 100000 in
theorem dX7_leave_2 : decode cX7_leave 2 = .ok (.invokevirtual 151, 3) := by decide +kernel
set_option maxRecDepth 100000 in
theorem dX7_leave_5 : decode cX7_leave 5 = .ok (.ifCond .eq 11, 3) := by decide +kernel
set_option maxRecDepth 100000 in
theorem dX7_leave_8 : decode cX7_leave 8 = .ok (.aload_n 0, 1) := by decide +kernel
set_option maxRecDepth 100000 in
theorem dX7_leave_9 : decode cX7_leave 9 = .ok (.iload_n 2, 1) := by decide +kernel
set_option maxRecDepth 100000 in
theorem dX7_leave_10 : decode cX7_leave 10 = .ok (.invokevirtual 156, 3) := by decide +kernel
set_option maxRecDepth 100000 in
theorem dX7_leave_13 : decode cX7_leave 13 = .ok (.ifCond .ne 9, 3) := by decide +kernel
set_option maxRecDepth 100000 in
theorem dX7_leave_16 : decode cX7_leave 16 = .ok (.aload_n 0, 1) := by decide +kernel
set_option maxRecDepth 100000 in
theorem dX7_leave_17 : decode cX7_leave 17 = .ok (.iconst (-1), 1) := by decide +kernel
set_option maxRecDepth 100000 in
theorem dX7_leave_18 : decode cX7_leave 18 = .ok (.invokevirtual 133, 3) := by decide +kernel
set_option maxRecDepth 100000 in
theorem dX7_leave_21 : decode cX7_leave 21 = .ok (.ireturn, 1) := by decide +kernel
set_option maxRecDepth 100000 in
theorem dX7_leave_22 : decode cX7_leave 22 = .ok (.iload_n 3, 1) := by decide +kernel
set_option maxRecDepth 100000 in
theorem dX7_leave_23 : decode cX7_leave 23 = .ok (.ifCond .ge 10, 3) := by decide +kernel
set_option maxRecDepth 100000 in
theorem dX7_leave_26 : decode cX7_leave 26 = .ok (.aload_n 0, 1) := by decide +kernel
set_option maxRecDepth 100000 in
theorem dX7_leave_27 : decode cX7_leave 27 = .ok (.bipush (-4), 2) := by decide +kernel
set_option maxRecDepth 100000 in
theorem dX7_leave_29 : decode cX7_leave 29 = .ok (.invokevirtual 133, 3) := by decide +kernel
set_option maxRecDepth 100000 in
theorem dX7_leave_32 : decode cX7_leave 32 = .ok (.ireturn, 1) := by decide +kernel
set_option maxRecDepth 100000 in
theorem dX7_leave_33 : decode cX7_leave 33 = .ok (.iload_n 3, 1) := by decide +kernel
set_option maxRecDepth 100000 in
theorem dX7_leave_34 : decode cX7_leave 34 = .ok (.sipush 1000, 3) := by decide +kernel
set_option maxRecDepth 100000 in
theorem dX7_leave_37 : decode cX7_leave 37 = .ok (.if_icmp .le 10, 3) := by decide +kernel
set_option maxRecDepth 100000 in
theorem dX7_leave_40 : decode cX7_leave 40 = .ok (.aload_n 0, 1) := by decide +kernel
set_option maxRecDepth 100000 in
theorem dX7_leave_41 : decode cX7_leave 41 = .ok (.bipush (-6), 2) := by decide +kernel
set_option maxRecDepth 100000 in
theorem dX7_leave_43 : decode cX7_leave 43 = .ok (.invokevirtual 133, 3) := by decide +kernel
set_option maxRecDepth 100000 in
theorem dX7_leave_46 : decode cX7_leave 46 = .ok (.ireturn, 1) := by decide +kernel
set_option maxRecDepth 100000 in
theorem dX7_leave_47 : decode cX7_leave 47 = .ok (.aload_n 0, 1) := by decide +kernel
set_option maxRecDepth 100000 in
theorem dX7_leave_48 : decode cX7_leave 48 = .ok (.getfield 34, 3) := by decide +kernel
set_option maxRecDepth 100000 in
theorem dX7_leave_51 : decode cX7_leave 51 = .ok (.iload_n 1, 1) := by decide +kernel
set_option maxRecDepth 100000 in
theorem dX7_leave_52 : decode cX7_leave 52 = .ok (.iload_n 2, 1) := by decide +kernel
set_option maxRecDepth 100000 in
theorem dX7_leave_53 : decode cX7_leave 53 = .ok (.invokestatic 159, 3) := by decide +kernel
set_option maxRecDepth 100000 in
theorem dX7_leave_56 : decode cX7_leave 56 = .ok (.iaload, 1) := by decide +kernel
set_option maxRecDepth 100000 in
theorem dX7_leave_57 : decode cX7_leave 57 = .ok (.istore 4, 2) := by decide +kernel
set_option maxRecDepth 100000 in
theorem dX7_leave_59 : decode cX7_leave 59 = .ok (.aload_n 0, 1) := by decide +kernel
set_option maxRecDepth 100000 in
theorem dX7_leave_60 : decode cX7_leave 60 = .ok (.getfield 34, 3) := by decide +kernel
set_option maxRecDepth 100000 in
theorem dX7_leave_63 : decode cX7_leave 63 = .ok (.iload_n 1, 1) := by decide +kernel
set_option maxRecDepth 100000 in
theorem dX7_leave_64 : decode cX7_leave 64 = .ok (.iload_n 2, 1) := by decide +kernel
set_option maxRecDepth 100000 in
theorem dX7_leave_65 : decode cX7_leave 65 = .ok (.invokestatic 159, 3) := by decide +kernel
set_option maxRecDepth 100000 in
theorem dX7_leave_68 : decode cX7_leave 68 = .ok (.iload_n 3, 1) := by decide +kernel
set_option maxRecDepth 100000 in
theorem dX7_leave_69 : decode cX7_leave 69 = .ok (.iastore, 1) := by decide +kernel
set_option maxRecDepth 100000 in
theorem dX7_leave_70 : decode cX7_leave 70 = .ok (.iload 4, 2) := by decide +kernel
set_option maxRecDepth 100000 in
theorem dX7_leave_72 : decode cX7_leave 72 = .ok (.ireturn, 1) := by decide +kernel
set_option maxRecDepth 100000 in
theorem dX7_excuse_0 : decode cX7_excuse 0 = .ok (.aload_n 0, 1) := by decide +kernel
set_option maxRecDepth 100000 in
theorem dX7_excuse_1 : decode cX7_excuse 1 = .ok (.iload_n 1, 1) := by decide +kernel
set_option maxRecDepth 100000 in
theorem dX7_excuse_2 : decode cX7_excuse 2 = .ok (.invokevirtual 151, 3) := by decide +kernel
set_option maxRecDepth 100000 in
theorem dX7_excuse_5 : decode cX7_excuse 5 = .ok (.ifCond .eq 11, 3) := by decide +kernel
set_option maxRecDepth 100000 in
theorem dX7_excuse_8 : decode cX7_excuse 8 = .ok (.aload_n 0, 1) := by decide +kernel
set_option maxRecDepth 100000 in
theorem dX7_excuse_9 : decode cX7_excuse 9 = .ok (.iload_n 2, 1) := by decide +kernel
set_option maxRecDepth 100000 in
theorem dX7_excuse_10 : decode cX7_excuse 10 = .ok (.invokevirtual 156, 3) := by decide +kernel
set_option maxRecDepth 100000 in
theorem dX7_excuse_13 : decode cX7_excuse 13 = .ok (.ifCond .ne 9, 3) := by decide +kernel
set_option maxRecDepth 100000 in
theorem dX7_excuse_16 : decode cX7_excuse 16 = .ok (.aload_n 0, 1) := by decide +kernel
set_option maxRecDepth 100000 in
theorem dX7_excuse_17 : decode cX7_excuse 17 = .ok (.iconst (-1), 1) := by decide +kernel
set_option maxRecDepth 100000 in
theorem dX7_excuse_18 : decode cX7_excuse 18 = .ok (.invokevirtual 133, 3) := by decide +kernel
set_option maxRecDepth 100000 in
theorem dX7_excuse_21 : decode cX7_excuse 21 = .ok (.ireturn, 1) := by decide +kernel
set_option maxRecDepth 100000 in
theorem dX7_excuse_22 : decode cX7_excuse 22 = .ok (.aload_n 0, 1) := by decide +kernel
set_option maxRecDepth 100000 in
theorem dX7_excuse_23 : decode cX7_excuse 23 = .ok (.getfield 52, 3) := by decide +kernel
set_option maxRecDepth 100000 in
theorem dX7_excuse_26 : decode cX7_excuse 26 = .ok (.iload_n 1, 1) := by decide +kernel
set_option maxRecDepth 100000 in
theorem dX7_excuse_27 : decode cX7_excuse 27 = .ok (.iload_n 2, 1) := by decide +kernel
set_option maxRecDepth 100000 in
theorem dX7_excuse_28 : decode cX7_excuse 28 = .ok (.invokestatic 159, 3) := by decide +kernel
set_option maxRecDepth 100000 in
theorem dX7_excuse_31 : decode cX7_excuse 31 = .ok (.baload, 1) := by decide +kernel
set_option maxRecDepth 100000 in
theorem dX7_excuse_32 : decode cX7_excuse 32 = .ok (.iload_n 3, 1) := by decide +kernel
set_option maxRecDepth 100000 in
theorem dX7_excuse_33 : decode cX7_excuse 33 = .ok (.if_icmp .ne 5, 3) := by decide +kernel
set_option maxRecDepth 100000 in
theorem dX7_excuse_36 : decode cX7_excuse 36 = .ok (.iconst 0, 1) := by decide +kernel
set_option maxRecDepth 100000 in
theorem dX7_excuse_37 : decode cX7_excuse 37 = .ok (.ireturn, 1) := by decide +kernel
set_option maxRecDepth 100000 in
theorem dX7_excuse_38 : decode cX7_excuse 38 = .ok (.aload_n 0, 1) := by decide +kernel
set_option maxRecDepth 100000 in
theorem dX7_excuse_39 : decode cX7_excuse 39 = .ok (.getfield 52, 3) := by decide +kernel
set_option maxRecDepth 100000 in
theorem dX7_excuse_42 : decode cX7_excuse 42 = .ok (.iload_n 1, 1) := by decide +kernel
set_option maxRecDepth 100000 in
theorem dX7_excuse_43 : decode cX7_excuse 43 = .ok (.iload_n 2, 1) := by decide +kernel
set_option maxRecDepth 100000 in
theorem dX7_excuse_44 : decode cX7_excuse 44 = .ok (.invokestatic 159, 3) := by decide +kernel
set_option maxRecDepth 100000 in
theorem dX7_excuse_47 : decode cX7_excuse 47 = .ok (.iload_n 3, 1) := by decide +kernel
set_option maxRecDepth 100000 in
theorem dX7_excuse_48 : decode cX7_excuse 48 = .ok (.bastore, 1) := by decide +kernel
set_option maxRecDepth 100000 in
theorem dX7_excuse_49 : decode cX7_excuse 49 = .ok (.iconst 1, 1) := by decide +kernel
set_option maxRecDepth 100000 in
theorem dX7_excuse_50 : decode cX7_excuse 50 = .ok (.ireturn, 1) := by decide +kernel
set_option maxRecDepth 100000 in
theorem dX7_tick_0 : decode cX7_tick 0 = .ok (.iload_n 1, 1) := by decide +kernel
set_option maxRecDepth 100000 in
theorem dX7_tick_1 : decode cX7_tick 1 = .ok (.iconst 1, 1) := by decide +kernel
set_option maxRecDepth 100000 in
theorem dX7_tick_2 : decode cX7_tick 2 = .ok (.if_icmp .ge 10, 3) := by decide +kernel
set_option maxRecDepth 100000 in
theorem dX7_tick_5 : decode cX7_tick 5 = .ok (.aload_n 0, 1) := by decide +kernel
set_option maxRecDepth 100000 in
theorem dX7_tick_6 : decode cX7_tick 6 = .ok (.bipush (-4), 2) := by decide +kernel
set_option maxRecDepth 100000 in
theorem dX7_tick_8 : decode cX7_tick 8 = .ok (.invokevirtual 133, 3) := by decide +kernel
set_option maxRecDepth 100000 in
theorem dX7_tick_11 : decode cX7_tick 11 = .ok (.ireturn, 1) := by decide +kernel
set_option maxRecDepth 100000 in
theorem dX7_tick_12 : decode cX7_tick 12 = .ok (.iload_n 1, 1) := by decide +kernel
set_option maxRecDepth 100000 in
theorem dX7_tick_13 : decode cX7_tick 13 = .ok (.ldc 155, 2) := by decide +kernel
set_option maxRecDepth 100000 in
theorem dX7_tick_15 : decode cX7_tick 15 = .ok (.aload_n 0, 1) := by decide +kernel
set_option maxRecDepth 100000 in
theorem dX7_tick_16 : decode cX7_tick 16 = .ok (.getfield 163, 3) := by decide +kernel
set_option maxRecDepth 100000 in
theorem dX7_tick_19 : decode cX7_tick 19 = .ok (.isub, 1) := by decide +kernel
set_option maxRecDepth 100000 in
theorem dX7_tick_20 : decode cX7_tick 20 = .ok (.if_icmp .le 10, 3) := by decide +kernel
set_option maxRecDepth 100000 in
theorem dX7_tick_23 : decode cX7_tick 23 = .ok (.aload_n 0, 1) := by decide +kernel
set_option maxRecDepth 100000 in
theorem dX7_tick_24 : decode cX7_tick 24 = .ok (.bipush (-6), 2) := by decide +kernel
set_option maxRecDepth 100000 in
theorem dX7_tick_26 : decode cX7_tick 26 = .ok (.invokevirtual 133, 3) := by decide +kernel
set_option maxRecDepth 100000 in
theorem dX7_tick_29 : decode cX7_tick 29 = .ok (.ireturn, 1) := by decide +kernel
set_option maxRecDepth 100000 in
theorem dX7_tick_30 : decode cX7_tick 30 = .ok (.aload_n 0, 1) := by decide +kernel
set_option maxRecDepth 100000 in
theorem dX7_tick_31 : decode cX7_tick 31 = .ok (.dup, 1) := by decide +kernel
set_option maxRecDepth 100000 in
theorem dX7_tick_32 : decode cX7_tick 32 = .ok (.getfield 163, 3) := by decide +kernel
set_option maxRecDepth 100000 in
theorem dX7_tick_35 : decode cX7_tick 35 = .ok (.iload_n 1, 1) := by decide +kernel
set_option maxRecDepth 100000 in
theorem dX7_tick_36 : decode cX7_tick 36 = .ok (.iadd, 1) := by decide +kernel
set_option maxRecDepth 100000 in
theorem dX7_tick_37 : decode cX7_tick 37 = .ok (.putfield 163, 3) := by decide +kernel
set_option maxRecDepth 100000 in
theorem dX7_tick_40 : decode cX7_tick 40 = .ok (.aload_n 0, 1) := by decide +kernel
set_option maxRecDepth 100000 in
theorem dX7_tick_41 : decode cX7_tick 41 = .ok (.getfield 163, 3) := by decide +kernel
set_option maxRecDepth 100000 in
theorem dX7_tick_44 : decode cX7_tick 44 = .ok (.ireturn, 1) := by decide +kernel
set_option maxRecDepth 100000 in
theorem dX7_text_0 : decode cX7_text 0 = .ok (.aload_n 0, 1) := by decide +kernel
set_option maxRecDepth 100000 in
theorem dX7_text_1 : decode cX7_text 1 = .ok (.getfield 166, 3) := by decide +kernel
set_option maxRecDepth 100000 in
theorem dX7_text_4 : decode cX7_text 4 = .ok (.bipush 20, 2) := by decide +kernel
set_option maxRecDepth 100000 in
theorem dX7_text_6 : decode cX7_text 6 = .ok (.iadd, 1) := by decide +kernel
set_option maxRecDepth 100000 in
theorem dX7_text_7 : decode cX7_text 7 = .ok (.sipush 600, 3) := by decide +kernel
set_option maxRecDepth 100000 in
theorem dX7_text_10 : decode cX7_text 10 = .ok (.if_icmp .le 10, 3) := by decide +kernel
set_option maxRecDepth 100000 in
theorem dX7_text_13 : decode cX7_text 13 = .ok (.aload_n 0, 1) := by decide +kernel
set_option maxRecDepth 100000 in
theorem dX7_text_14 : decode cX7_text 14 = .ok (.bipush (-6), 2) := by decide +kernel
set_option maxRecDepth 100000 in
theorem dX7_text_16 : decode cX7_text 16 = .ok (.invokevirtual 133, 3) := by decide +kernel
set_option maxRecDepth 100000 in
theorem dX7_text_19 : decode cX7_text 19 = .ok (.ireturn, 1) := by decide +kernel
set_option maxRecDepth 100000 in
theorem dX7_text_20 : decode cX7_text 20 = .ok (.iconst 0, 1) := by decide +kernel
set_option maxRecDepth 100000 in
theorem dX7_text_21 : decode cX7_text 21 = .ok (.istore 6, 2) := by decide +kernel
set_option maxRecDepth 100000 in
theorem dX7_text_23 : decode cX7_text 23 = .ok (.iload 6, 2) := by decide +kernel
set_option maxRecDepth 100000 in
theorem dX7_text_25 : decode cX7_text 25 = .ok (.bipush 20, 2) := by decide +kernel
set_option maxRecDepth 100000 in
theorem dX7_text_27 : decode cX7_text 27 = .ok (.if_icmp .ge 93, 3) := by decide +kernel
set_option maxRecDepth 100000 in
theorem dX7_text_30 : decode cX7_text 30 = .ok (.iload 6, 2) := by decide +kernel
set_option maxRecDepth 100000 in
theorem dX7_text_32 : decode cX7_text 32 = .ok (.iconst 4, 1) := by decide +kernel
set_option maxRecDepth 100000 in
theorem dX7_text_33 : decode cX7_text 33 = .ok (.if_icmp .ge 7, 3) := by decide +kernel
set_option maxRecDepth 100000 in
theorem dX7_text_36 : decode cX7_text 36 = .ok (.iload_n 1, 1) := by decide +kernel
set_option maxRecDepth 100000 in
theorem dX7_text_37 : decode cX7_text 37 = .ok (.goto 39, 3) := by decide +kernel
set_option maxRecDepth 100000 in
theorem dX7_text_40 : decode cX7_text 40 = .ok (.iload 6, 2) := by decide +kernel
set_option maxRecDepth 100000 in
theorem dX7_text_42 : decode cX7_text 42 = .ok (.bipush 8, 2) := by decide +kernel
set_option maxRecDepth 100000 in
theorem dX7_text_44 : decode cX7_text 44 = .ok (.if_icmp .ge 7, 3) := by decide +kernel
set_option maxRecDepth 100000 in
theorem dX7_text_47 : decode cX7_text 47 = .ok (.iload_n 2, 1) := by decide +kernel
set_option maxRecDepth 100000 in
theorem dX7_text_48 : decode cX7_text 48 = .ok (.goto 28, 3) := by decide +kernel
set_option maxRecDepth 100000 in
theorem dX7_text_51 : decode cX7_text 51 = .ok (.iload 6, 2) := by decide +kernel
set_option maxRecDepth 100000 in
theorem dX7_text_53 : decode cX7_text 53 = .ok (.bipush 12, 2) := by decide +kernel
set_option maxRecDepth 100000 in
theorem dX7_text_55 : decode cX7_text 55 = .ok (.if_icmp .ge 7, 3) := by decide +kernel
set_option maxRecDepth 100000 in
theorem dX7_text_58 : decode cX7_text 58 = .ok (.iload_n 3, 1) := by decide +kernel
set_option maxRecDepth 100000 in
theorem dX7_text_59 : decode cX7_text 59 = .ok (.goto 17, 3) := by decide +kernel
set_option maxRecDepth 100000 in
theorem dX7_text_62 : decode cX7_text 62 = .ok (.iload 6, 2) := by decide +kernel
set_option maxRecDepth 100000 in
theorem dX7_text_64 : decode cX7_text 64 = .ok (.bipush 16, 2) := by decide +kernel
set_option maxRecDepth 100000 in
theorem dX7_text_66 : decode cX7_text 66 = .ok (.if_icmp .ge 8, 3) := by decide +kernel
set_option maxRecDepth 100000 in
theorem dX7_text_69 : decode cX7_text 69 = .ok (.iload 4, 2) := by decide +kernel
set_option maxRecDepth 100000 in
theorem dX7_text_71 : decode cX7_text 71 = .ok (.goto 5, 3) := by decide +kernel
set_option maxRecDepth 100000 in
theorem dX7_text_74 : decode cX7_text 74 = .ok (.iload 5, 2) := by decide +kernel
set_option maxRecDepth 100000 in
theorem dX7_text_76 : decode cX7_text 76 = .ok (.istore 7, 2) := by decide +kernel
set_option maxRecDepth 100000 in
theorem dX7_text_78 : decode cX7_text 78 = .ok (.aload_n 0, 1) := by decide +kernel
set_option maxRecDepth 100000 in
theorem dX7_text_79 : decode cX7_text 79 = .ok (.getfield 56, 3) := by decide +kernel
set_option maxRecDepth 100000 in
theorem dX7_text_82 : decode cX7_text 82 = .ok (.aload_n 0, 1) := by decide +kernel
set_option maxRecDepth 100000 in
theorem dX7_text_83 : decode cX7_text 83 = .ok (.getfield 166, 3) := by decide +kernel
set_option maxRecDepth 100000 in
theorem dX7_text_86 : decode cX7_text 86 = .ok (.iload 7, 2) := by decide +kernel
set_option maxRecDepth 100000 in
theorem dX7_text_88 : decode cX7_text 88 = .ok (.bipush 24, 2) := by decide +kernel
set_option maxRecDepth 100000 in
theorem dX7_text_90 : decode cX7_text 90 = .ok (.bipush 8, 2) := by decide +kernel
set_option maxRecDepth 100000 in
theorem dX7_text_92 : decode cX7_text 92 = .ok (.iload 6, 2) := by decide +kernel
set_option maxRecDepth 100000 in
theorem dX7_text_94 : decode cX7_text 94 = .ok (.iconst 4, 1) := by decide +kernel
set_option maxRecDepth 100000 in
theorem dX7_text_95 : decode cX7_text 95 = .ok (.irem, 1) := by decide +kernel
set_option maxRecDepth 100000 in
theorem dX7_text_96 : decode cX7_text 96 = .ok (.imul, 1) := by decide +kernel
set_option maxRecDepth 100000 in
theorem dX7_text_97 : decode cX7_text 97 = .ok (.isub, 1) := by decide +kernel
set_option maxRecDepth 100000 in
theorem dX7_text_98 : decode cX7_text 98 = .ok (.iushr, 1) := by decide +kernel
set_option maxRecDepth 100000 in
theorem dX7_text_99 : decode cX7_text 99 = .ok (.sipush 255, 3) := by decide +kernel
set_option maxRecDepth 100000 in
theorem dX7_text_102 : decode cX7_text 102 = .ok (.iand, 1) := by decide +kernel
set_option maxRecDepth 100000 in
theorem dX7_text_103 : decode cX7_text 103 = .ok (.iastore, 1) := by decide +kernel
set_option maxRecDepth 100000 in
theorem dX7_text_104 : decode cX7_text 104 = .ok (.aload_n 0, 1) := by decide +kernel
set_option maxRecDepth 100000 in
theorem dX7_text_105 : decode cX7_text 105 = .ok (.dup, 1) := by decide +kernel
set_option maxRecDepth 100000 in
theorem dX7_text_106 : decode cX7_text 106 = .ok (.getfield 166, 3) := by decide +kernel
set_option maxRecDepth 100000 in
theorem dX7_text_109 : decode cX7_text 109 = .ok (.iconst 1, 1) := by decide +kernel
set_option maxRecDepth 100000 in
theorem dX7_text_110 : decode cX7_text 110 = .ok (.iadd, 1) := by decide +kernel
set_option maxRecDepth 100000 in
theorem dX7_text_111 : decode cX7_text 111 = .ok (.putfield 166, 3) := by decide +kernel
set_option maxRecDepth 100000 in
theorem dX7_text_114 : decode cX7_text 114 = .ok (.iinc 6 1, 3) := by decide +kernel
set_option maxRecDepth 100000 in
theorem dX7_text_117 : decode cX7_text 117 = .ok (.goto (-94), 3) := by decide +kernel
set_option maxRecDepth 100000 in
theorem dX7_text_120 : decode cX7_text 120 = .ok (.aload_n 0, 1) := by decide +kernel
set_option maxRecDepth 100000 in
theorem dX7_text_121 : decode cX7_text 121 = .ok (.getfield 166, 3) := by decide +kernel
set_option maxRecDepth 100000 in
theorem dX7_text_124 : decode cX7_text 124 = .ok (.ireturn, 1) := by decide +kernel
set_option maxRecDepth 100000 in
theorem dX7_isDigit_0 : decode cX7_isDigit 0 = .ok (.iload_n 0, 1) := by decide +kernel
set_option maxRecDepth 100000 in
theorem dX7_isDigit_1 : decode cX7_isDigit 1 = .ok (.bipush 48, 2) := by decide +kernel
set_option maxRecDepth 100000 in
theorem dX7_isDigit_3 : decode cX7_isDigit 3 = .ok (.if_icmp .lt 13, 3) := by decide +kernel
set_option maxRecDepth 100000 in
theorem dX7_isDigit_6 : decode cX7_isDigit 6 = .ok (.iload_n 0, 1) := by decide +kernel
set_option maxRecDepth 100000 in
theorem dX7_isDigit_7 : decode cX7_isDigit 7 = .ok (.bipush 57, 2) := by decide +kernel
set_option maxRecDepth 100000 in
theorem dX7_isDigit_9 : decode cX7_isDigit 9 = .ok (.if_icmp .gt 7, 3) := by decide +kernel
set_option maxRecDepth 100000 in
theorem dX7_isDigit_12 : decode cX7_isDigit 12 = .ok (.iconst 1, 1) := by decide +kernel
set_option maxRecDepth 100000 in
theorem dX7_isDigit_13 : decode cX7_isDigit 13 = .ok (.goto 4, 3) := by decide +kernel
set_option maxRecDepth 100000 in
theorem dX7_isDigit_16 : decode cX7_isDigit 16 = .ok (.iconst 0, 1) := by decide +kernel
set_option maxRecDepth 100000 in
theorem dX7_isDigit_17 : decode cX7_isDigit 17 = .ok (.ireturn, 1) := by decide +kernel
set_option maxRecDepth 100000 in
theorem dX7_isLetter_0 : decode cX7_isLetter 0 = .ok (.iload_n 0, 1) := by decide +kernel
set_option maxRecDepth 100000 in
theorem dX7_isLetter_1 : decode cX7_isLetter 1 = .ok (.bipush 97, 2) := by decide +kernel
set_option maxRecDepth 100000 in
theorem dX7_isLetter_3 : decode cX7_isLetter 3 = .ok (.if_icmp .lt 13, 3) := by decide +kernel
set_option maxRecDepth 100000 in
theorem dX7_isLetter_6 : decode cX7_isLetter 6 = .ok (.iload_n 0, 1) := by decide +kernel
set_option maxRecDepth 100000 in
theorem dX7_isLetter_7 : decode cX7_isLetter 7 = .ok (.bipush 122, 2) := by decide +kernel
set_option maxRecDepth 100000 in
theorem dX7_isLetter_9 : decode cX7_isLetter 9 = .ok (.if_icmp .gt 7, 3) := by decide +kernel
set_option maxRecDepth 100000 in
theorem dX7_isLetter_12 : decode cX7_isLetter 12 = .ok (.iconst 1, 1) := by decide +kernel
set_option maxRecDepth 100000 in
theorem dX7_isLetter_13 : decode cX7_isLetter 13 = .ok (.goto 4, 3) := by decide +kernel
set_option maxRecDepth 100000 in
theorem dX7_isLetter_16 : decode cX7_isLetter 16 = .ok (.iconst 0, 1) := by decide +kernel
set_option maxRecDepth 100000 in
theorem dX7_isLetter_17 : decode cX7_isLetter 17 = .ok (.ireturn, 1) := by decide +kernel
set_option maxRecDepth 100000 in
theorem dX7_reads_0 : decode cX7_reads 0 = .ok (.aload_n 0, 1) := by decide +kernel
set_option maxRecDepth 100000 in
theorem dX7_reads_1 : decode cX7_reads 1 = .ok (.getfield 169, 3) := by decide +kernel
set_option maxRecDepth 100000 in
theorem dX7_reads_4 : decode cX7_reads 4 = .ok (.aload_n 0, 1) := by decide +kernel
set_option maxRecDepth 100000 in
theorem dX7_reads_5 : decode cX7_reads 5 = .ok (.getfield 172, 3) := by decide +kernel
set_option maxRecDepth 100000 in
theorem dX7_reads_8 : decode cX7_reads 8 = .ok (.if_icmp .ge 30, 3) := by decide +kernel
set_option maxRecDepth 100000 in
theorem dX7_reads_11 : decode cX7_reads 11 = .ok (.aload_n 0, 1) := by decide +kernel
set_option maxRecDepth 100000 in
theorem dX7_reads_12 : decode cX7_reads 12 = .ok (.getfield 56, 3) := by decide +kernel
set_option maxRecDepth 100000 in
theorem dX7_reads_15 : decode cX7_reads 15 = .ok (.aload_n 0, 1) := by decide +kernel
set_option maxRecDepth 100000 in
theorem dX7_reads_16 : decode cX7_reads 16 = .ok (.getfield 169, 3) := by decide +kernel
set_option maxRecDepth 100000 in
theorem dX7_reads_19 : decode cX7_reads 19 = .ok (.iaload, 1) := by decide +kernel
set_option maxRecDepth 100000 in
theorem dX7_reads_20 : decode cX7_reads 20 = .ok (.bipush 32, 2) := by decide +kernel
set_option maxRecDepth 100000 in
theorem dX7_reads_22 : decode cX7_reads 22 = .ok (.if_icmp .ne 16, 3) := by decide +kernel
set_option maxRecDepth 100000 in
theorem dX7_reads_25 : decode cX7_reads 25 = .ok (.aload_n 0, 1) := by decide +kernel
set_option maxRecDepth 100000 in
theorem dX7_reads_26 : decode cX7_reads 26 = .ok (.dup, 1) := by decide +kernel
set_option maxRecDepth 100000 in
theorem dX7_reads_27 : decode cX7_reads 27 = .ok (.getfield 169, 3) := by decide +kernel
set_option maxRecDepth 100000 in
theorem dX7_reads_30 : decode cX7_reads 30 = .ok (.iconst 1, 1) := by decide +kernel
set_option maxRecDepth 100000 in
theorem dX7_reads_31 : decode cX7_reads 31 = .ok (.iadd, 1) := by decide +kernel
set_option maxRecDepth 100000 in
theorem dX7_reads_32 : decode cX7_reads 32 = .ok (.putfield 169, 3) := by decide +kernel
set_option maxRecDepth 100000 in
theorem dX7_reads_35 : decode cX7_reads 35 = .ok (.goto (-35), 3) := by decide +kernel
set_option maxRecDepth 100000 in
theorem dX7_reads_38 : decode cX7_reads 38 = .ok (.aload_n 0, 1) := by decide +kernel
set_option maxRecDepth 100000 in
theorem dX7_reads_39 : decode cX7_reads 39 = .ok (.aload_n 0, 1) := by decide +kernel
set_option maxRecDepth 100000 in
theorem dX7_reads_40 : decode cX7_reads 40 = .ok (.getfield 169, 3) := by decide +kernel
set_option maxRecDepth 100000 in
theorem dX7_reads_43 : decode cX7_reads 43 = .ok (.putfield 175, 3) := by decide +kernel
set_option maxRecDepth 100000 in
theorem dX7_reads_46 : decode cX7_reads 46 = .ok (.aload_n 0, 1) := by decide +kernel
set_option maxRecDepth 100000 in
theorem dX7_reads_47 : decode cX7_reads 47 = .ok (.iconst 0, 1) := by decide +kernel
set_option maxRecDepth 100000 in
theorem dX7_reads_48 : decode cX7_reads 48 = .ok (.putfield 178, 3) := by decide +kernel
set_option maxRecDepth 100000 in
theorem dX7_reads_51 : decode cX7_reads 51 = .ok (.aload_n 0, 1) := by decide +kernel
set_option maxRecDepth 100000 in
theorem dX7_reads_52 : decode cX7_reads 52 = .ok (.getfield 169, 3) := by decide +kernel
set_option maxRecDepth 100000 in
theorem dX7_reads_55 : decode cX7_reads 55 = .ok (.aload_n 0, 1) := by decide +kernel
set_option maxRecDepth 100000 in
theorem dX7_reads_56 : decode cX7_reads 56 = .ok (.getfield 172, 3) := by decide +kernel
set_option maxRecDepth 100000 in
theorem dX7_reads_59 : decode cX7_reads 59 = .ok (.if_icmp .ne 9, 3) := by decide +kernel
set_option maxRecDepth 100000 in
theorem dX7_reads_62 : decode cX7_reads 62 = .ok (.aload_n 0, 1) := by decide +kernel
set_option maxRecDepth 100000 in
theorem dX7_reads_63 : decode cX7_reads 63 = .ok (.iconst 0, 1) := by decide +kernel
set_option maxRecDepth 100000 in
theorem dX7_reads_64 : decode cX7_reads 64 = .ok (.putfield 181, 3) := by decide +kernel
set_option maxRecDepth 100000 in
theorem dX7_reads_67 : decode cX7_reads 67 = .ok (.return_, 1) := by decide +kernel
set_option maxRecDepth 100000 in
theorem dX7_reads_68 : decode cX7_reads 68 = .ok (.aload_n 0, 1) := by decide +kernel
set_option maxRecDepth 100000 in
theorem dX7_reads_69 : decode cX7_reads 69 = .ok (.getfield 56, 3) := by decide +kernel
set_option maxRecDepth 100000 in
theorem dX7_reads_72 : decode cX7_reads 72 = .ok (.aload_n 0, 1) := by decide +kernel
set_option maxRecDepth 100000 in
theorem dX7_reads_73 : decode cX7_reads 73 = .ok (.getfield 169, 3) := by decide +kernel
set_option maxRecDepth 100000 in
theorem dX7_reads_76 : decode cX7_reads 76 = .ok (.iaload, 1) := by decide +kernel
set_option maxRecDepth 100000 in
theorem dX7_reads_77 : decode cX7_reads 77 = .ok (.istore_n 1, 1) := by decide +kernel
set_option maxRecDepth 100000 in
theorem dX7_reads_78 : decode cX7_reads 78 = .ok (.iload_n 1, 1) := by decide +kernel
set_option maxRecDepth 100000 in
theorem dX7_reads_79 : decode cX7_reads 79 = .ok (.invokestatic 184, 3) := by decide +kernel
set_option maxRecDepth 100000 in
theorem dX7_reads_82 : decode cX7_reads 82 = .ok (.ifCond .ne 10, 3) := by decide +kernel
set_option maxRecDepth 100000 in
theorem dX7_reads_85 : decode cX7_reads 85 = .ok (.iload_n 1, 1) := by decide +kernel
set_option maxRecDepth 100000 in
theorem dX7_reads_86 : decode cX7_reads 86 = .ok (.invokestatic 187, 3) := by decide +kernel
set_option maxRecDepth 100000 in
theorem dX7_reads_89 : decode cX7_reads 89 = .ok (.ifCond .eq 165, 3) := by decide +kernel
set_option maxRecDepth 100000 in
theorem dX7_reads_92 : decode cX7_reads 92 = .ok (.iload_n 1, 1) := by decide +kernel
set_option maxRecDepth 100000 in
theorem dX7_reads_93 : decode cX7_reads 93 = .ok (.invokestatic 184, 3) := by decide +kernel
set_option maxRecDepth 100000 in
theorem dX7_reads_96 : decode cX7_reads 96 = .ok (.istore_n 2, 1) := by decide +kernel
set_option maxRecDepth 100000 in
theorem dX7_reads_97 : decode cX7_reads 97 = .ok (.aload_n 0, 1) := by decide +kernel
set_option maxRecDepth 100000 in
theorem dX7_reads_98 : decode cX7_reads 98 = .ok (.iload_n 2, 1) := by decide +kernel
set_option maxRecDepth 100000 in
theorem dX7_reads_99 : decode cX7_reads 99 = .ok (.ifCond .eq 7, 3) := by decide +kernel
set_option maxRecDepth 100000 in
theorem dX7_reads_102 : decode cX7_reads 102 = .ok (.iconst 1, 1) := by decide +kernel
set_option maxRecDepth 100000 in
theorem dX7_reads_103 : decode cX7_reads 103 = .ok (.goto 4, 3) := by decide +kernel
set_option maxRecDepth 100000 in
theorem dX7_reads_106 : decode cX7_reads 106 = .ok (.iconst 2, 1) := by decide +kernel
set_option maxRecDepth 100000 in
theorem dX7_reads_107 : decode cX7_reads 107 = .ok (.putfield 181, 3) := by decide +kernel
set_option maxRecDepth 100000 in
theorem dX7_reads_110 : decode cX7_reads 110 = .ok (.aload_n 0, 1) := by decide +kernel
set_option maxRecDepth 100000 in
theorem dX7_reads_111 : decode cX7_reads 111 = .ok (.getfield 169, 3) := by decide +kernel
set_option maxRecDepth 100000 in
theorem dX7_reads_114 : decode cX7_reads 114 = .ok (.aload_n 0, 1) := by decide +kernel
set_option maxRecDepth 100000 in
theorem dX7_reads_115 : decode cX7_reads 115 = .ok (.getfield 172, 3) := by decide +kernel
set_option maxRecDepth 100000 in
theorem dX7_reads_118 : decode cX7_reads 118 = .ok (.if_icmp .ge 117, 3) := by decide +kernel
set_option maxRecDepth 100000 in
theorem dX7_reads_121 : decode cX7_reads 121 = .ok (.iload_n 2, 1) := by decide +kernel
set_option maxRecDepth 100000 in
theorem dX7_reads_122 : decode cX7_reads 122 = .ok (.ifCond .eq 21, 3) := by decide +kernel
set_option maxRecDepth 100000 in
theorem dX7_reads_125 : decode cX7_reads 125 = .ok (.aload_n 0, 1) := by decide +kernel
set_option maxRecDepth 100000 in
theorem dX7_reads_126 : decode cX7_reads 126 = .ok (.getfield 56, 3) := by decide +kernel
set_option maxRecDepth 100000 in
theorem dX7_reads_129 : decode cX7_reads 129 = .ok (.aload_n 0, 1) := by decide +kernel
set_option maxRecDepth 100000 in
theorem dX7_reads_130 : decode cX7_reads 130 = .ok (.getfield 169, 3) := by decide +kernel
set_option maxRecDepth 100000 in
theorem dX7_reads_133 : decode cX7_reads 133 = .ok (.iaload, 1) := by decide +kernel
set_option maxRecDepth 100000 in
theorem dX7_reads_134 : decode cX7_reads 134 = .ok (.invokestatic 184, 3) := by decide +kernel
set_option maxRecDepth 100000 in
theorem dX7_reads_137 : decode cX7_reads 137 = .ok (.ifCond .eq 98, 3) := by decide +kernel
set_option maxRecDepth 100000 in
theorem dX7_reads_140 : decode cX7_reads 140 = .ok (.goto 18, 3) := by decide +kernel
set_option maxRecDepth 100000 in
theorem dX7_reads_143 : decode cX7_reads 143 = .ok (.aload_n 0, 1) := by decide +kernel
set_option maxRecDepth 100000 in
theorem dX7_reads_144 : decode cX7_reads 144 = .ok (.getfield 56, 3) := by decide +kernel
set_option maxRecDepth 100000 in
theorem dX7_reads_147 : decode cX7_reads 147 = .ok (.aload_n 0, 1) := by decide +kernel
set_option maxRecDepth 100000 in
theorem dX7_reads_148 : decode cX7_reads 148 = .ok (.getfield 169, 3) := by decide +kernel
set_option maxRecDepth 100000 in
theorem dX7_reads_151 : decode cX7_reads 151 = .ok (.iaload, 1) := by decide +kernel
set_option maxRecDepth 100000 in
theorem dX7_reads_152 : decode cX7_reads 152 = .ok (.invokestatic 187, 3) := by decide +kernel
set_option maxRecDepth 100000 in
theorem dX7_reads_155 : decode cX7_reads 155 = .ok (.ifCond .eq 80, 3) := by decide +kernel
set_option maxRecDepth 100000 in
theorem dX7_reads_158 : decode cX7_reads 158 = .ok (.aload_n 0, 1) := by decide +kernel
set_option maxRecDepth 100000 in
theorem dX7_reads_159 : decode cX7_reads 159 = .ok (.getfield 169, 3) := by decide +kernel
set_option maxRecDepth 100000 in
theorem dX7_reads_162 : decode cX7_reads 162 = .ok (.aload_n 0, 1) := by decide +kernel
set_option maxRecDepth 100000 in
theorem dX7_reads_163 : decode cX7_reads 163 = .ok (.getfield 175, 3) := by decide +kernel
set_option maxRecDepth 100000 in
theorem dX7_reads_166 : decode cX7_reads 166 = .ok (.isub, 1) := by decide +kernel
set_option maxRecDepth 100000 in
theorem dX7_reads_167 : decode cX7_reads 167 = .ok (.iconst 5, 1) := by decide +kernel
set_option maxRecDepth 100000 in
theorem dX7_reads_168 : decode cX7_reads 168 = .ok (.if_icmp .ge 67, 3) := by decide +kernel
set_option maxRecDepth 100000 in
theorem dX7_reads_171 : decode cX7_reads 171 = .ok (.aload_n 0, 1) := by decide +kernel
set_option maxRecDepth 100000 in
theorem dX7_reads_172 : decode cX7_reads 172 = .ok (.iload_n 2, 1) := by decide +kernel
set_option maxRecDepth 100000 in
theorem dX7_reads_173 : decode cX7_reads 173 = .ok (.ifCond .eq 26, 3) := by decide +kernel
set_option maxRecDepth 100000 in
theorem dX7_reads_176 : decode cX7_reads 176 = .ok (.bipush 10, 2) := by decide +kernel
set_option maxRecDepth 100000 in
theorem dX7_reads_178 : decode cX7_reads 178 = .ok (.aload_n 0, 1) := by decide +kernel
set_option maxRecDepth 100000 in
theorem dX7_reads_179 : decode cX7_reads 179 = .ok (.getfield 178, 3) := by decide +kernel
set_option maxRecDepth 100000 in
theorem dX7_reads_182 : decode cX7_reads 182 = .ok (.imul, 1) := by decide +kernel
set_option maxRecDepth 100000 in
theorem dX7_reads_183 : decode cX7_reads 183 = .ok (.aload_n 0, 1) := by decide +kernel
set_option maxRecDepth 100000 in
theorem dX7_reads_184 : decode cX7_reads 184 = .ok (.getfield 56, 3) := by decide +kernel
set_option maxRecDepth 100000 in
theorem dX7_reads_187 : decode cX7_reads 187 = .ok (.aload_n 0, 1) := by decide +kernel
set_option maxRecDepth 100000 in
theorem dX7_reads_188 : decode cX7_reads 188 = .ok (.getfield 169, 3) := by decide +kernel
set_option maxRecDepth 100000 in
theorem dX7_reads_191 : decode cX7_reads 191 = .ok (.iaload, 1) := by decide +kernel
set_option maxRecDepth 100000 in
theorem dX7_reads_192 : decode cX7_reads 192 = .ok (.iadd, 1) := by decide +kernel
set_option maxRecDepth 100000 in
theorem dX7_reads_193 : decode cX7_reads 193 = .ok (.bipush 48, 2) := by decide +kernel
set_option maxRecDepth 100000 in
theorem dX7_reads_195 : decode cX7_reads 195 = .ok (.isub, 1) := by decide +kernel
set_option maxRecDepth 100000 in
theorem dX7_reads_196 : decode cX7_reads 196 = .ok (.goto 23, 3) := by decide +kernel
set_option maxRecDepth 100000 in
theorem dX7_reads_199 : decode cX7_reads 199 = .ok (.bipush 27, 2) := by decide +kernel
set_option maxRecDepth 100000 in
theorem dX7_reads_201 : decode cX7_reads 201 = .ok (.aload_n 0, 1) := by decide +kernel
set_option maxRecDepth 100000 in
theorem dX7_reads_202 : decode cX7_reads 202 = .ok (.getfield 178, 3) := by decide +kernel
set_option maxRecDepth 100000 in
theorem dX7_reads_205 : decode cX7_reads 205 = .ok (.imul, 1) := by decide +kernel
set_option maxRecDepth 100000 in
theorem dX7_reads_206 : decode cX7_reads 206 = .ok (.aload_n 0, 1) := by decide +kernel
set_option maxRecDepth 100000 in
theorem dX7_reads_207 : decode cX7_reads 207 = .ok (.getfield 56, 3) := by decide +kernel
set_option maxRecDepth 100000 in
theorem dX7_reads_210 : decode cX7_reads 210 = .ok (.aload_n 0, 1) := by decide +kernel
set_option maxRecDepth 100000 in
theorem dX7_reads_211 : decode cX7_reads 211 = .ok (.getfield 169, 3) := by decide +kernel
set_option maxRecDepth 100000 in
theorem dX7_reads_214 : decode cX7_reads 214 = .ok (.iaload, 1) := by decide +kernel
set_option maxRecDepth 100000 in
theorem dX7_reads_215 : decode cX7_reads 215 = .ok (.iadd, 1) := by decide +kernel
set_option maxRecDepth 100000 in
theorem dX7_reads_216 : decode cX7_reads 216 = .ok (.bipush 96, 2) := by decide +kernel
set_option maxRecDepth 100000 in
theorem dX7_reads_218 : decode cX7_reads 218 = .ok (.isub, 1) := by decide +kernel
set_option maxRecDepth 100000 in
theorem dX7_reads_219 : decode cX7_reads 219 = .ok (.putfield 178, 3) := by decide +kernel
set_option maxRecDepth 100000 in
theorem dX7_reads_222 : decode cX7_reads 222 = .ok (.aload_n 0, 1) := by decide +kernel
set_option maxRecDepth 100000 in
theorem dX7_reads_223 : decode cX7_reads 223 = .ok (.dup, 1) := by decide +kernel
set_option maxRecDepth 100000 in
theorem dX7_reads_224 : decode cX7_reads 224 = .ok (.getfield 169, 3) := by decide +kernel
set_option maxRecDepth 100000 in
theorem dX7_reads_227 : decode cX7_reads 227 = .ok (.iconst 1, 1) := by decide +kernel
set_option maxRecDepth 100000 in
theorem dX7_reads_228 : decode cX7_reads 228 = .ok (.iadd, 1) := by decide +kernel
set_option maxRecDepth 100000 in
theorem dX7_reads_229 : decode cX7_reads 229 = .ok (.putfield 169, 3) := by decide +kernel
set_option maxRecDepth 100000 in
theorem dX7_reads_232 : decode cX7_reads 232 = .ok (.goto (-122), 3) := by decide +kernel
set_option maxRecDepth 100000 in
theorem dX7_reads_235 : decode cX7_reads 235 = .ok (.aload_n 0, 1) := by decide +kernel
set_option maxRecDepth 100000 in
theorem dX7_reads_236 : decode cX7_reads 236 = .ok (.getfield 169, 3) := by decide +kernel
set_option maxRecDepth 100000 in
theorem dX7_reads_239 : decode cX7_reads 239 = .ok (.aload_n 0, 1) := by decide +kernel
set_option maxRecDepth 100000 in
theorem dX7_reads_240 : decode cX7_reads 240 = .ok (.getfield 175, 3) := by decide +kernel
set_option maxRecDepth 100000 in
theorem dX7_reads_243 : decode cX7_reads 243 = .ok (.isub, 1) := by decide +kernel
set_option maxRecDepth 100000 in
theorem dX7_reads_244 : decode cX7_reads 244 = .ok (.iconst 4, 1) := by decide +kernel
set_option maxRecDepth 100000 in
theorem dX7_reads_245 : decode cX7_reads 245 = .ok (.if_icmp .le 8, 3) := by decide +kernel
set_option maxRecDepth 100000 in
theorem dX7_reads_248 : decode cX7_reads 248 = .ok (.aload_n 0, 1) := by decide +kernel
set_option maxRecDepth 100000 in
theorem dX7_reads_249 : decode cX7_reads 249 = .ok (.iconst 4, 1) := by decide +kernel
set_option maxRecDepth 100000 in
theorem dX7_reads_250 : decode cX7_reads 250 = .ok (.putfield 181, 3) := by decide +kernel
set_option maxRecDepth 100000 in
theorem dX7_reads_253 : decode cX7_reads 253 = .ok (.return_, 1) := by decide +kernel
set_option maxRecDepth 100000 in
theorem dX7_reads_254 : decode cX7_reads 254 = .ok (.iload_n 1, 1) := by decide +kernel
set_option maxRecDepth 100000 in
theorem dX7_reads_255 : decode cX7_reads 255 = .ok (.bipush 40, 2) := by decide +kernel
set_option maxRecDepth 100000 in
theorem dX7_reads_257 : decode cX7_reads 257 = .ok (.if_icmp .lt 9, 3) := by decide +kernel
set_option maxRecDepth 100000 in
theorem dX7_reads_260 : decode cX7_reads 260 = .ok (.iload_n 1, 1) := by decide +kernel
set_option maxRecDepth 100000 in
theorem dX7_reads_261 : decode cX7_reads 261 = .ok (.bipush 45, 2) := by decide +kernel
set_option maxRecDepth 100000 in
theorem dX7_reads_263 : decode cX7_reads 263 = .ok (.if_icmp .le 21, 3) := by decide +kernel
set_option maxRecDepth 100000 in
theorem dX7_reads_266 : decode cX7_reads 266 = .ok (.iload_n 1, 1) := by decide +kernel
set_option maxRecDepth 100000 in
theorem dX7_reads_267 : decode cX7_reads 267 = .ok (.bipush 47, 2) := by decide +kernel
set_option maxRecDepth 100000 in
theorem dX7_reads_269 : decode cX7_reads 269 = .ok (.if_icmp .eq 15, 3) := by decide +kernel
set_option maxRecDepth 100000 in
theorem dX7_reads_272 : decode cX7_reads 272 = .ok (.iload_n 1, 1) := by decide +kernel
set_option maxRecDepth 100000 in
theorem dX7_reads_273 : decode cX7_reads 273 = .ok (.bipush 59, 2) := by decide +kernel
set_option maxRecDepth 100000 in
theorem dX7_reads_275 : decode cX7_reads 275 = .ok (.if_icmp .eq 9, 3) := by decide +kernel
set_option maxRecDepth 100000 in
theorem dX7_reads_278 : decode cX7_reads 278 = .ok (.iload_n 1, 1) := by decide +kernel
set_option maxRecDepth 100000 in
theorem dX7_reads_279 : decode cX7_reads 279 = .ok (.bipush 61, 2) := by decide +kernel
set_option maxRecDepth 100000 in
theorem dX7_reads_281 : decode cX7_reads 281 = .ok (.if_icmp .ne 7, 3) := by decide +kernel
set_option maxRecDepth 100000 in
theorem dX7_reads_284 : decode cX7_reads 284 = .ok (.iconst 1, 1) := by decide +kernel
set_option maxRecDepth 100000 in
theorem dX7_reads_285 : decode cX7_reads 285 = .ok (.goto 4, 3) := by decide +kernel
set_option maxRecDepth 100000 in
theorem dX7_reads_288 : decode cX7_reads 288 = .ok (.iconst 0, 1) := by decide +kernel
set_option maxRecDepth 100000 in
theorem dX7_reads_289 : decode cX7_reads 289 = .ok (.istore_n 2, 1) := by decide +kernel
set_option maxRecDepth 100000 in
theorem dX7_reads_290 : decode cX7_reads 290 = .ok (.aload_n 0, 1) := by decide +kernel
set_option maxRecDepth 100000 in
theorem dX7_reads_291 : decode cX7_reads 291 = .ok (.iload_n 2, 1) := by decide +kernel
set_option maxRecDepth 100000 in
theorem dX7_reads_292 : decode cX7_reads 292 = .ok (.ifCond .eq 7, 3) := by decide +kernel
set_option maxRecDepth 100000 in
theorem dX7_reads_295 : decode cX7_reads 295 = .ok (.iconst 3, 1) := by decide +kernel
set_option maxRecDepth 100000 in
theorem dX7_reads_296 : decode cX7_reads 296 = .ok (.goto 4, 3) := by decide +kernel
set_option maxRecDepth 100000 in
theorem dX7_reads_299 : decode cX7_reads 299 = .ok (.iconst 4, 1) := by decide +kernel
set_option maxRecDepth 100000 in
theorem dX7_reads_300 : decode cX7_reads 300 = .ok (.putfield 181, 3) := by decide +kernel
set_option maxRecDepth 100000 in
theorem dX7_reads_303 : decode cX7_reads 303 = .ok (.aload_n 0, 1) := by decide +kernel
set_option maxRecDepth 100000 in
theorem dX7_reads_304 : decode cX7_reads 304 = .ok (.iload_n 1, 1) := by decide +kernel
set_option maxRecDepth 100000 in
theorem dX7_reads_305 : decode cX7_reads 305 = .ok (.putfield 178, 3) := by decide +kernel
set_option maxRecDepth 100000 in
theorem dX7_reads_308 : decode cX7_reads 308 = .ok (.aload_n 0, 1) := by decide +kernel
set_option maxRecDepth 100000 in
theorem dX7_reads_309 : decode cX7_reads 309 = .ok (.dup, 1) := by decide +kernel
set_option maxRecDepth 100000 in
theorem dX7_reads_310 : decode cX7_reads 310 = .ok (.getfield 169, 3) := by decide +kernel
set_option maxRecDepth 100000 in
theorem dX7_reads_313 : decode cX7_reads 313 = .ok (.iconst 1, 1) := by decide +kernel
set_option maxRecDepth 100000 in
theorem dX7_reads_314 : decode cX7_reads 314 = .ok (.iadd, 1) := by decide +kernel
set_option maxRecDepth 100000 in
theorem dX7_reads_315 : decode cX7_reads 315 = .ok (.putfield 169, 3) := by decide +kernel
set_option maxRecDepth 100000 in
theorem dX7_reads_318 : decode cX7_reads 318 = .ok (.return_, 1) := by decide +kernel
set_option maxRecDepth 100000 in
theorem dX7_isSign_0 : decode cX7_isSign 0 = .ok (.aload_n 0, 1) := by decide +kernel
set_option maxRecDepth 100000 in
theorem dX7_isSign_1 : decode cX7_isSign 1 = .ok (.getfield 181, 3) := by decide +kernel
set_option maxRecDepth 100000 in
theorem dX7_isSign_4 : decode cX7_isSign 4 = .ok (.iconst 3, 1) := by decide +kernel
set_option maxRecDepth 100000 in
theorem dX7_isSign_5 : decode cX7_isSign 5 = .ok (.if_icmp .ne 15, 3) := by decide +kernel
set_option maxRecDepth 100000 in
theorem dX7_isSign_8 : decode cX7_isSign 8 = .ok (.aload_n 0, 1) := by decide +kernel
set_option maxRecDepth 100000 in
theorem dX7_isSign_9 : decode cX7_isSign 9 = .ok (.getfield 178, 3) := by decide +kernel
set_option maxRecDepth 100000 in
theorem dX7_isSign_12 : decode cX7_isSign 12 = .ok (.iload_n 1, 1) := by decide +kernel
set_option maxRecDepth 100000 in
theorem dX7_isSign_13 : decode cX7_isSign 13 = .ok (.if_icmp .ne 7, 3) := by decide +kernel
set_option maxRecDepth 100000 in
theorem dX7_isSign_16 : decode cX7_isSign 16 = .ok (.iconst 1, 1) := by decide +kernel
set_option maxRecDepth 100000 in
theorem dX7_isSign_17 : decode cX7_isSign 17 = .ok (.goto 4, 3) := by decide +kernel
set_option maxRecDepth 100000 in
theorem dX7_isSign_20 : decode cX7_isSign 20 = .ok (.iconst 0, 1) := by decide +kernel
set_option maxRecDepth 100000 in
theorem dX7_isSign_21 : decode cX7_isSign 21 = .ok (.ireturn, 1) := by decide +kernel
set_option maxRecDepth 100000 in
theorem dX7_isFine_0 : decode cX7_isFine 0 = .ok (.aload_n 0, 1) := by decide +kernel
set_option maxRecDepth 100000 in
theorem dX7_isFine_1 : decode cX7_isFine 1 = .ok (.getfield 190, 3) := by decide +kernel
set_option maxRecDepth 100000 in
theorem dX7_isFine_4 : decode cX7_isFine 4 = .ok (.ifCond .ge 7, 3) := by decide +kernel
set_option maxRecDepth 100000 in
theorem dX7_isFine_7 : decode cX7_isFine 7 = .ok (.iconst 1, 1) := by decide +kernel
set_option maxRecDepth 100000 in
theorem dX7_isFine_8 : decode cX7_isFine 8 = .ok (.goto 4, 3) := by decide +kernel
set_option maxRecDepth 100000 in
theorem dX7_isFine_11 : decode cX7_isFine 11 = .ok (.iconst 0, 1) := by decide +kernel
set_option maxRecDepth 100000 in
theorem dX7_isFine_12 : decode cX7_isFine 12 = .ok (.ireturn, 1) := by decide +kernel
set_option maxRecDepth 100000 in
theorem dX7_faults_0 : decode cX7_faults 0 = .ok (.aload_n 0, 1) := by decide +kernel
set_option maxRecDepth 100000 in
theorem dX7_faults_1 : decode cX7_faults 1 = .ok (.getfield 190, 3) := by decide +kernel
set_option maxRecDepth 100000 in
theorem dX7_faults_4 : decode cX7_faults 4 = .ok (.ifCond .ge 11, 3) := by decide +kernel
set_option maxRecDepth 100000 in
theorem dX7_faults_7 : decode cX7_faults 7 = .ok (.aload_n 0, 1) := by decide +kernel
set_option maxRecDepth 100000 in
theorem dX7_faults_8 : decode cX7_faults 8 = .ok (.aload_n 0, 1) := by decide +kernel
set_option maxRecDepth 100000 in
theorem dX7_faults_9 : decode cX7_faults 9 = .ok (.getfield 175, 3) := by decide +kernel
set_option maxRecDepth 100000 in
theorem dX7_faults_12 : decode cX7_faults 12 = .ok (.putfield 190, 3) := by decide +kernel
set_option maxRecDepth 100000 in
theorem dX7_faults_15 : decode cX7_faults 15 = .ok (.iconst (-1), 1) := by decide +kernel
set_option maxRecDepth 100000 in
theorem dX7_faults_16 : decode cX7_faults 16 = .ok (.ireturn, 1) := by decide +kernel
set_option maxRecDepth 100000 in
theorem dX7_must_0 : decode cX7_must 0 = .ok (.aload_n 0, 1) := by decide +kernel
set_option maxRecDepth 100000 in
theorem dX7_must_1 : decode cX7_must 1 = .ok (.invokevirtual 193, 3) := by decide +kernel
set_option maxRecDepth 100000 in
theorem dX7_must_4 : decode cX7_must 4 = .ok (.ifCond .ne 4, 3) := by decide +kernel
set_option maxRecDepth 100000 in
theorem dX7_must_7 : decode cX7_must 7 = .ok (.return_, 1) := by decide +kernel
set_option maxRecDepth 100000 in
theorem dX7_must_8 : decode cX7_must 8 = .ok (.aload_n 0, 1) := by decide +kernel
set_option maxRecDepth 100000 in
theorem dX7_must_9 : decode cX7_must 9 = .ok (.iload_n 1, 1) := by decide +kernel
set_option maxRecDepth 100000 in
theorem dX7_must_10 : decode cX7_must 10 = .ok (.invokevirtual 197, 3) := by decide +kernel
set_option maxRecDepth 100000 in
theorem dX7_must_13 : decode cX7_must 13 = .ok (.ifCond .eq 10, 3) := by decide +kernel
set_option maxRecDepth 100000 in
theorem dX7_must_16 : decode cX7_must 16 = .ok (.aload_n 0, 1) := by decide +kernel
set_option maxRecDepth 100000 in
theorem dX7_must_17 : decode cX7_must 17 = .ok (.invokevirtual 200, 3) := by decide +kernel
set_option maxRecDepth 100000 in
theorem dX7_must_20 : decode cX7_must 20 = .ok (.goto 8, 3) := by decide +kernel
set_option maxRecDepth 100000 in
theorem dX7_must_23 : decode cX7_must 23 = .ok (.aload_n 0, 1) := by decide +kernel
set_option maxRecDepth 100000 in
theorem dX7_must_24 : decode cX7_must 24 = .ok (.invokevirtual 203, 3) := by decide +kernel
set_option maxRecDepth 100000 in
theorem dX7_must_27 : decode cX7_must 27 = .ok (.pop, 1) := by decide +kernel
set_option maxRecDepth 100000 in
theorem dX7_must_28 : decode cX7_must 28 = .ok (.return_, 1) := by decide +kernel
set_option maxRecDepth 100000 in
theorem dX7_node_0 : decode cX7_node 0 = .ok (.sipush 1600, 3) := by decide +kernel
set_option maxRecDepth 100000 in
theorem dX7_node_3 : decode cX7_node 3 = .ok (.aload_n 0, 1) := by decide +kernel
set_option maxRecDepth 100000 in
theorem dX7_node_4 : decode cX7_node 4 = .ok (.getfield 207, 3) := by decide +kernel
set_option maxRecDepth 100000 in
theorem dX7_node_7 : decode cX7_node 7 = .ok (.imul, 1) := by decide +kernel
set_option maxRecDepth 100000 in
theorem dX7_node_8 : decode cX7_node 8 = .ok (.aload_n 0, 1) := by decide +kernel
set_option maxRecDepth 100000 in
theorem dX7_node_9 : decode cX7_node 9 = .ok (.getfield 210, 3) := by decide +kernel
set_option maxRecDepth 100000 in
theorem dX7_node_12 : decode cX7_node 12 = .ok (.iadd, 1) := by decide +kernel
set_option maxRecDepth 100000 in
theorem dX7_node_13 : decode cX7_node 13 = .ok (.istore_n 3, 1) := by decide +kernel
set_option maxRecDepth 100000 in
theorem dX7_node_14 : decode cX7_node 14 = .ok (.aload_n 0, 1) := by decide +kernel
set_option maxRecDepth 100000 in
theorem dX7_node_15 : decode cX7_node 15 = .ok (.dup, 1) := by decide +kernel
set_option maxRecDepth 100000 in
theorem dX7_node_16 : decode cX7_node 16 = .ok (.getfield 210, 3) := by decide +kernel
set_option maxRecDepth 100000 in
theorem dX7_node_19 : decode cX7_node 19 = .ok (.iconst 1, 1) := by decide +kernel
set_option maxRecDepth 100000 in
theorem dX7_node_20 : decode cX7_node 20 = .ok (.iadd, 1) := by decide +kernel
set_option maxRecDepth 100000 in
theorem dX7_node_21 : decode cX7_node 21 = .ok (.putfield 210, 3) := by decide +kernel
set_option maxRecDepth 100000 in
theorem dX7_node_24 : decode cX7_node 24 = .ok (.aload_n 0, 1) := by decide +kernel
set_option maxRecDepth 100000 in
theorem dX7_node_25 : decode cX7_node 25 = .ok (.getfield 59, 3) := by decide +kernel
set_option maxRecDepth 100000 in
theorem dX7_node_28 : decode cX7_node 28 = .ok (.iload_n 3, 1) := by decide +kernel
set_option maxRecDepth 100000 in
theorem dX7_node_29 : decode cX7_node 29 = .ok (.iload_n 1, 1) := by decide +kernel
set_option maxRecDepth 100000 in
theorem dX7_node_30 : decode cX7_node 30 = .ok (.iastore, 1) := by decide +kernel
set_option maxRecDepth 100000 in
theorem dX7_node_31 : decode cX7_node 31 = .ok (.aload_n 0, 1) := by decide +kernel
set_option maxRecDepth 100000 in
theorem dX7_node_32 : decode cX7_node 32 = .ok (.getfield 62, 3) := by decide +kernel
set_option maxRecDepth 100000 in
theorem dX7_node_35 : decode cX7_node 35 = .ok (.iload_n 3, 1) := by decide +kernel
set_option maxRecDepth 100000 in
theorem dX7_node_36 : decode cX7_node 36 = .ok (.iload_n 2, 1) := by decide +kernel
set_option maxRecDepth 100000 in
theorem dX7_node_37 : decode cX7_node 37 = .ok (.iastore, 1) := by decide +kernel
set_option maxRecDepth 100000 in
theorem dX7_node_38 : decode cX7_node 38 = .ok (.aload_n 0, 1) := by decide +kernel
set_option maxRecDepth 100000 in
theorem dX7_node_39 : decode cX7_node 39 = .ok (.getfield 65, 3) := by decide +kernel
set_option maxRecDepth 100000 in
theorem dX7_node_42 : decode cX7_node 42 = .ok (.iload_n 3, 1) := by decide +kernel
set_option maxRecDepth 100000 in
theorem dX7_node_43 : decode cX7_node 43 = .ok (.iconst (-1), 1) := by decide +kernel
set_option maxRecDepth 100000 in
theorem dX7_node_44 : decode cX7_node 44 = .ok (.iastore, 1) := by decide +kernel
set_option maxRecDepth 100000 in
theorem dX7_node_45 : decode cX7_node 45 = .ok (.aload_n 0, 1) := by decide +kernel
set_option maxRecDepth 100000 in
theorem dX7_node_46 : decode cX7_node 46 = .ok (.getfield 68, 3) := by decide +kernel
set_option maxRecDepth 100000 in
theorem dX7_node_49 : decode cX7_node 49 = .ok (.iload_n 3, 1) := by decide +kernel
set_option maxRecDepth 100000 in
theorem dX7_node_50 : decode cX7_node 50 = .ok (.iconst (-1), 1) := by decide +kernel
set_option maxRecDepth 100000 in
theorem dX7_node_51 : decode cX7_node 51 = .ok (.iastore, 1) := by decide +kernel
set_option maxRecDepth 100000 in
theorem dX7_node_52 : decode cX7_node 52 = .ok (.aload_n 0, 1) := by decide +kernel
set_option maxRecDepth 100000 in
theorem dX7_node_53 : decode cX7_node 53 = .ok (.getfield 71, 3) := by decide +kernel
set_option maxRecDepth 100000 in
theorem dX7_node_56 : decode cX7_node 56 = .ok (.iload_n 3, 1) := by decide +kernel
set_option maxRecDepth 100000 in
theorem dX7_node_57 : decode cX7_node 57 = .ok (.iconst (-1), 1) := by decide +kernel
set_option maxRecDepth 100000 in
theorem dX7_node_58 : decode cX7_node 58 = .ok (.iastore, 1) := by decide +kernel
set_option maxRecDepth 100000 in
theorem dX7_node_59 : decode cX7_node 59 = .ok (.aload_n 0, 1) := by decide +kernel
set_option maxRecDepth 100000 in
theorem dX7_node_60 : decode cX7_node 60 = .ok (.getfield 74, 3) := by decide +kernel
set_option maxRecDepth 100000 in
theorem dX7_node_63 : decode cX7_node 63 = .ok (.iload_n 3, 1) := by decide +kernel
set_option maxRecDepth 100000 in
theorem dX7_node_64 : decode cX7_node 64 = .ok (.iconst 0, 1) := by decide +kernel
set_option maxRecDepth 100000 in
theorem dX7_node_65 : decode cX7_node 65 = .ok (.bastore, 1) := by decide +kernel
set_option maxRecDepth 100000 in
theorem dX7_node_66 : decode cX7_node 66 = .ok (.iload_n 3, 1) := by decide +kernel
set_option maxRecDepth 100000 in
theorem dX7_node_67 : decode cX7_node 67 = .ok (.ireturn, 1) := by decide +kernel
set_option maxRecDepth 100000 in
theorem dX7_adds_0 : decode cX7_adds 0 = .ok (.iload_n 2, 1) := by decide +kernel
set_option maxRecDepth 100000 in
theorem dX7_adds_1 : decode cX7_adds 1 = .ok (.ifCond .ge 4, 3) := by decide +kernel
set_option maxRecDepth 100000 in
theorem dX7_adds_4 : decode cX7_adds 4 = .ok (.return_, 1) := by decide +kernel
set_option maxRecDepth 100000 in
theorem dX7_adds_5 : decode cX7_adds 5 = .ok (.aload_n 0, 1) := by decide +kernel
set_option maxRecDepth 100000 in
theorem dX7_adds_6 : decode cX7_adds 6 = .ok (.getfield 65, 3) := by decide +kernel
set_option maxRecDepth 100000 in
theorem dX7_adds_9 : decode cX7_adds 9 = .ok (.iload_n 1, 1) := by decide +kernel
set_option maxRecDepth 100000 in
theorem dX7_adds_10 : decode cX7_adds 10 = .ok (.iaload, 1) := by decide +kernel
set_option maxRecDepth 100000 in
theorem dX7_adds_11 : decode cX7_adds 11 = .ok (.ifCond .ge 13, 3) := by decide +kernel
set_option maxRecDepth 100000 in
theorem dX7_adds_14 : decode cX7_adds 14 = .ok (.aload_n 0, 1) := by decide +kernel
set_option maxRecDepth 100000 in
theorem dX7_adds_15 : decode cX7_adds 15 = .ok (.getfield 65, 3) := by decide +kernel
set_option maxRecDepth 100000 in
theorem dX7_adds_18 : decode cX7_adds 18 = .ok (.iload_n 1, 1) := by decide +kernel
set_option maxRecDepth 100000 in
theorem dX7_adds_19 : decode cX7_adds 19 = .ok (.iload_n 2, 1) := by decide +kernel
set_option maxRecDepth 100000 in
theorem dX7_adds_20 : decode cX7_adds 20 = .ok (.iastore, 1) := by decide +kernel
set_option maxRecDepth 100000 in
theorem dX7_adds_21 : decode cX7_adds 21 = .ok (.goto 15, 3) := by decide +kernel
set_option maxRecDepth 100000 in
theorem dX7_adds_24 : decode cX7_adds 24 = .ok (.aload_n 0, 1) := by decide +kernel
set_option maxRecDepth 100000 in
theorem dX7_adds_25 : decode cX7_adds 25 = .ok (.getfield 68, 3) := by decide +kernel
set_option maxRecDepth 100000 in
theorem dX7_adds_28 : decode cX7_adds 28 = .ok (.aload_n 0, 1) := by decide +kernel
set_option maxRecDepth 100000 in
theorem dX7_adds_29 : decode cX7_adds 29 = .ok (.getfield 71, 3) := by decide +kernel
set_option maxRecDepth 100000 in
theorem dX7_adds_32 : decode cX7_adds 32 = .ok (.iload_n 1, 1) := by decide +kernel
set_option maxRecDepth 100000 in
theorem dX7_adds_33 : decode cX7_adds 33 = .ok (.iaload, 1) := by decide +kernel
set_option maxRecDepth 100000 in
theorem dX7_adds_34 : decode cX7_adds 34 = .ok (.iload_n 2, 1) := by decide +kernel
set_option maxRecDepth 100000 in
theorem dX7_adds_35 : decode cX7_adds 35 = .ok (.iastore, 1) := by decide +kernel
set_option maxRecDepth 100000 in
theorem dX7_adds_36 : decode cX7_adds 36 = .ok (.aload_n 0, 1) := by decide +kernel
set_option maxRecDepth 100000 in
theorem dX7_adds_37 : decode cX7_adds 37 = .ok (.getfield 71, 3) := by decide +kernel
set_option maxRecDepth 100000 in
theorem dX7_adds_40 : decode cX7_adds 40 = .ok (.iload_n 1, 1) := by decide +kernel
set_option maxRecDepth 100000 in
theorem dX7_adds_41 : decode cX7_adds 41 = .ok (.iload_n 2, 1) := by decide +kernel
set_option maxRecDepth 100000 in
theorem dX7_adds_42 : decode cX7_adds 42 = .ok (.iastore, 1) := by decide +kernel
set_option maxRecDepth 100000 in
theorem dX7_adds_43 : decode cX7_adds 43 = .ok (.return_, 1) := by decide +kernel
set_option maxRecDepth 100000 in
theorem dX7_functionOf_0 : decode cX7_functionOf 0 = .ok (.iload_n 0, 1) := by decide +kernel
set_option maxRecDepth 100000 in
theorem dX7_functionOf_1 : decode cX7_functionOf 1 = .ok (.lookupswitch 86 #[(2230, 80), (9528, 67), (9734, 69), (43544, 74), (92275, 77), (259565, 71), (316189, 83)], 67) := by decide +kernel
set_option maxRecDepth 100000 in
theorem dX7_functionOf_68 : decode cX7_functionOf 68 = .ok (.iconst 4, 1) := by decide +kernel
set_option maxRecDepth 100000 in
theorem dX7_functionOf_69 : decode cX7_functionOf 69 = .ok (.ireturn, 1) := by decide +kernel
set_option maxRecDepth 100000 in
theorem dX7_functionOf_70 : decode cX7_functionOf 70 = .ok (.iconst 5, 1) := by decide +kernel
set_option maxRecDepth 100000 in
theorem dX7_functionOf_71 : decode cX7_functionOf 71 = .ok (.ireturn, 1) := by decide +kernel
set_option maxRecDepth 100000 in
theorem dX7_functionOf_72 : decode cX7_functionOf 72 = .ok (.bipush 6, 2) := by decide +kernel
set_option maxRecDepth 100000 in
theorem dX7_functionOf_74 : decode cX7_functionOf 74 = .ok (.ireturn, 1) := by decide +kernel
set_option maxRecDepth 100000 in
theorem dX7_functionOf_75 : decode cX7_functionOf 75 = .ok (.bipush 7, 2) := by decide +kernel
set_option maxRecDepth 100000 in
theorem dX7_functionOf_77 : decode cX7_functionOf 77 = .ok (.ireturn, 1) := by decide +kernel
set_option maxRecDepth 100000 in
theorem dX7_functionOf_78 : decode cX7_functionOf 78 = .ok (.bipush 8, 2) := by decide +kernel
set_option maxRecDepth 100000 in
theorem dX7_functionOf_80 : decode cX7_functionOf 80 = .ok (.ireturn, 1) := by decide +kernel
set_option maxRecDepth 100000 in
theorem dX7_functionOf_81 : decode cX7_functionOf 81 = .ok (.bipush 9, 2) := by decide +kernel
set_option maxRecDepth 100000 in
theorem dX7_functionOf_83 : decode cX7_functionOf 83 = .ok (.ireturn, 1) := by decide +kernel
set_option maxRecDepth 100000 in
theorem dX7_functionOf_84 : decode cX7_functionOf 84 = .ok (.bipush 10, 2) := by decide +kernel
set_option maxRecDepth 100000 in
theorem dX7_functionOf_86 : decode cX7_functionOf 86 = .ok (.ireturn, 1) := by decide +kernel
set_option maxRecDepth 100000 in
theorem dX7_functionOf_87 : decode cX7_functionOf 87 = .ok (.iconst 0, 1) := by decide +kernel
set_option maxRecDepth 100000 in
theorem dX7_functionOf_88 : decode cX7_functionOf 88 = .ok (.ireturn, 1) := by decide +kernel
set_option maxRecDepth 100000 in
theorem dX7_workOf_0 : decode cX7_workOf 0 = .ok (.iload_n 0, 1) := by decide +kernel
set_option maxRecDepth 100000 in
theorem dX7_workOf_1 : decode cX7_workOf 1 = .ok (.sipush 621, 3) := by decide +kernel
set_option maxRecDepth 100000 in
theorem dX7_workOf_4 : decode cX7_workOf 4 = .ok (.isub, 1) := by decide +kernel
set_option maxRecDepth 100000 in
theorem dX7_workOf_5 : decode cX7_workOf 5 = .ok (.iconst 1, 1) := by decide +kernel
set_option maxRecDepth 100000 in
theorem dX7_workOf_6 : decode cX7_workOf 6 = .ok (.isub, 1) := by decide +kernel
set_option maxRecDepth 100000 in
theorem dX7_workOf_7 : decode cX7_workOf 7 = .ok (.istore_n 1, 1) := by decide +kernel
set_option maxRecDepth 100000 in
theorem dX7_workOf_8 : decode cX7_workOf 8 = .ok (.iload_n 1, 1) := by decide +kernel
set_option maxRecDepth 100000 in
theorem dX7_workOf_9 : decode cX7_workOf 9 = .ok (.bipush 10, 2) := by decide +kernel
set_option maxRecDepth 100000 in
theorem dX7_workOf_11 : decode cX7_workOf 11 = .ok (.invokestatic 141, 3) := by decide +kernel
set_option maxRecDepth 100000 in
theorem dX7_workOf_14 : decode cX7_workOf 14 = .ok (.ifCond .eq 7, 3) := by decide +kernel
set_option maxRecDepth 100000 in
theorem dX7_workOf_17 : decode cX7_workOf 17 = .ok (.iload_n 1, 1) := by decide +kernel
set_option maxRecDepth 100000 in
theorem dX7_workOf_18 : decode cX7_workOf 18 = .ok (.goto 4, 3) := by decide +kernel
set_option maxRecDepth 100000 in
theorem dX7_workOf_21 : decode cX7_workOf 21 = .ok (.iconst (-1), 1) := by decide +kernel
set_option maxRecDepth 100000 in
theorem dX7_workOf_22 : decode cX7_workOf 22 = .ok (.ireturn, 1) := by decide +kernel
set_option maxRecDepth 100000 in
theorem dX7_sum_0 : decode cX7_sum 0 = .ok (.aload_n 0, 1) := by decide +kernel
set_option maxRecDepth 100000 in
theorem dX7_sum_1 : decode cX7_sum 1 = .ok (.iconst 2, 1) := by decide +kernel
set_option maxRecDepth 100000 in
theorem dX7_sum_2 : decode cX7_sum 2 = .ok (.iconst 0, 1) := by decide +kernel
set_option maxRecDepth 100000 in
theorem dX7_sum_3 : decode cX7_sum 3 = .ok (.invokevirtual 213, 3) := by decide +kernel
set_option maxRecDepth 100000 in
theorem dX7_sum_6 : decode cX7_sum 6 = .ok (.istore_n 2, 1) := by decide +kernel
set_option maxRecDepth 100000 in
theorem dX7_sum_7 : decode cX7_sum 7 = .ok (.aload_n 0, 1) := by decide +kernel
set_option maxRecDepth 100000 in
theorem dX7_sum_8 : decode cX7_sum 8 = .ok (.iload_n 2, 1) := by decide +kernel
set_option maxRecDepth 100000 in
theorem dX7_sum_9 : decode cX7_sum 9 = .ok (.aload_n 0, 1) := by decide +kernel
set_option maxRecDepth 100000 in
theorem dX7_sum_10 : decode cX7_sum 10 = .ok (.iload_n 1, 1) := by decide +kernel
set_option maxRecDepth 100000 in
theorem dX7_sum_11 : decode cX7_sum 11 = .ok (.invokevirtual 216, 3) := by decide +kernel
set_option maxRecDepth 100000 in
theorem dX7_sum_14 : decode cX7_sum 14 = .ok (.invokevirtual 219, 3) := by decide +kernel
set_option maxRecDepth 100000 in
theorem dX7_sum_17 : decode cX7_sum 17 = .ok (.aload_n 0, 1) := by decide +kernel
set_option maxRecDepth 100000 in
theorem dX7_sum_18 : decode cX7_sum 18 = .ok (.invokevirtual 193, 3) := by decide +kernel
set_option maxRecDepth 100000 in
theorem dX7_sum_21 : decode cX7_sum 21 = .ok (.ifCond .eq 92, 3) := by decide +kernel
set_option maxRecDepth 100000 in
theorem dX7_sum_24 : decode cX7_sum 24 = .ok (.aload_n 0, 1) := by decide +kernel
set_option maxRecDepth 100000 in
theorem dX7_sum_25 : decode cX7_sum 25 = .ok (.bipush 43, 2) := by decide +kernel
set_option maxRecDepth 100000 in
theorem dX7_sum_27 : decode cX7_sum 27 = .ok (.invokevirtual 197, 3) := by decide +kernel
set_option maxRecDepth 100000 in
theorem dX7_sum_30 : decode cX7_sum 30 = .ok (.ifCond .ne 12, 3) := by decide +kernel
set_option maxRecDepth 100000 in
theorem dX7_sum_33 : decode cX7_sum 33 = .ok (.aload_n 0, 1) := by decide +kernel
set_option maxRecDepth 100000 in
theorem dX7_sum_34 : decode cX7_sum 34 = .ok (.bipush 45, 2) := by decide +kernel
set_option maxRecDepth 100000 in
theorem dX7_sum_36 : decode cX7_sum 36 = .ok (.invokevirtual 197, 3) := by decide +kernel
set_option maxRecDepth 100000 in
theorem dX7_sum_39 : decode cX7_sum 39 = .ok (.ifCond .eq 74, 3) := by decide +kernel
set_option maxRecDepth 100000 in
theorem dX7_sum_42 : decode cX7_sum 42 = .ok (.aload_n 0, 1) := by decide +kernel
set_option maxRecDepth 100000 in
theorem dX7_sum_43 : decode cX7_sum 43 = .ok (.bipush 45, 2) := by decide +kernel
set_option maxRecDepth 100000 in
theorem dX7_sum_45 : decode cX7_sum 45 = .ok (.invokevirtual 197, 3) := by decide +kernel
set_option maxRecDepth 100000 in
theorem dX7_sum_48 : decode cX7_sum 48 = .ok (.istore_n 3, 1) := by decide +kernel
set_option maxRecDepth 100000 in
theorem dX7_sum_49 : decode cX7_sum 49 = .ok (.aload_n 0, 1) := by decide +kernel
set_option maxRecDepth 100000 in
theorem dX7_sum_50 : decode cX7_sum 50 = .ok (.getfield 89, 3) := by decide +kernel
set_option maxRecDepth 100000 in
theorem dX7_sum_53 : decode cX7_sum 53 = .ok (.aload_n 0, 1) := by decide +kernel
set_option maxRecDepth 100000 in
theorem dX7_sum_54 : decode cX7_sum 54 = .ok (.getfield 207, 3) := by decide +kernel
set_option maxRecDepth 100000 in
theorem dX7_sum_57 : decode cX7_sum 57 = .ok (.aload_n 0, 1) := by decide +kernel
set_option maxRecDepth 100000 in
theorem dX7_sum_58 : decode cX7_sum 58 = .ok (.getfield 89, 3) := by decide +kernel
set_option maxRecDepth 100000 in
theorem dX7_sum_61 : decode cX7_sum 61 = .ok (.aload_n 0, 1) := by decide +kernel
set_option maxRecDepth 100000 in
theorem dX7_sum_62 : decode cX7_sum 62 = .ok (.getfield 207, 3) := by decide +kernel
set_option maxRecDepth 100000 in
theorem dX7_sum_65 : decode cX7_sum 65 = .ok (.baload, 1) := by decide +kernel
set_option maxRecDepth 100000 in
theorem dX7_sum_66 : decode cX7_sum 66 = .ok (.ifCond .ne 7, 3) := by decide +kernel
set_option maxRecDepth 100000 in
theorem dX7_sum_69 : decode cX7_sum 69 = .ok (.iload_n 3, 1) := by decide +kernel
set_option maxRecDepth 100000 in
theorem dX7_sum_70 : decode cX7_sum 70 = .ok (.ifCond .eq 7, 3) := by decide +kernel
set_option maxRecDepth 100000 in
theorem dX7_sum_73 : decode cX7_sum 73 = .ok (.iconst 1, 1) := by decide +kernel
set_option maxRecDepth 100000 in
theorem dX7_sum_74 : decode cX7_sum 74 = .ok (.goto 4, 3) := by decide +kernel
set_option maxRecDepth 100000 in
theorem dX7_sum_77 : decode cX7_sum 77 = .ok (.iconst 0, 1) := by decide +kernel
set_option maxRecDepth 100000 in
theorem dX7_sum_78 : decode cX7_sum 78 = .ok (.bastore, 1) := by decide +kernel
set_option maxRecDepth 100000 in
theorem dX7_sum_79 : decode cX7_sum 79 = .ok (.aload_n 0, 1) := by decide +kernel
set_option maxRecDepth 100000 in
theorem dX7_sum_80 : decode cX7_sum 80 = .ok (.invokevirtual 200, 3) := by decide +kernel
set_option maxRecDepth 100000 in
theorem dX7_sum_83 : decode cX7_sum 83 = .ok (.aload_n 0, 1) := by decide +kernel
set_option maxRecDepth 100000 in
theorem dX7_sum_84 : decode cX7_sum 84 = .ok (.iload_n 1, 1) := by decide +kernel
set_option maxRecDepth 100000 in
theorem dX7_sum_85 : decode cX7_sum 85 = .ok (.invokevirtual 216, 3) := by decide +kernel
set_option maxRecDepth 100000 in
theorem dX7_sum_88 : decode cX7_sum 88 = .ok (.istore 4, 2) := by decide +kernel
set_option maxRecDepth 100000 in
theorem dX7_sum_90 : decode cX7_sum 90 = .ok (.aload_n 0, 1) := by decide +kernel
set_option maxRecDepth 100000 in
theorem dX7_sum_91 : decode cX7_sum 91 = .ok (.iload_n 2, 1) := by decide +kernel
set_option maxRecDepth 100000 in
theorem dX7_sum_92 : decode cX7_sum 92 = .ok (.iload 4, 2) := by decide +kernel
set_option maxRecDepth 100000 in
theorem dX7_sum_94 : decode cX7_sum 94 = .ok (.invokevirtual 219, 3) := by decide +kernel
set_option maxRecDepth 100000 in
theorem dX7_sum_97 : decode cX7_sum 97 = .ok (.iload 4, 2) := by decide +kernel
set_option maxRecDepth 100000 in
theorem dX7_sum_99 : decode cX7_sum 99 = .ok (.ifCond .lt 11, 3) := by decide +kernel
set_option maxRecDepth 100000 in
theorem dX7_sum_102 : decode cX7_sum 102 = .ok (.aload_n 0, 1) := by decide +kernel
set_option maxRecDepth 100000 in
theorem dX7_sum_103 : decode cX7_sum 103 = .ok (.getfield 74, 3) := by decide +kernel
set_option maxRecDepth 100000 in
theorem dX7_sum_106 : decode cX7_sum 106 = .ok (.iload 4, 2) := by decide +kernel
set_option maxRecDepth 100000 in
theorem dX7_sum_108 : decode cX7_sum 108 = .ok (.iload_n 3, 1) := by decide +kernel
set_option maxRecDepth 100000 in
theorem dX7_sum_109 : decode cX7_sum 109 = .ok (.bastore, 1) := by decide +kernel
set_option maxRecDepth 100000 in
theorem dX7_sum_110 : decode cX7_sum 110 = .ok (.goto (-93), 3) := by decide +kernel
set_option maxRecDepth 100000 in
theorem dX7_sum_113 : decode cX7_sum 113 = .ok (.aload_n 0, 1) := by decide +kernel
set_option maxRecDepth 100000 in
theorem dX7_sum_114 : decode cX7_sum 114 = .ok (.invokevirtual 193, 3) := by decide +kernel
set_option maxRecDepth 100000 in
theorem dX7_sum_117 : decode cX7_sum 117 = .ok (.ifCond .eq 7, 3) := by decide +kernel
set_option maxRecDepth 100000 in
theorem dX7_sum_120 : decode cX7_sum 120 = .ok (.iload_n 2, 1) := by decide +kernel
set_option maxRecDepth 100000 in
theorem dX7_sum_121 : decode cX7_sum 121 = .ok (.goto 4, 3) := by decide +kernel
set_option maxRecDepth 100000 in
theorem dX7_sum_124 : decode cX7_sum 124 = .ok (.iconst (-1), 1) := by decide +kernel
set_option maxRecDepth 100000 in
theorem dX7_sum_125 : decode cX7_sum 125 = .ok (.ireturn, 1) := by decide +kernel
set_option maxRecDepth 100000 in
theorem dX7_product_0 : decode cX7_product 0 = .ok (.aload_n 0, 1) := by decide +kernel
set_option maxRecDepth 100000 in
theorem dX7_product_1 : decode cX7_product 1 = .ok (.iconst 3, 1) := by decide +kernel
set_option maxRecDepth 100000 in
theorem dX7_product_2 : decode cX7_product 2 = .ok (.iconst 0, 1) := by decide +kernel
set_option maxRecDepth 100000 in
theorem dX7_product_3 : decode cX7_product 3 = .ok (.invokevirtual 213, 3) := by decide +kernel
set_option maxRecDepth 100000 in
theorem dX7_product_6 : decode cX7_product 6 = .ok (.istore_n 2, 1) := by decide +kernel
set_option maxRecDepth 100000 in
theorem dX7_product_7 : decode cX7_product 7 = .ok (.aload_n 0, 1) := by decide +kernel
set_option maxRecDepth 100000 in
theorem dX7_product_8 : decode cX7_product 8 = .ok (.iload_n 2, 1) := by decide +kernel
set_option maxRecDepth 100000 in
theorem dX7_product_9 : decode cX7_product 9 = .ok (.aload_n 0, 1) := by decide +kernel
set_option maxRecDepth 100000 in
theorem dX7_product_10 : decode cX7_product 10 = .ok (.iload_n 1, 1) := by decide +kernel
set_option maxRecDepth 100000 in
theorem dX7_product_11 : decode cX7_product 11 = .ok (.invokevirtual 223, 3) := by decide +kernel
set_option maxRecDepth 100000 in
theorem dX7_product_14 : decode cX7_product 14 = .ok (.invokevirtual 219, 3) := by decide +kernel
set_option maxRecDepth 100000 in
theorem dX7_product_17 : decode cX7_product 17 = .ok (.aload_n 0, 1) := by decide +kernel
set_option maxRecDepth 100000 in
theorem dX7_product_18 : decode cX7_product 18 = .ok (.invokevirtual 193, 3) := by decide +kernel
set_option maxRecDepth 100000 in
theorem dX7_product_21 : decode cX7_product 21 = .ok (.ifCond .eq 102, 3) := by decide +kernel
set_option maxRecDepth 100000 in
theorem dX7_product_24 : decode cX7_product 24 = .ok (.aload_n 0, 1) := by decide +kernel
set_option maxRecDepth 100000 in
theorem dX7_product_25 : decode cX7_product 25 = .ok (.bipush 42, 2) := by decide +kernel
set_option maxRecDepth 100000 in
theorem dX7_product_27 : decode cX7_product 27 = .ok (.invokevirtual 197, 3) := by decide +kernel
set_option maxRecDepth 100000 in
theorem dX7_product_30 : decode cX7_product 30 = .ok (.ifCond .ne 12, 3) := by decide +kernel
set_option maxRecDepth 100000 in
theorem dX7_product_33 : decode cX7_product 33 = .ok (.aload_n 0, 1) := by decide +kernel
set_option maxRecDepth 100000 in
theorem dX7_product_34 : decode cX7_product 34 = .ok (.bipush 47, 2) := by decide +kernel
set_option maxRecDepth 100000 in
theorem dX7_product_36 : decode cX7_product 36 = .ok (.invokevirtual 197, 3) := by decide +kernel
set_option maxRecDepth 100000 in
theorem dX7_product_39 : decode cX7_product 39 = .ok (.ifCond .eq 84, 3) := by decide +kernel
set_option maxRecDepth 100000 in
theorem dX7_product_42 : decode cX7_product 42 = .ok (.aload_n 0, 1) := by decide +kernel
set_option maxRecDepth 100000 in
theorem dX7_product_43 : decode cX7_product 43 = .ok (.bipush 47, 2) := by decide +kernel
set_option maxRecDepth 100000 in
theorem dX7_product_45 : decode cX7_product 45 = .ok (.invokevirtual 197, 3) := by decide +kernel
set_option maxRecDepth 100000 in
theorem dX7_product_48 : decode cX7_product 48 = .ok (.istore_n 3, 1) := by decide +kernel
set_option maxRecDepth 100000 in
theorem dX7_product_49 : decode cX7_product 49 = .ok (.aload_n 0, 1) := by decide +kernel
set_option maxRecDepth 100000 in
theorem dX7_product_50 : decode cX7_product 50 = .ok (.invokevirtual 200, 3) := by decide +kernel
set_option maxRecDepth 100000 in
theorem dX7_product_53 : decode cX7_product 53 = .ok (.iload_n 3, 1) := by decide +kernel
set_option maxRecDepth 100000 in
theorem dX7_product_54 : decode cX7_product 54 = .ok (.ifCond .ne 16, 3) := by decide +kernel
set_option maxRecDepth 100000 in
theorem dX7_product_57 : decode cX7_product 57 = .ok (.aload_n 0, 1) := by decide +kernel
set_option maxRecDepth 100000 in
theorem dX7_product_58 : decode cX7_product 58 = .ok (.iload_n 2, 1) := by decide +kernel
set_option maxRecDepth 100000 in
theorem dX7_product_59 : decode cX7_product 59 = .ok (.aload_n 0, 1) := by decide +kernel
set_option maxRecDepth 100000 in
theorem dX7_product_60 : decode cX7_product 60 = .ok (.iload_n 1, 1) := by decide +kernel
set_option maxRecDepth 100000 in
theorem dX7_product_61 : decode cX7_product 61 = .ok (.invokevirtual 223, 3) := by decide +kernel
set_option maxRecDepth 100000 in
theorem dX7_product_64 : decode cX7_product 64 = .ok (.invokevirtual 219, 3) := by decide +kernel
set_option maxRecDepth 100000 in
theorem dX7_product_67 : decode cX7_product 67 = .ok (.goto (-50), 3) := by decide +kernel
set_option maxRecDepth 100000 in
theorem dX7_product_70 : decode cX7_product 70 = .ok (.aload_n 0, 1) := by decide +kernel
set_option maxRecDepth 100000 in
theorem dX7_product_71 : decode cX7_product 71 = .ok (.getfield 181, 3) := by decide +kernel
set_option maxRecDepth 100000 in
theorem dX7_product_74 : decode cX7_product 74 = .ok (.iconst 1, 1) := by decide +kernel
set_option maxRecDepth 100000 in
theorem dX7_product_75 : decode cX7_product 75 = .ok (.if_icmp .ne 10, 3) := by decide +kernel
set_option maxRecDepth 100000 in
theorem dX7_product_78 : decode cX7_product 78 = .ok (.aload_n 0, 1) := by decide +kernel
set_option maxRecDepth 100000 in
theorem dX7_product_79 : decode cX7_product 79 = .ok (.getfield 178, 3) := by decide +kernel
set_option maxRecDepth 100000 in
theorem dX7_product_82 : decode cX7_product 82 = .ok (.ifCond .ne 8, 3) := by decide +kernel
set_option maxRecDepth 100000 in
theorem dX7_product_85 : decode cX7_product 85 = .ok (.aload_n 0, 1) := by decide +kernel
set_option maxRecDepth 100000 in
theorem dX7_product_86 : decode cX7_product 86 = .ok (.invokevirtual 203, 3) := by decide +kernel
set_option maxRecDepth 100000 in
theorem dX7_product_89 : decode cX7_product 89 = .ok (.ireturn, 1) := by decide +kernel
set_option maxRecDepth 100000 in
theorem dX7_product_90 : decode cX7_product 90 = .ok (.aload_n 0, 1) := by decide +kernel
set_option maxRecDepth 100000 in
theorem dX7_product_91 : decode cX7_product 91 = .ok (.iconst 0, 1) := by decide +kernel
set_option maxRecDepth 100000 in
theorem dX7_product_92 : decode cX7_product 92 = .ok (.aload_n 0, 1) := by decide +kernel
set_option maxRecDepth 100000 in
theorem dX7_product_93 : decode cX7_product 93 = .ok (.getfield 178, 3) := by decide +kernel
set_option maxRecDepth 100000 in
theorem dX7_product_96 : decode cX7_product 96 = .ok (.invokevirtual 213, 3) := by decide +kernel
set_option maxRecDepth 100000 in
theorem dX7_product_99 : decode cX7_product 99 = .ok (.istore 4, 2) := by decide +kernel
set_option maxRecDepth 100000 in
theorem dX7_product_101 : decode cX7_product 101 = .ok (.aload_n 0, 1) := by decide +kernel
set_option maxRecDepth 100000 in
theorem dX7_product_102 : decode cX7_product 102 = .ok (.getfield 74, 3) := by decide +kernel
set_option maxRecDepth 100000 in
theorem dX7_product_105 : decode cX7_product 105 = .ok (.iload 4, 2) := by decide +kernel
set_option maxRecDepth 100000 in
theorem dX7_product_107 : decode cX7_product 107 = .ok (.iconst 1, 1) := by decide +kernel
set_option maxRecDepth 100000 in
theorem dX7_product_108 : decode cX7_product 108 = .ok (.bastore, 1) := by decide +kernel
set_option maxRecDepth 100000 in
theorem dX7_product_109 : decode cX7_product 109 = .ok (.aload_n 0, 1) := by decide +kernel
set_option maxRecDepth 100000 in
theorem dX7_product_110 : decode cX7_product 110 = .ok (.iload_n 2, 1) := by decide +kernel
set_option maxRecDepth 100000 in
theorem dX7_product_111 : decode cX7_product 111 = .ok (.iload 4, 2) := by decide +kernel
set_option maxRecDepth 100000 in
theorem dX7_product_113 : decode cX7_product 113 = .ok (.invokevirtual 219, 3) := by decide +kernel
set_option maxRecDepth 100000 in
theorem dX7_product_116 : decode cX7_product 116 = .ok (.aload_n 0, 1) := by decide +kernel
set_option maxRecDepth 100000 in
theorem dX7_product_117 : decode cX7_product 117 = .ok (.invokevirtual 200, 3) := by decide +kernel
set_option maxRecDepth 100000 in
theorem dX7_product_120 : decode cX7_product 120 = .ok (.goto (-103), 3) := by decide +kernel
set_option maxRecDepth 100000 in
theorem dX7_product_123 : decode cX7_product 123 = .ok (.aload_n 0, 1) := by decide +kernel
set_option maxRecDepth 100000 in
theorem dX7_product_124 : decode cX7_product 124 = .ok (.invokevirtual 193, 3) := by decide +kernel
set_option maxRecDepth 100000 in
theorem dX7_product_127 : decode cX7_product 127 = .ok (.ifCond .eq 7, 3) := by decide +kernel
set_option maxRecDepth 100000 in
theorem dX7_product_130 : decode cX7_product 130 = .ok (.iload_n 2, 1) := by decide +kernel
set_option maxRecDepth 100000 in
theorem dX7_product_131 : decode cX7_product 131 = .ok (.goto 4, 3) := by decide +kernel
set_option maxRecDepth 100000 in
theorem dX7_product_134 : decode cX7_product 134 = .ok (.iconst (-1), 1) := by decide +kernel
set_option maxRecDepth 100000 in
theorem dX7_product_135 : decode cX7_product 135 = .ok (.ireturn, 1) := by decide +kernel
set_option maxRecDepth 100000 in
theorem dX7_one_0 : decode cX7_one 0 = .ok (.aload_n 0, 1) := by decide +kernel
set_option maxRecDepth 100000 in
theorem dX7_one_1 : decode cX7_one 1 = .ok (.getfield 181, 3) := by decide +kernel
set_option maxRecDepth 100000 in
theorem dX7_one_4 : decode cX7_one 4 = .ok (.iconst 1, 1) := by decide +kernel
set_option maxRecDepth 100000 in
theorem dX7_one_5 : decode cX7_one 5 = .ok (.if_icmp .ne 19, 3) := by decide +kernel
set_option maxRecDepth 100000 in
theorem dX7_one_8 : decode cX7_one 8 = .ok (.aload_n 0, 1) := by decide +kernel
set_option maxRecDepth 100000 in
theorem dX7_one_9 : decode cX7_one 9 = .ok (.iconst 0, 1) := by decide +kernel
set_option maxRecDepth 100000 in
theorem dX7_one_10 : decode cX7_one 10 = .ok (.aload_n 0, 1) := by decide +kernel
set_option maxRecDepth 100000 in
theorem dX7_one_11 : decode cX7_one 11 = .ok (.getfield 178, 3) := by decide +kernel
set_option maxRecDepth 100000 in
theorem dX7_one_14 : decode cX7_one 14 = .ok (.invokevirtual 213, 3) := by decide +kernel
set_option maxRecDepth 100000 in
theorem dX7_one_17 : decode cX7_one 17 = .ok (.istore_n 2, 1) := by decide +kernel
set_option maxRecDepth 100000 in
theorem dX7_one_18 : decode cX7_one 18 = .ok (.aload_n 0, 1) := by decide +kernel
set_option maxRecDepth 100000 in
theorem dX7_one_19 : decode cX7_one 19 = .ok (.invokevirtual 200, 3) := by decide +kernel
set_option maxRecDepth 100000 in
theorem dX7_one_22 : decode cX7_one 22 = .ok (.iload_n 2, 1) := by decide +kernel
set_option maxRecDepth 100000 in
theorem dX7_one_23 : decode cX7_one 23 = .ok (.ireturn, 1) := by decide +kernel
set_option maxRecDepth 100000 in
theorem dX7_one_24 : decode cX7_one 24 = .ok (.aload_n 0, 1) := by decide +kernel
set_option maxRecDepth 100000 in
theorem dX7_one_25 : decode cX7_one 25 = .ok (.bipush 40, 2) := by decide +kernel
set_option maxRecDepth 100000 in
theorem dX7_one_27 : decode cX7_one 27 = .ok (.invokevirtual 197, 3) := by decide +kernel
set_option maxRecDepth 100000 in
theorem dX7_one_30 : decode cX7_one 30 = .ok (.ifCond .eq 45, 3) := by decide +kernel
set_option maxRecDepth 100000 in
theorem dX7_one_33 : decode cX7_one 33 = .ok (.iload_n 1, 1) := by decide +kernel
set_option maxRecDepth 100000 in
theorem dX7_one_34 : decode cX7_one 34 = .ok (.bipush 8, 2) := by decide +kernel
set_option maxRecDepth 100000 in
theorem dX7_one_36 : decode cX7_one 36 = .ok (.if_icmp .ne 8, 3) := by decide +kernel
set_option maxRecDepth 100000 in
theorem dX7_one_39 : decode cX7_one 39 = .ok (.aload_n 0, 1) := by decide +kernel
set_option maxRecDepth 100000 in
theorem dX7_one_40 : decode cX7_one 40 = .ok (.invokevirtual 203, 3) := by decide +kernel
set_option maxRecDepth 100000 in
theorem dX7_one_43 : decode cX7_one 43 = .ok (.ireturn, 1) := by decide +kernel
set_option maxRecDepth 100000 in
theorem dX7_one_44 : decode cX7_one 44 = .ok (.aload_n 0, 1) := by decide +kernel
set_option maxRecDepth 100000 in
theorem dX7_one_45 : decode cX7_one 45 = .ok (.invokevirtual 200, 3) := by decide +kernel
set_option maxRecDepth 100000 in
theorem dX7_one_48 : decode cX7_one 48 = .ok (.aload_n 0, 1) := by decide +kernel
set_option maxRecDepth 100000 in
theorem dX7_one_49 : decode cX7_one 49 = .ok (.iload_n 1, 1) := by decide +kernel
set_option maxRecDepth 100000 in
theorem dX7_one_50 : decode cX7_one 50 = .ok (.iconst 1, 1) := by decide +kernel
set_option maxRecDepth 100000 in
theorem dX7_one_51 : decode cX7_one 51 = .ok (.iadd, 1) := by decide +kernel
set_option maxRecDepth 100000 in
theorem dX7_one_52 : decode cX7_one 52 = .ok (.invokevirtual 226, 3) := by decide +kernel
set_option maxRecDepth 100000 in
theorem dX7_one_55 : decode cX7_one 55 = .ok (.istore_n 2, 1) := by decide +kernel
set_option maxRecDepth 100000 in
theorem dX7_one_56 : decode cX7_one 56 = .ok (.aload_n 0, 1) := by decide +kernel
set_option maxRecDepth 100000 in
theorem dX7_one_57 : decode cX7_one 57 = .ok (.bipush 41, 2) := by decide +kernel
set_option maxRecDepth 100000 in
theorem dX7_one_59 : decode cX7_one 59 = .ok (.invokevirtual 229, 3) := by decide +kernel
set_option maxRecDepth 100000 in
theorem dX7_one_62 : decode cX7_one 62 = .ok (.aload_n 0, 1) := by decide +kernel
set_option maxRecDepth 100000 in
theorem dX7_one_63 : decode cX7_one 63 = .ok (.invokevirtual 193, 3) := by decide +kernel
set_option maxRecDepth 100000 in
theorem dX7_one_66 : decode cX7_one 66 = .ok (.ifCond .eq 7, 3) := by decide +kernel
set_option maxRecDepth 100000 in
theorem dX7_one_69 : decode cX7_one 69 = .ok (.iload_n 2, 1) := by decide +kernel
set_option maxRecDepth 100000 in
theorem dX7_one_70 : decode cX7_one 70 = .ok (.goto 4, 3) := by decide +kernel
set_option maxRecDepth 100000 in
theorem dX7_one_73 : decode cX7_one 73 = .ok (.iconst (-1), 1) := by decide +kernel
set_option maxRecDepth 100000 in
theorem dX7_one_74 : decode cX7_one 74 = .ok (.ireturn, 1) := by decide +kernel
set_option maxRecDepth 100000 in
theorem dX7_one_75 : decode cX7_one 75 = .ok (.aload_n 0, 1) := by decide +kernel
set_option maxRecDepth 100000 in
theorem dX7_one_76 : decode cX7_one 76 = .ok (.getfield 181, 3) := by decide +kernel
set_option maxRecDepth 100000 in
theorem dX7_one_79 : decode cX7_one 79 = .ok (.iconst 2, 1) := by decide +kernel
set_option maxRecDepth 100000 in
theorem dX7_one_80 : decode cX7_one 80 = .ok (.if_icmp .eq 8, 3) := by decide +kernel
set_option maxRecDepth 100000 in
theorem dX7_one_83 : decode cX7_one 83 = .ok (.aload_n 0, 1) := by decide +kernel
set_option maxRecDepth 100000 in
theorem dX7_one_84 : decode cX7_one 84 = .ok (.invokevirtual 203, 3) := by decide +kernel
set_option maxRecDepth 100000 in
theorem dX7_one_87 : decode cX7_one 87 = .ok (.ireturn, 1) := by decide +kernel
set_option maxRecDepth 100000 in
theorem dX7_one_88 : decode cX7_one 88 = .ok (.aload_n 0, 1) := by decide +kernel
set_option maxRecDepth 100000 in
theorem dX7_one_89 : decode cX7_one 89 = .ok (.getfield 178, 3) := by decide +kernel
set_option maxRecDepth 100000 in
theorem dX7_one_92 : decode cX7_one 92 = .ok (.invokestatic 233, 3) := by decide +kernel
set_option maxRecDepth 100000 in
theorem dX7_one_95 : decode cX7_one 95 = .ok (.istore_n 2, 1) := by decide +kernel
set_option maxRecDepth 100000 in
theorem dX7_one_96 : decode cX7_one 96 = .ok (.aload_n 0, 1) := by decide +kernel
set_option maxRecDepth 100000 in
theorem dX7_one_97 : decode cX7_one 97 = .ok (.iload_n 2, 1) := by decide +kernel
set_option maxRecDepth 100000 in
theorem dX7_one_98 : decode cX7_one 98 = .ok (.ifCond .ne 7, 3) := by decide +kernel
set_option maxRecDepth 100000 in
theorem dX7_one_101 : decode cX7_one 101 = .ok (.iconst 1, 1) := by decide +kernel
set_option maxRecDepth 100000 in
theorem dX7_one_102 : decode cX7_one 102 = .ok (.goto 4, 3) := by decide +kernel
set_option maxRecDepth 100000 in
theorem dX7_one_105 : decode cX7_one 105 = .ok (.iload_n 2, 1) := by decide +kernel
set_option maxRecDepth 100000 in
theorem dX7_one_106 : decode cX7_one 106 = .ok (.iload_n 2, 1) := by decide +kernel
set_option maxRecDepth 100000 in
theorem dX7_one_107 : decode cX7_one 107 = .ok (.ifCond .ne 10, 3) := by decide +kernel
set_option maxRecDepth 100000 in
theorem dX7_one_110 : decode cX7_one 110 = .ok (.aload_n 0, 1) := by decide +kernel
set_option maxRecDepth 100000 in
theorem dX7_one_111 : decode cX7_one 111 = .ok (.getfield 178, 3) := by decide +kernel
set_option maxRecDepth 100000 in
theorem dX7_one_114 : decode cX7_one 114 = .ok (.goto 4, 3) := by decide +kernel
set_option maxRecDepth 100000 in
theorem dX7_one_117 : decode cX7_one 117 = .ok (.iconst 0, 1) := by decide +kernel
set_option maxRecDepth 100000 in
theorem dX7_one_118 : decode cX7_one 118 = .ok (.invokevirtual 213, 3) := by decide +kernel
set_option maxRecDepth 100000 in
theorem dX7_one_121 : decode cX7_one 121 = .ok (.istore_n 3, 1) := by decide +kernel
set_option maxRecDepth 100000 in
theorem dX7_one_122 : decode cX7_one 122 = .ok (.aload_n 0, 1) := by decide +kernel
set_option maxRecDepth 100000 in
theorem dX7_one_123 : decode cX7_one 123 = .ok (.invokevirtual 200, 3) := by decide +kernel
set_option maxRecDepth 100000 in
theorem dX7_one_126 : decode cX7_one 126 = .ok (.iload_n 2, 1) := by decide +kernel
set_option maxRecDepth 100000 in
theorem dX7_one_127 : decode cX7_one 127 = .ok (.ifCond .ne 7, 3) := by decide +kernel
set_option maxRecDepth 100000 in
theorem dX7_one_130 : decode cX7_one 130 = .ok (.iload_n 3, 1) := by decide +kernel
set_option maxRecDepth 100000 in
theorem dX7_one_131 : decode cX7_one 131 = .ok (.goto 10, 3) := by decide +kernel
set_option maxRecDepth 100000 in
theorem dX7_one_134 : decode cX7_one 134 = .ok (.aload_n 0, 1) := by decide +kernel
set_option maxRecDepth 100000 in
theorem dX7_one_135 : decode cX7_one 135 = .ok (.iload_n 3, 1) := by decide +kernel
set_option maxRecDepth 100000 in
theorem dX7_one_136 : decode cX7_one 136 = .ok (.iload_n 2, 1) := by decide +kernel
set_option maxRecDepth 100000 in
theorem dX7_one_137 : decode cX7_one 137 = .ok (.iload_n 1, 1) := by decide +kernel
set_option maxRecDepth 100000 in
theorem dX7_one_138 : decode cX7_one 138 = .ok (.invokevirtual 236, 3) := by decide +kernel
set_option maxRecDepth 100000 in
theorem dX7_one_141 : decode cX7_one 141 = .ok (.ireturn, 1) := by decide +kernel
set_option maxRecDepth 100000 in
theorem dX7_list_0 : decode cX7_list 0 = .ok (.iload_n 2, 1) := by decide +kernel
set_option maxRecDepth 100000 in
theorem dX7_list_1 : decode cX7_list 1 = .ok (.bipush 7, 2) := by decide +kernel
set_option maxRecDepth 100000 in
theorem dX7_list_3 : decode cX7_list 3 = .ok (.if_icmp .eq 9, 3) := by decide +kernel
set_option maxRecDepth 100000 in
theorem dX7_list_6 : decode cX7_list 6 = .ok (.iload_n 2, 1) := by decide +kernel
set_option maxRecDepth 100000 in
theorem dX7_list_7 : decode cX7_list 7 = .ok (.bipush 8, 2) := by decide +kernel
set_option maxRecDepth 100000 in
theorem dX7_list_9 : decode cX7_list 9 = .ok (.if_icmp .ne 30, 3) := by decide +kernel
set_option maxRecDepth 100000 in
theorem dX7_list_12 : decode cX7_list 12 = .ok (.aload_n 0, 1) := by decide +kernel
set_option maxRecDepth 100000 in
theorem dX7_list_13 : decode cX7_list 13 = .ok (.getfield 181, 3) := by decide +kernel
set_option maxRecDepth 100000 in
theorem dX7_list_16 : decode cX7_list 16 = .ok (.iconst 1, 1) := by decide +kernel
set_option maxRecDepth 100000 in
theorem dX7_list_17 : decode cX7_list 17 = .ok (.if_icmp .eq 8, 3) := by decide +kernel
set_option maxRecDepth 100000 in
theorem dX7_list_20 : decode cX7_list 20 = .ok (.aload_n 0, 1) := by decide +kernel
set_option maxRecDepth 100000 in
theorem dX7_list_21 : decode cX7_list 21 = .ok (.invokevirtual 203, 3) := by decide +kernel
set_option maxRecDepth 100000 in
theorem dX7_list_24 : decode cX7_list 24 = .ok (.ireturn, 1) := by decide +kernel
set_option maxRecDepth 100000 in
theorem dX7_list_25 : decode cX7_list 25 = .ok (.aload_n 0, 1) := by decide +kernel
set_option maxRecDepth 100000 in
theorem dX7_list_26 : decode cX7_list 26 = .ok (.getfield 62, 3) := by decide +kernel
set_option maxRecDepth 100000 in
theorem dX7_list_29 : decode cX7_list 29 = .ok (.iload_n 1, 1) := by decide +kernel
set_option maxRecDepth 100000 in
theorem dX7_list_30 : decode cX7_list 30 = .ok (.aload_n 0, 1) := by decide +kernel
set_option maxRecDepth 100000 in
theorem dX7_list_31 : decode cX7_list 31 = .ok (.getfield 178, 3) := by decide +kernel
set_option maxRecDepth 100000 in
theorem dX7_list_34 : decode cX7_list 34 = .ok (.iastore, 1) := by decide +kernel
set_option maxRecDepth 100000 in
theorem dX7_list_35 : decode cX7_list 35 = .ok (.aload_n 0, 1) := by decide +kernel
set_option maxRecDepth 100000 in
theorem dX7_list_36 : decode cX7_list 36 = .ok (.invokevirtual 200, 3) := by decide +kernel
set_option maxRecDepth 100000 in
theorem dX7_list_39 : decode cX7_list 39 = .ok (.aload_n 0, 1) := by decide +kernel
set_option maxRecDepth 100000 in
theorem dX7_list_40 : decode cX7_list 40 = .ok (.bipush 40, 2) := by decide +kernel
set_option maxRecDepth 100000 in
theorem dX7_list_42 : decode cX7_list 42 = .ok (.invokevirtual 197, 3) := by decide +kernel
set_option maxRecDepth 100000 in
theorem dX7_list_45 : decode cX7_list 45 = .ok (.ifCond .eq 9, 3) := by decide +kernel
set_option maxRecDepth 100000 in
theorem dX7_list_48 : decode cX7_list 48 = .ok (.iload_n 3, 1) := by decide +kernel
set_option maxRecDepth 100000 in
theorem dX7_list_49 : decode cX7_list 49 = .ok (.bipush 8, 2) := by decide +kernel
set_option maxRecDepth 100000 in
theorem dX7_list_51 : decode cX7_list 51 = .ok (.if_icmp .ne 8, 3) := by decide +kernel
set_option maxRecDepth 100000 in
theorem dX7_list_54 : decode cX7_list 54 = .ok (.aload_n 0, 1) := by decide +kernel
set_option maxRecDepth 100000 in
theorem dX7_list_55 : decode cX7_list 55 = .ok (.invokevirtual 203, 3) := by decide +kernel
set_option maxRecDepth 100000 in
theorem dX7_list_58 : decode cX7_list 58 = .ok (.ireturn, 1) := by decide +kernel
set_option maxRecDepth 100000 in
theorem dX7_list_59 : decode cX7_list 59 = .ok (.aload_n 0, 1) := by decide +kernel
set_option maxRecDepth 100000 in
theorem dX7_list_60 : decode cX7_list 60 = .ok (.invokevirtual 200, 3) := by decide +kernel
set_option maxRecDepth 100000 in
theorem dX7_list_63 : decode cX7_list 63 = .ok (.aload_n 0, 1) := by decide +kernel
set_option maxRecDepth 100000 in
theorem dX7_list_64 : decode cX7_list 64 = .ok (.iload_n 1, 1) := by decide +kernel
set_option maxRecDepth 100000 in
theorem dX7_list_65 : decode cX7_list 65 = .ok (.aload_n 0, 1) := by decide +kernel
set_option maxRecDepth 100000 in
theorem dX7_list_66 : decode cX7_list 66 = .ok (.iload_n 3, 1) := by decide +kernel
set_option maxRecDepth 100000 in
theorem dX7_list_67 : decode cX7_list 67 = .ok (.iconst 1, 1) := by decide +kernel
set_option maxRecDepth 100000 in
theorem dX7_list_68 : decode cX7_list 68 = .ok (.iadd, 1) := by decide +kernel
set_option maxRecDepth 100000 in
theorem dX7_list_69 : decode cX7_list 69 = .ok (.invokevirtual 226, 3) := by decide +kernel
set_option maxRecDepth 100000 in
theorem dX7_list_72 : decode cX7_list 72 = .ok (.invokevirtual 219, 3) := by decide +kernel
set_option maxRecDepth 100000 in
theorem dX7_list_75 : decode cX7_list 75 = .ok (.iload_n 2, 1) := by decide +kernel
set_option maxRecDepth 100000 in
theorem dX7_list_76 : decode cX7_list 76 = .ok (.bipush 9, 2) := by decide +kernel
set_option maxRecDepth 100000 in
theorem dX7_list_78 : decode cX7_list 78 = .ok (.if_icmp .eq 9, 3) := by decide +kernel
set_option maxRecDepth 100000 in
theorem dX7_list_81 : decode cX7_list 81 = .ok (.iload_n 2, 1) := by decide +kernel
set_option maxRecDepth 100000 in
theorem dX7_list_82 : decode cX7_list 82 = .ok (.bipush 10, 2) := by decide +kernel
set_option maxRecDepth 100000 in
theorem dX7_list_84 : decode cX7_list 84 = .ok (.if_icmp .ne 45, 3) := by decide +kernel
set_option maxRecDepth 100000 in
theorem dX7_list_87 : decode cX7_list 87 = .ok (.aload_n 0, 1) := by decide +kernel
set_option maxRecDepth 100000 in
theorem dX7_list_88 : decode cX7_list 88 = .ok (.bipush 44, 2) := by decide +kernel
set_option maxRecDepth 100000 in
theorem dX7_list_90 : decode cX7_list 90 = .ok (.invokevirtual 229, 3) := by decide +kernel
set_option maxRecDepth 100000 in
theorem dX7_list_93 : decode cX7_list 93 = .ok (.aload_n 0, 1) := by decide +kernel
set_option maxRecDepth 100000 in
theorem dX7_list_94 : decode cX7_list 94 = .ok (.invokevirtual 193, 3) := by decide +kernel
set_option maxRecDepth 100000 in
theorem dX7_list_97 : decode cX7_list 97 = .ok (.ifCond .ne 5, 3) := by decide +kernel
set_option maxRecDepth 100000 in
theorem dX7_list_100 : decode cX7_list 100 = .ok (.iconst (-1), 1) := by decide +kernel
set_option maxRecDepth 100000 in
theorem dX7_list_101 : decode cX7_list 101 = .ok (.ireturn, 1) := by decide +kernel
set_option maxRecDepth 100000 in
theorem dX7_list_102 : decode cX7_list 102 = .ok (.aload_n 0, 1) := by decide +kernel
set_option maxRecDepth 100000 in
theorem dX7_list_103 : decode cX7_list 103 = .ok (.getfield 181, 3) := by decide +kernel
set_option maxRecDepth 100000 in
theorem dX7_list_106 : decode cX7_list 106 = .ok (.iconst 1, 1) := by decide +kernel
set_option maxRecDepth 100000 in
theorem dX7_list_107 : decode cX7_list 107 = .ok (.if_icmp .eq 8, 3) := by decide +kernel
set_option maxRecDepth 100000 in
theorem dX7_list_110 : decode cX7_list 110 = .ok (.aload_n 0, 1) := by decide +kernel
set_option maxRecDepth 100000 in
theorem dX7_list_111 : decode cX7_list 111 = .ok (.invokevirtual 203, 3) := by decide +kernel
set_option maxRecDepth 100000 in
theorem dX7_list_114 : decode cX7_list 114 = .ok (.ireturn, 1) := by decide +kernel
set_option maxRecDepth 100000 in
theorem dX7_list_115 : decode cX7_list 115 = .ok (.aload_n 0, 1) := by decide +kernel
set_option maxRecDepth 100000 in
theorem dX7_list_116 : decode cX7_list 116 = .ok (.getfield 62, 3) := by decide +kernel
set_option maxRecDepth 100000 in
theorem dX7_list_119 : decode cX7_list 119 = .ok (.iload_n 1, 1) := by decide +kernel
set_option maxRecDepth 100000 in
theorem dX7_list_120 : decode cX7_list 120 = .ok (.aload_n 0, 1) := by decide +kernel
set_option maxRecDepth 100000 in
theorem dX7_list_121 : decode cX7_list 121 = .ok (.getfield 178, 3) := by decide +kernel
set_option maxRecDepth 100000 in
theorem dX7_list_124 : decode cX7_list 124 = .ok (.iastore, 1) := by decide +kernel
set_option maxRecDepth 100000 in
theorem dX7_list_125 : decode cX7_list 125 = .ok (.aload_n 0, 1) := by decide +kernel
set_option maxRecDepth 100000 in
theorem dX7_list_126 : decode cX7_list 126 = .ok (.invokevirtual 200, 3) := by decide +kernel
set_option maxRecDepth 100000 in
theorem dX7_list_129 : decode cX7_list 129 = .ok (.iconst 1, 1) := by decide +kernel
set_option maxRecDepth 100000 in
theorem dX7_list_130 : decode cX7_list 130 = .ok (.istore 4, 2) := by decide +kernel
set_option maxRecDepth 100000 in
theorem dX7_list_132 : decode cX7_list 132 = .ok (.aload_n 0, 1) := by decide +kernel
set_option maxRecDepth 100000 in
theorem dX7_list_133 : decode cX7_list 133 = .ok (.invokevirtual 193, 3) := by decide +kernel
set_option maxRecDepth 100000 in
theorem dX7_list_136 : decode cX7_list 136 = .ok (.ifCond .eq 52, 3) := by decide +kernel
set_option maxRecDepth 100000 in
theorem dX7_list_139 : decode cX7_list 139 = .ok (.iload_n 2, 1) := by decide +kernel
set_option maxRecDepth 100000 in
theorem dX7_list_140 : decode cX7_list 140 = .ok (.bipush 9, 2) := by decide +kernel
set_option maxRecDepth 100000 in
theorem dX7_list_142 : decode cX7_list 142 = .ok (.if_icmp .ge 46, 3) := by decide +kernel
set_option maxRecDepth 100000 in
theorem dX7_list_145 : decode cX7_list 145 = .ok (.aload_n 0, 1) := by decide +kernel
set_option maxRecDepth 100000 in
theorem dX7_list_146 : decode cX7_list 146 = .ok (.bipush 44, 2) := by decide +kernel
set_option maxRecDepth 100000 in
theorem dX7_list_148 : decode cX7_list 148 = .ok (.invokevirtual 197, 3) := by decide +kernel
set_option maxRecDepth 100000 in
theorem dX7_list_151 : decode cX7_list 151 = .ok (.ifCond .eq 37, 3) := by decide +kernel
set_option maxRecDepth 100000 in
theorem dX7_list_154 : decode cX7_list 154 = .ok (.iload 4, 2) := by decide +kernel
set_option maxRecDepth 100000 in
theorem dX7_list_156 : decode cX7_list 156 = .ok (.bipush 10, 2) := by decide +kernel
set_option maxRecDepth 100000 in
theorem dX7_list_158 : decode cX7_list 158 = .ok (.if_icmp .ne 8, 3) := by decide +kernel
set_option maxRecDepth 100000 in
theorem dX7_list_161 : decode cX7_list 161 = .ok (.aload_n 0, 1) := by decide +kernel
set_option maxRecDepth 100000 in
theorem dX7_list_162 : decode cX7_list 162 = .ok (.invokevirtual 203, 3) := by decide +kernel
set_option maxRecDepth 100000 in
theorem dX7_list_165 : decode cX7_list 165 = .ok (.ireturn, 1) := by decide +kernel
set_option maxRecDepth 100000 in
theorem dX7_list_166 : decode cX7_list 166 = .ok (.aload_n 0, 1) := by decide +kernel
set_option maxRecDepth 100000 in
theorem dX7_list_167 : decode cX7_list 167 = .ok (.invokevirtual 200, 3) := by decide +kernel
set_option maxRecDepth 100000 in
theorem dX7_list_170 : decode cX7_list 170 = .ok (.aload_n 0, 1) := by decide +kernel
set_option maxRecDepth 100000 in
theorem dX7_list_171 : decode cX7_list 171 = .ok (.iload_n 1, 1) := by decide +kernel
set_option maxRecDepth 100000 in
theorem dX7_list_172 : decode cX7_list 172 = .ok (.aload_n 0, 1) := by decide +kernel
set_option maxRecDepth 100000 in
theorem dX7_list_173 : decode cX7_list 173 = .ok (.iload_n 3, 1) := by decide +kernel
set_option maxRecDepth 100000 in
theorem dX7_list_174 : decode cX7_list 174 = .ok (.iconst 1, 1) := by decide +kernel
set_option maxRecDepth 100000 in
theorem dX7_list_175 : decode cX7_list 175 = .ok (.iadd, 1) := by decide +kernel
set_option maxRecDepth 100000 in
theorem dX7_list_176 : decode cX7_list 176 = .ok (.invokevirtual 226, 3) := by decide +kernel
set_option maxRecDepth 100000 in
theorem dX7_list_179 : decode cX7_list 179 = .ok (.invokevirtual 219, 3) := by decide +kernel
set_option maxRecDepth 100000 in
theorem dX7_list_182 : decode cX7_list 182 = .ok (.iinc 4 1, 3) := by decide +kernel
set_option maxRecDepth 100000 in
theorem dX7_list_185 : decode cX7_list 185 = .ok (.goto (-53), 3) := by decide +kernel
set_option maxRecDepth 100000 in
theorem dX7_list_188 : decode cX7_list 188 = .ok (.aload_n 0, 1) := by decide +kernel
set_option maxRecDepth 100000 in
theorem dX7_list_189 : decode cX7_list 189 = .ok (.bipush 41, 2) := by decide +kernel
set_option maxRecDepth 100000 in
theorem dX7_list_191 : decode cX7_list 191 = .ok (.invokevirtual 229, 3) := by decide +kernel
set_option maxRecDepth 100000 in
theorem dX7_list_194 : decode cX7_list 194 = .ok (.aload_n 0, 1) := by decide +kernel
set_option maxRecDepth 100000 in
theorem dX7_list_195 : decode cX7_list 195 = .ok (.invokevirtual 193, 3) := by decide +kernel
set_option maxRecDepth 100000 in
theorem dX7_list_198 : decode cX7_list 198 = .ok (.ifCond .eq 7, 3) := by decide +kernel
set_option maxRecDepth 100000 in
theorem dX7_list_201 : decode cX7_list 201 = .ok (.iload_n 1, 1) := by decide +kernel
set_option maxRecDepth 100000 in
theorem dX7_list_202 : decode cX7_list 202 = .ok (.goto 4, 3) := by decide +kernel
set_option maxRecDepth 100000 in
theorem dX7_list_205 : decode cX7_list 205 = .ok (.iconst (-1), 1) := by decide +kernel
set_option maxRecDepth 100000 in
theorem dX7_list_206 : decode cX7_list 206 = .ok (.ireturn, 1) := by decide +kernel
set_option maxRecDepth 100000 in
theorem dX7_parses_0 : decode cX7_parses 0 = .ok (.aload_n 0, 1) := by decide +kernel
set_option maxRecDepth 100000 in
theorem dX7_parses_1 : decode cX7_parses 1 = .ok (.iconst 0, 1) := by decide +kernel
set_option maxRecDepth 100000 in
theorem dX7_parses_2 : decode cX7_parses 2 = .ok (.putfield 169, 3) := by decide +kernel
set_option maxRecDepth 100000 in
theorem dX7_parses_5 : decode cX7_parses 5 = .ok (.aload_n 0, 1) := by decide +kernel
set_option maxRecDepth 100000 in
theorem dX7_parses_6 : decode cX7_parses 6 = .ok (.iload_n 1, 1) := by decide +kernel
set_option maxRecDepth 100000 in
theorem dX7_parses_7 : decode cX7_parses 7 = .ok (.putfield 172, 3) := by decide +kernel
set_option maxRecDepth 100000 in
theorem dX7_parses_10 : decode cX7_parses 10 = .ok (.aload_n 0, 1) := by decide +kernel
set_option maxRecDepth 100000 in
theorem dX7_parses_11 : decode cX7_parses 11 = .ok (.iconst (-1), 1) := by decide +kernel
set_option maxRecDepth 100000 in
theorem dX7_parses_12 : decode cX7_parses 12 = .ok (.putfield 190, 3) := by decide +kernel
set_option maxRecDepth 100000 in
theorem dX7_parses_15 : decode cX7_parses 15 = .ok (.aload_n 0, 1) := by decide +kernel
set_option maxRecDepth 100000 in
theorem dX7_parses_16 : decode cX7_parses 16 = .ok (.iconst 0, 1) := by decide +kernel
set_option maxRecDepth 100000 in
theorem dX7_parses_17 : decode cX7_parses 17 = .ok (.putfield 210, 3) := by decide +kernel
set_option maxRecDepth 100000 in
theorem dX7_parses_20 : decode cX7_parses 20 = .ok (.aload_n 0, 1) := by decide +kernel
set_option maxRecDepth 100000 in
theorem dX7_parses_21 : decode cX7_parses 21 = .ok (.getfield 89, 3) := by decide +kernel
set_option maxRecDepth 100000 in
theorem dX7_parses_24 : decode cX7_parses 24 = .ok (.aload_n 0, 1) := by decide +kernel
set_option maxRecDepth 100000 in
theorem dX7_parses_25 : decode cX7_parses 25 = .ok (.getfield 207, 3) := by decide +kernel
set_option maxRecDepth 100000 in
theorem dX7_parses_28 : decode cX7_parses 28 = .ok (.iconst 0, 1) := by decide +kernel
set_option maxRecDepth 100000 in
theorem dX7_parses_29 : decode cX7_parses 29 = .ok (.bastore, 1) := by decide +kernel
set_option maxRecDepth 100000 in
theorem dX7_parses_30 : decode cX7_parses 30 = .ok (.aload_n 0, 1) := by decide +kernel
set_option maxRecDepth 100000 in
theorem dX7_parses_31 : decode cX7_parses 31 = .ok (.getfield 77, 3) := by decide +kernel
set_option maxRecDepth 100000 in
theorem dX7_parses_34 : decode cX7_parses 34 = .ok (.aload_n 0, 1) := by decide +kernel
set_option maxRecDepth 100000 in
theorem dX7_parses_35 : decode cX7_parses 35 = .ok (.getfield 207, 3) := by decide +kernel
set_option maxRecDepth 100000 in
theorem dX7_parses_38 : decode cX7_parses 38 = .ok (.iconst 0, 1) := by decide +kernel
set_option maxRecDepth 100000 in
theorem dX7_parses_39 : decode cX7_parses 39 = .ok (.iastore, 1) := by decide +kernel
set_option maxRecDepth 100000 in
theorem dX7_parses_40 : decode cX7_parses 40 = .ok (.aload_n 0, 1) := by decide +kernel
set_option maxRecDepth 100000 in
theorem dX7_parses_41 : decode cX7_parses 41 = .ok (.invokevirtual 200, 3) := by decide +kernel
set_option maxRecDepth 100000 in
theorem dX7_parses_44 : decode cX7_parses 44 = .ok (.iconst 1, 1) := by decide +kernel
set_option maxRecDepth 100000 in
theorem dX7_parses_45 : decode cX7_parses 45 = .ok (.istore_n 2, 1) := by decide +kernel
set_option maxRecDepth 100000 in
theorem dX7_parses_46 : decode cX7_parses 46 = .ok (.iload_n 2, 1) := by decide +kernel
set_option maxRecDepth 100000 in
theorem dX7_parses_47 : decode cX7_parses 47 = .ok (.ifCond .eq 194, 3) := by decide +kernel
set_option maxRecDepth 100000 in
theorem dX7_parses_50 : decode cX7_parses 50 = .ok (.aload_n 0, 1) := by decide +kernel
set_option maxRecDepth 100000 in
theorem dX7_parses_51 : decode cX7_parses 51 = .ok (.invokevirtual 193, 3) := by decide +kernel
set_option maxRecDepth 100000 in
theorem dX7_parses_54 : decode cX7_parses 54 = .ok (.ifCond .eq 187, 3) := by decide +kernel
set_option maxRecDepth 100000 in
theorem dX7_parses_57 : decode cX7_parses 57 = .ok (.aload_n 0, 1) := by decide +kernel
set_option maxRecDepth 100000 in
theorem dX7_parses_58 : decode cX7_parses 58 = .ok (.getfield 77, 3) := by decide +kernel
set_option maxRecDepth 100000 in
theorem dX7_parses_61 : decode cX7_parses 61 = .ok (.aload_n 0, 1) := by decide +kernel
set_option maxRecDepth 100000 in
theorem dX7_parses_62 : decode cX7_parses 62 = .ok (.getfield 207, 3) := by decide +kernel
set_option maxRecDepth 100000 in
theorem dX7_parses_65 : decode cX7_parses 65 = .ok (.iaload, 1) := by decide +kernel
set_option maxRecDepth 100000 in
theorem dX7_parses_66 : decode cX7_parses 66 = .ok (.istore_n 3, 1) := by decide +kernel
set_option maxRecDepth 100000 in
theorem dX7_parses_67 : decode cX7_parses 67 = .ok (.aload_n 0, 1) := by decide +kernel
set_option maxRecDepth 100000 in
theorem dX7_parses_68 : decode cX7_parses 68 = .ok (.getfield 181, 3) := by decide +kernel
set_option maxRecDepth 100000 in
theorem dX7_parses_71 : decode cX7_parses 71 = .ok (.iconst 2, 1) := by decide +kernel
set_option maxRecDepth 100000 in
theorem dX7_parses_72 : decode cX7_parses 72 = .ok (.if_icmp .ne 29, 3) := by decide +kernel
set_option maxRecDepth 100000 in
theorem dX7_parses_75 : decode cX7_parses 75 = .ok (.aload_n 0, 1) := by decide +kernel
set_option maxRecDepth 100000 in
theorem dX7_parses_76 : decode cX7_parses 76 = .ok (.getfield 178, 3) := by decide +kernel
set_option maxRecDepth 100000 in
theorem dX7_parses_79 : decode cX7_parses 79 = .ok (.invokestatic 233, 3) := by decide +kernel
set_option maxRecDepth 100000 in
theorem dX7_parses_82 : decode cX7_parses 82 = .ok (.ifCond .gt 19, 3) := by decide +kernel
set_option maxRecDepth 100000 in
theorem dX7_parses_85 : decode cX7_parses 85 = .ok (.aload_n 0, 1) := by decide +kernel
set_option maxRecDepth 100000 in
theorem dX7_parses_86 : decode cX7_parses 86 = .ok (.getfield 178, 3) := by decide +kernel
set_option maxRecDepth 100000 in
theorem dX7_parses_89 : decode cX7_parses 89 = .ok (.invokestatic 240, 3) := by decide +kernel
set_option maxRecDepth 100000 in
theorem dX7_parses_92 : decode cX7_parses 92 = .ok (.ifCond .ge 9, 3) := by decide +kernel
set_option maxRecDepth 100000 in
theorem dX7_parses_95 : decode cX7_parses 95 = .ok (.iload_n 3, 1) := by decide +kernel
set_option maxRecDepth 100000 in
theorem dX7_parses_96 : decode cX7_parses 96 = .ok (.bipush 12, 2) := by decide +kernel
set_option maxRecDepth 100000 in
theorem dX7_parses_98 : decode cX7_parses 98 = .ok (.if_icmp .ne 12, 3) := by decide +kernel
set_option maxRecDepth 100000 in
theorem dX7_parses_101 : decode cX7_parses 101 = .ok (.aload_n 0, 1) := by decide +kernel
set_option maxRecDepth 100000 in
theorem dX7_parses_102 : decode cX7_parses 102 = .ok (.invokevirtual 203, 3) := by decide +kernel
set_option maxRecDepth 100000 in
theorem dX7_parses_105 : decode cX7_parses 105 = .ok (.istore 4, 2) := by decide +kernel
set_option maxRecDepth 100000 in
theorem dX7_parses_107 : decode cX7_parses 107 = .ok (.goto (-61), 3) := by decide +kernel
set_option maxRecDepth 100000 in
theorem dX7_parses_110 : decode cX7_parses 110 = .ok (.aload_n 0, 1) := by decide +kernel
set_option maxRecDepth 100000 in
theorem dX7_parses_111 : decode cX7_parses 111 = .ok (.getfield 80, 3) := by decide +kernel
set_option maxRecDepth 100000 in
theorem dX7_parses_114 : decode cX7_parses 114 = .ok (.bipush 12, 2) := by decide +kernel
set_option maxRecDepth 100000 in
theorem dX7_parses_116 : decode cX7_parses 116 = .ok (.aload_n 0, 1) := by decide +kernel
set_option maxRecDepth 100000 in
theorem dX7_parses_117 : decode cX7_parses 117 = .ok (.getfield 207, 3) := by decide +kernel
set_option maxRecDepth 100000 in
theorem dX7_parses_120 : decode cX7_parses 120 = .ok (.imul, 1) := by decide +kernel
set_option maxRecDepth 100000 in
theorem dX7_parses_121 : decode cX7_parses 121 = .ok (.iload_n 3, 1) := by decide +kernel
set_option maxRecDepth 100000 in
theorem dX7_parses_122 : decode cX7_parses 122 = .ok (.iadd, 1) := by decide +kernel
set_option maxRecDepth 100000 in
theorem dX7_parses_123 : decode cX7_parses 123 = .ok (.aload_n 0, 1) := by decide +kernel
set_option maxRecDepth 100000 in
theorem dX7_parses_124 : decode cX7_parses 124 = .ok (.getfield 178, 3) := by decide +kernel
set_option maxRecDepth 100000 in
theorem dX7_parses_127 : decode cX7_parses 127 = .ok (.iastore, 1) := by decide +kernel
set_option maxRecDepth 100000 in
theorem dX7_parses_128 : decode cX7_parses 128 = .ok (.aload_n 0, 1) := by decide +kernel
set_option maxRecDepth 100000 in
theorem dX7_parses_129 : decode cX7_parses 129 = .ok (.getfield 86, 3) := by decide +kernel
set_option maxRecDepth 100000 in
theorem dX7_parses_132 : decode cX7_parses 132 = .ok (.bipush 13, 2) := by decide +kernel
set_option maxRecDepth 100000 in
theorem dX7_parses_134 : decode cX7_parses 134 = .ok (.aload_n 0, 1) := by decide +kernel
set_option maxRecDepth 100000 in
theorem dX7_parses_135 : decode cX7_parses 135 = .ok (.getfield 207, 3) := by decide +kernel
set_option maxRecDepth 100000 in
theorem dX7_parses_138 : decode cX7_parses 138 = .ok (.imul, 1) := by decide +kernel
set_option maxRecDepth 100000 in
theorem dX7_parses_139 : decode cX7_parses 139 = .ok (.iload_n 3, 1) := by decide +kernel
set_option maxRecDepth 100000 in
theorem dX7_parses_140 : decode cX7_parses 140 = .ok (.iadd, 1) := by decide +kernel
set_option maxRecDepth 100000 in
theorem dX7_parses_141 : decode cX7_parses 141 = .ok (.aload_n 0, 1) := by decide +kernel
set_option maxRecDepth 100000 in
theorem dX7_parses_142 : decode cX7_parses 142 = .ok (.getfield 210, 3) := by decide +kernel
set_option maxRecDepth 100000 in
theorem dX7_parses_145 : decode cX7_parses 145 = .ok (.iastore, 1) := by decide +kernel
set_option maxRecDepth 100000 in
theorem dX7_parses_146 : decode cX7_parses 146 = .ok (.aload_n 0, 1) := by decide +kernel
set_option maxRecDepth 100000 in
theorem dX7_parses_147 : decode cX7_parses 147 = .ok (.invokevirtual 200, 3) := by decide +kernel
set_option maxRecDepth 100000 in
theorem dX7_parses_150 : decode cX7_parses 150 = .ok (.aload_n 0, 1) := by decide +kernel
set_option maxRecDepth 100000 in
theorem dX7_parses_151 : decode cX7_parses 151 = .ok (.bipush 61, 2) := by decide +kernel
set_option maxRecDepth 100000 in
theorem dX7_parses_153 : decode cX7_parses 153 = .ok (.invokevirtual 229, 3) := by decide +kernel
set_option maxRecDepth 100000 in
theorem dX7_parses_156 : decode cX7_parses 156 = .ok (.aload_n 0, 1) := by decide +kernel
set_option maxRecDepth 100000 in
theorem dX7_parses_157 : decode cX7_parses 157 = .ok (.getfield 83, 3) := by decide +kernel
set_option maxRecDepth 100000 in
theorem dX7_parses_160 : decode cX7_parses 160 = .ok (.bipush 12, 2) := by decide +kernel
set_option maxRecDepth 100000 in
theorem dX7_parses_162 : decode cX7_parses 162 = .ok (.aload_n 0, 1) := by decide +kernel
set_option maxRecDepth 100000 in
theorem dX7_parses_163 : decode cX7_parses 163 = .ok (.getfield 207, 3) := by decide +kernel
set_option maxRecDepth 100000 in
theorem dX7_parses_166 : decode cX7_parses 166 = .ok (.imul, 1) := by decide +kernel
set_option maxRecDepth 100000 in
theorem dX7_parses_167 : decode cX7_parses 167 = .ok (.iload_n 3, 1) := by decide +kernel
set_option maxRecDepth 100000 in
theorem dX7_parses_168 : decode cX7_parses 168 = .ok (.iadd, 1) := by decide +kernel
set_option maxRecDepth 100000 in
theorem dX7_parses_169 : decode cX7_parses 169 = .ok (.aload_n 0, 1) := by decide +kernel
set_option maxRecDepth 100000 in
theorem dX7_parses_170 : decode cX7_parses 170 = .ok (.invokevirtual 193, 3) := by decide +kernel
set_option maxRecDepth 100000 in
theorem dX7_parses_173 : decode cX7_parses 173 = .ok (.ifCond .eq 11, 3) := by decide +kernel
set_option maxRecDepth 100000 in
theorem dX7_parses_176 : decode cX7_parses 176 = .ok (.aload_n 0, 1) := by decide +kernel
set_option maxRecDepth 100000 in
theorem dX7_parses_177 : decode cX7_parses 177 = .ok (.iconst 0, 1) := by decide +kernel
set_option maxRecDepth 100000 in
theorem dX7_parses_178 : decode cX7_parses 178 = .ok (.invokevirtual 226, 3) := by decide +kernel
set_option maxRecDepth 100000 in
theorem dX7_parses_181 : decode cX7_parses 181 = .ok (.goto 4, 3) := by decide +kernel
set_option maxRecDepth 100000 in
theorem dX7_parses_184 : decode cX7_parses 184 = .ok (.iconst (-1), 1) := by decide +kernel
set_option maxRecDepth 100000 in
theorem dX7_parses_185 : decode cX7_parses 185 = .ok (.iastore, 1) := by decide +kernel
set_option maxRecDepth 100000 in
theorem dX7_parses_186 : decode cX7_parses 186 = .ok (.aload_n 0, 1) := by decide +kernel
set_option maxRecDepth 100000 in
theorem dX7_parses_187 : decode cX7_parses 187 = .ok (.bipush 59, 2) := by decide +kernel
set_option maxRecDepth 100000 in
theorem dX7_parses_189 : decode cX7_parses 189 = .ok (.invokevirtual 229, 3) := by decide +kernel
set_option maxRecDepth 100000 in
theorem dX7_parses_192 : decode cX7_parses 192 = .ok (.aload_n 0, 1) := by decide +kernel
set_option maxRecDepth 100000 in
theorem dX7_parses_193 : decode cX7_parses 193 = .ok (.getfield 77, 3) := by decide +kernel
set_option maxRecDepth 100000 in
theorem dX7_parses_196 : decode cX7_parses 196 = .ok (.aload_n 0, 1) := by decide +kernel
set_option maxRecDepth 100000 in
theorem dX7_parses_197 : decode cX7_parses 197 = .ok (.getfield 207, 3) := by decide +kernel
set_option maxRecDepth 100000 in
theorem dX7_parses_200 : decode cX7_parses 200 = .ok (.dup2, 1) := by decide +kernel
set_option maxRecDepth 100000 in
theorem dX7_parses_201 : decode cX7_parses 201 = .ok (.iaload, 1) := by decide +kernel
set_option maxRecDepth 100000 in
theorem dX7_parses_202 : decode cX7_parses 202 = .ok (.iconst 1, 1) := by decide +kernel
set_option maxRecDepth 100000 in
theorem dX7_parses_203 : decode cX7_parses 203 = .ok (.iadd, 1) := by decide +kernel
set_option maxRecDepth 100000 in
theorem dX7_parses_204 : decode cX7_parses 204 = .ok (.iastore, 1) := by decide +kernel
set_option maxRecDepth 100000 in
theorem dX7_parses_205 : decode cX7_parses 205 = .ok (.aload_n 0, 1) := by decide +kernel
set_option maxRecDepth 100000 in
theorem dX7_parses_206 : decode cX7_parses 206 = .ok (.getfield 86, 3) := by decide +kernel
set_option maxRecDepth 100000 in
theorem dX7_parses_209 : decode cX7_parses 209 = .ok (.bipush 13, 2) := by decide +kernel
set_option maxRecDepth 100000 in
theorem dX7_parses_211 : decode cX7_parses 211 = .ok (.aload_n 0, 1) := by decide +kernel
set_option maxRecDepth 100000 in
theorem dX7_parses_212 : decode cX7_parses 212 = .ok (.getfield 207, 3) := by decide +kernel
set_option maxRecDepth 100000 in
theorem dX7_parses_215 : decode cX7_parses 215 = .ok (.imul, 1) := by decide +kernel
set_option maxRecDepth 100000 in
theorem dX7_parses_216 : decode cX7_parses 216 = .ok (.iload_n 3, 1) := by decide +kernel
set_option maxRecDepth 100000 in
theorem dX7_parses_217 : decode cX7_parses 217 = .ok (.iadd, 1) := by decide +kernel
set_option maxRecDepth 100000 in
theorem dX7_parses_218 : decode cX7_parses 218 = .ok (.iconst 1, 1) := by decide +kernel
set_option maxRecDepth 100000 in
theorem dX7_parses_219 : decode cX7_parses 219 = .ok (.iadd, 1) := by decide +kernel
set_option maxRecDepth 100000 in
theorem dX7_parses_220 : decode cX7_parses 220 = .ok (.aload_n 0, 1) := by decide +kernel
set_option maxRecDepth 100000 in
theorem dX7_parses_221 : decode cX7_parses 221 = .ok (.getfield 210, 3) := by decide +kernel
set_option maxRecDepth 100000 in
theorem dX7_parses_224 : decode cX7_parses 224 = .ok (.iastore, 1) := by decide +kernel
set_option maxRecDepth 100000 in
theorem dX7_parses_225 : decode cX7_parses 225 = .ok (.aload_n 0, 1) := by decide +kernel
set_option maxRecDepth 100000 in
theorem dX7_parses_226 : decode cX7_parses 226 = .ok (.getfield 181, 3) := by decide +kernel
set_option maxRecDepth 100000 in
theorem dX7_parses_229 : decode cX7_parses 229 = .ok (.ifCond .eq 7, 3) := by decide +kernel
set_option maxRecDepth 100000 in
theorem dX7_parses_232 : decode cX7_parses 232 = .ok (.iconst 1, 1) := by decide +kernel
set_option maxRecDepth 100000 in
theorem dX7_parses_233 : decode cX7_parses 233 = .ok (.goto 4, 3) := by decide +kernel
set_option maxRecDepth 100000 in
theorem dX7_parses_236 : decode cX7_parses 236 = .ok (.iconst 0, 1) := by decide +kernel
set_option maxRecDepth 100000 in
theorem dX7_parses_237 : decode cX7_parses 237 = .ok (.istore_n 2, 1) := by decide +kernel
set_option maxRecDepth 100000 in
theorem dX7_parses_238 : decode cX7_parses 238 = .ok (.goto (-192), 3) := by decide +kernel
set_option maxRecDepth 100000 in
theorem dX7_parses_241 : decode cX7_parses 241 = .ok (.aload_n 0, 1) := by decide +kernel
set_option maxRecDepth 100000 in
theorem dX7_parses_242 : decode cX7_parses 242 = .ok (.invokevirtual 193, 3) := by decide +kernel
set_option maxRecDepth 100000 in
theorem dX7_parses_245 : decode cX7_parses 245 = .ok (.ireturn, 1) := by decide +kernel
set_option maxRecDepth 100000 in
theorem dX7_ruleOf_0 : decode cX7_ruleOf 0 = .ok (.iconst 0, 1) := by decide +kernel
set_option maxRecDepth 100000 in
theorem dX7_ruleOf_1 : decode cX7_ruleOf 1 = .ok (.istore_n 3, 1) := by decide +kernel
set_option maxRecDepth 100000 in
theorem dX7_ruleOf_2 : decode cX7_ruleOf 2 = .ok (.iload_n 3, 1) := by decide +kernel
set_option maxRecDepth 100000 in
theorem dX7_ruleOf_3 : decode cX7_ruleOf 3 = .ok (.aload_n 0, 1) := by decide +kernel
set_option maxRecDepth 100000 in
theorem dX7_ruleOf_4 : decode cX7_ruleOf 4 = .ok (.getfield 77, 3) := by decide +kernel
set_option maxRecDepth 100000 in
theorem dX7_ruleOf_7 : decode cX7_ruleOf 7 = .ok (.iload_n 1, 1) := by decide +kernel
set_option maxRecDepth 100000 in
theorem dX7_ruleOf_8 : decode cX7_ruleOf 8 = .ok (.iaload, 1) := by decide +kernel
set_option maxRecDepth 100000 in
theorem dX7_ruleOf_9 : decode cX7_ruleOf 9 = .ok (.if_icmp .ge 26, 3) := by decide +kernel
set_option maxRecDepth 100000 in
theorem dX7_ruleOf_12 : decode cX7_ruleOf 12 = .ok (.aload_n 0, 1) := by decide +kernel
set_option maxRecDepth 100000 in
theorem dX7_ruleOf_13 : decode cX7_ruleOf 13 = .ok (.getfield 80, 3) := by decide +kernel
set_option maxRecDepth 100000 in
theorem dX7_ruleOf_16 : decode cX7_ruleOf 16 = .ok (.bipush 12, 2) := by decide +kernel
set_option maxRecDepth 100000 in
theorem dX7_ruleOf_18 : decode cX7_ruleOf 18 = .ok (.iload_n 1, 1) := by decide +kernel
set_option maxRecDepth 100000 in
theorem dX7_ruleOf_19 : decode cX7_ruleOf 19 = .ok (.imul, 1) := by decide +kernel
set_option maxRecDepth 100000 in
theorem dX7_ruleOf_20 : decode cX7_ruleOf 20 = .ok (.iload_n 3, 1) := by decide +kernel
set_option maxRecDepth 100000 in
theorem dX7_ruleOf_21 : decode cX7_ruleOf 21 = .ok (.iadd, 1) := by decide +kernel
set_option maxRecDepth 100000 in
theorem dX7_ruleOf_22 : decode cX7_ruleOf 22 = .ok (.iaload, 1) := by decide +kernel
set_option maxRecDepth 100000 in
theorem dX7_ruleOf_23 : decode cX7_ruleOf 23 = .ok (.iload_n 2, 1) := by decide +kernel
set_option maxRecDepth 100000 in
theorem dX7_ruleOf_24 : decode cX7_ruleOf 24 = .ok (.if_icmp .ne 5, 3) := by decide +kernel
set_option maxRecDepth 100000 in
theorem dX7_ruleOf_27 : decode cX7_ruleOf 27 = .ok (.iload_n 3, 1) := by decide +kernel
set_option maxRecDepth 100000 in
theorem dX7_ruleOf_28 : decode cX7_ruleOf 28 = .ok (.ireturn, 1) := by decide +kernel
set_option maxRecDepth 100000 in
theorem dX7_ruleOf_29 : decode cX7_ruleOf 29 = .ok (.iinc 3 1, 3) := by decide +kernel
set_option maxRecDepth 100000 in
theorem dX7_ruleOf_32 : decode cX7_ruleOf 32 = .ok (.goto (-30), 3) := by decide +kernel
set_option maxRecDepth 100000 in
theorem dX7_ruleOf_35 : decode cX7_ruleOf 35 = .ok (.iconst (-1), 1) := by decide +kernel
set_option maxRecDepth 100000 in
theorem dX7_ruleOf_36 : decode cX7_ruleOf 36 = .ok (.ireturn, 1) := by decide +kernel
set_option maxRecDepth 100000 in
theorem dX7_holes_0 : decode cX7_holes 0 = .ok (.iconst (-1), 1) := by decide +kernel
set_option maxRecDepth 100000 in
theorem dX7_holes_1 : decode cX7_holes 1 = .ok (.istore_n 1, 1) := by decide +kernel
set_option maxRecDepth 100000 in
theorem dX7_holes_2 : decode cX7_holes 2 = .ok (.iconst 0, 1) := by decide +kernel
set_option maxRecDepth 100000 in
theorem dX7_holes_3 : decode cX7_holes 3 = .ok (.istore_n 2, 1) := by decide +kernel
set_option maxRecDepth 100000 in
theorem dX7_holes_4 : decode cX7_holes 4 = .ok (.iload_n 2, 1) := by decide +kernel
set_option maxRecDepth 100000 in
theorem dX7_holes_5 : decode cX7_holes 5 = .ok (.aload_n 0, 1) := by decide +kernel
set_option maxRecDepth 100000 in
theorem dX7_holes_6 : decode cX7_holes 6 = .ok (.getfield 77, 3) := by decide +kernel
set_option maxRecDepth 100000 in
theorem dX7_holes_9 : decode cX7_holes 9 = .ok (.aload_n 0, 1) := by decide +kernel
set_option maxRecDepth 100000 in
theorem dX7_holes_10 : decode cX7_holes 10 = .ok (.getfield 207, 3) := by decide +kernel
set_option maxRecDepth 100000 in
theorem dX7_holes_13 : decode cX7_holes 13 = .ok (.iaload, 1) := by decide +kernel
set_option maxRecDepth 100000 in
theorem dX7_holes_14 : decode cX7_holes 14 = .ok (.if_icmp .ge 146, 3) := by decide +kernel
set_option maxRecDepth 100000 in
theorem dX7_holes_17 : decode cX7_holes 17 = .ok (.aload_n 0, 1) := by decide +kernel
set_option maxRecDepth 100000 in
theorem dX7_holes_18 : decode cX7_holes 18 = .ok (.getfield 86, 3) := by decide +kernel
set_option maxRecDepth 100000 in
theorem dX7_holes_21 : decode cX7_holes 21 = .ok (.bipush 13, 2) := by decide +kernel
set_option maxRecDepth 100000 in
theorem dX7_holes_23 : decode cX7_holes 23 = .ok (.aload_n 0, 1) := by decide +kernel
set_option maxRecDepth 100000 in
theorem dX7_holes_24 : decode cX7_holes 24 = .ok (.getfield 207, 3) := by decide +kernel
set_option maxRecDepth 100000 in
theorem dX7_holes_27 : decode cX7_holes 27 = .ok (.imul, 1) := by decide +kernel
set_option maxRecDepth 100000 in
theorem dX7_holes_28 : decode cX7_holes 28 = .ok (.iload_n 2, 1) := by decide +kernel
set_option maxRecDepth 100000 in
theorem dX7_holes_29 : decode cX7_holes 29 = .ok (.iadd, 1) := by decide +kernel
set_option maxRecDepth 100000 in
theorem dX7_holes_30 : decode cX7_holes 30 = .ok (.iaload, 1) := by decide +kernel
set_option maxRecDepth 100000 in
theorem dX7_holes_31 : decode cX7_holes 31 = .ok (.istore_n 3, 1) := by decide +kernel
set_option maxRecDepth 100000 in
theorem dX7_holes_32 : decode cX7_holes 32 = .ok (.iload_n 3, 1) := by decide +kernel
set_option maxRecDepth 100000 in
theorem dX7_holes_33 : decode cX7_holes 33 = .ok (.aload_n 0, 1) := by decide +kernel
set_option maxRecDepth 100000 in
theorem dX7_holes_34 : decode cX7_holes 34 = .ok (.getfield 86, 3) := by decide +kernel
set_option maxRecDepth 100000 in
theorem dX7_holes_37 : decode cX7_holes 37 = .ok (.bipush 13, 2) := by decide +kernel
set_option maxRecDepth 100000 in
theorem dX7_holes_39 : decode cX7_holes 39 = .ok (.aload_n 0, 1) := by decide +kernel
set_option maxRecDepth 100000 in
theorem dX7_holes_40 : decode cX7_holes 40 = .ok (.getfield 207, 3) := by decide +kernel
set_option maxRecDepth 100000 in
theorem dX7_holes_43 : decode cX7_holes 43 = .ok (.imul, 1) := by decide +kernel
set_option maxRecDepth 100000 in
theorem dX7_holes_44 : decode cX7_holes 44 = .ok (.iload_n 2, 1) := by decide +kernel
set_option maxRecDepth 100000 in
theorem dX7_holes_45 : decode cX7_holes 45 = .ok (.iadd, 1) := by decide +kernel
set_option maxRecDepth 100000 in
theorem dX7_holes_46 : decode cX7_holes 46 = .ok (.iconst 1, 1) := by decide +kernel
