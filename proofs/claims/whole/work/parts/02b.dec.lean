set_option maxRecDepth 100000 in
theorem dX2_run_34 : decode cX2_run 34 = .ok (.iaload, 1) := by decide +kernel
set_option maxRecDepth 100000 in
theorem dX2_run_35 : decode cX2_run 35 = .ok (.if_icmp .ge 318, 3) := by decide +kernel
set_option maxRecDepth 100000 in
theorem dX2_run_38 : decode cX2_run 38 = .ok (.iload 4, 2) := by decide +kernel
set_option maxRecDepth 100000 in
theorem dX2_run_40 : decode cX2_run 40 = .ok (.sipush 1200, 3) := by decide +kernel
set_option maxRecDepth 100000 in
theorem dX2_run_43 : decode cX2_run 43 = .ok (.if_icmp .ge 310, 3) := by decide +kernel
set_option maxRecDepth 100000 in
theorem dX2_run_46 : decode cX2_run 46 = .ok (.aload_n 1, 1) := by decide +kernel
set_option maxRecDepth 100000 in
theorem dX2_run_47 : decode cX2_run 47 = .ok (.getfield 71, 3) := by decide +kernel
set_option maxRecDepth 100000 in
theorem dX2_run_50 : decode cX2_run 50 = .ok (.iload 4, 2) := by decide +kernel
set_option maxRecDepth 100000 in
theorem dX2_run_52 : decode cX2_run 52 = .ok (.iaload, 1) := by decide +kernel
set_option maxRecDepth 100000 in
theorem dX2_run_53 : decode cX2_run 53 = .ok (.istore 5, 2) := by decide +kernel
set_option maxRecDepth 100000 in
theorem dX2_run_55 : decode cX2_run 55 = .ok (.iload_n 3, 1) := by decide +kernel
set_option maxRecDepth 100000 in
theorem dX2_run_56 : decode cX2_run 56 = .ok (.aload_n 1, 1) := by decide +kernel
set_option maxRecDepth 100000 in
theorem dX2_run_57 : decode cX2_run 57 = .ok (.getfield 74, 3) := by decide +kernel
set_option maxRecDepth 100000 in
theorem dX2_run_60 : decode cX2_run 60 = .ok (.iload 4, 2) := by decide +kernel
set_option maxRecDepth 100000 in
theorem dX2_run_62 : decode cX2_run 62 = .ok (.iaload, 1) := by decide +kernel
set_option maxRecDepth 100000 in
theorem dX2_run_63 : decode cX2_run 63 = .ok (.isub, 1) := by decide +kernel
set_option maxRecDepth 100000 in
theorem dX2_run_64 : decode cX2_run 64 = .ok (.istore 6, 2) := by decide +kernel
set_option maxRecDepth 100000 in
theorem dX2_run_66 : decode cX2_run 66 = .ok (.iload 6, 2) := by decide +kernel
set_option maxRecDepth 100000 in
theorem dX2_run_68 : decode cX2_run 68 = .ok (.ifCond .lt 24, 3) := by decide +kernel
set_option maxRecDepth 100000 in
theorem dX2_run_71 : decode cX2_run 71 = .ok (.iload 6, 2) := by decide +kernel
set_option maxRecDepth 100000 in
theorem dX2_run_73 : decode cX2_run 73 = .ok (.iconst 1, 1) := by decide +kernel
set_option maxRecDepth 100000 in
theorem dX2_run_74 : decode cX2_run 74 = .ok (.iadd, 1) := by decide +kernel
set_option maxRecDepth 100000 in
theorem dX2_run_75 : decode cX2_run 75 = .ok (.aload_n 0, 1) := by decide +kernel
set_option maxRecDepth 100000 in
theorem dX2_run_76 : decode cX2_run 76 = .ok (.getfield 18, 3) := by decide +kernel
set_option maxRecDepth 100000 in
theorem dX2_run_79 : decode cX2_run 79 = .ok (.arraylength, 1) := by decide +kernel
set_option maxRecDepth 100000 in
theorem dX2_run_80 : decode cX2_run 80 = .ok (.if_icmp .ge 12, 3) := by decide +kernel
set_option maxRecDepth 100000 in
theorem dX2_run_83 : decode cX2_run 83 = .ok (.iload_n 3, 1) := by decide +kernel
set_option maxRecDepth 100000 in
theorem dX2_run_84 : decode cX2_run 84 = .ok (.aload_n 0, 1) := by decide +kernel
set_option maxRecDepth 100000 in
theorem dX2_run_85 : decode cX2_run 85 = .ok (.getfield 18, 3) := by decide +kernel
set_option maxRecDepth 100000 in
theorem dX2_run_88 : decode cX2_run 88 = .ok (.arraylength, 1) := by decide +kernel
set_option maxRecDepth 100000 in
theorem dX2_run_89 : decode cX2_run 89 = .ok (.if_icmp .le 7, 3) := by decide +kernel
set_option maxRecDepth 100000 in
theorem dX2_run_92 : decode cX2_run 92 = .ok (.ldc2_w 33, 3) := by decide +kernel
set_option maxRecDepth 100000 in
theorem dX2_run_95 : decode cX2_run 95 = .ok (.lreturn, 1) := by decide +kernel
set_option maxRecDepth 100000 in
theorem dX2_run_96 : decode cX2_run 96 = .ok (.aload_n 0, 1) := by decide +kernel
set_option maxRecDepth 100000 in
theorem dX2_run_97 : decode cX2_run 97 = .ok (.getfield 18, 3) := by decide +kernel
set_option maxRecDepth 100000 in
theorem dX2_run_100 : decode cX2_run 100 = .ok (.iload 6, 2) := by decide +kernel
set_option maxRecDepth 100000 in
theorem dX2_run_102 : decode cX2_run 102 = .ok (.laload, 1) := by decide +kernel
set_option maxRecDepth 100000 in
theorem dX2_run_103 : decode cX2_run 103 = .ok (.lstore 7, 2) := by decide +kernel
set_option maxRecDepth 100000 in
theorem dX2_run_105 : decode cX2_run 105 = .ok (.aload_n 1, 1) := by decide +kernel
set_option maxRecDepth 100000 in
theorem dX2_run_106 : decode cX2_run 106 = .ok (.getfield 77, 3) := by decide +kernel
set_option maxRecDepth 100000 in
theorem dX2_run_109 : decode cX2_run 109 = .ok (.iload 4, 2) := by decide +kernel
set_option maxRecDepth 100000 in
theorem dX2_run_111 : decode cX2_run 111 = .ok (.iaload, 1) := by decide +kernel
set_option maxRecDepth 100000 in
theorem dX2_run_112 : decode cX2_run 112 = .ok (.tableswitch 203 0 13 #[72, 82, 97, 116, 138, 157, 203, 203, 203, 203, 203, 179, 191, 169], 72) := by decide +kernel
set_option maxRecDepth 100000 in
theorem dX2_run_184 : decode cX2_run 184 = .ok (.iload 5, 2) := by decide +kernel
set_option maxRecDepth 100000 in
theorem dX2_run_186 : decode cX2_run 186 = .ok (.invokestatic 80, 3) := by decide +kernel
set_option maxRecDepth 100000 in
theorem dX2_run_189 : decode cX2_run 189 = .ok (.lstore 7, 2) := by decide +kernel
set_option maxRecDepth 100000 in
theorem dX2_run_191 : decode cX2_run 191 = .ok (.goto 142, 3) := by decide +kernel
set_option maxRecDepth 100000 in
theorem dX2_run_194 : decode cX2_run 194 = .ok (.aload_n 0, 1) := by decide +kernel
set_option maxRecDepth 100000 in
theorem dX2_run_195 : decode cX2_run 195 = .ok (.aload_n 0, 1) := by decide +kernel
set_option maxRecDepth 100000 in
theorem dX2_run_196 : decode cX2_run 196 = .ok (.getfield 9, 3) := by decide +kernel
set_option maxRecDepth 100000 in
theorem dX2_run_199 : decode cX2_run 199 = .ok (.iload 5, 2) := by decide +kernel
set_option maxRecDepth 100000 in
theorem dX2_run_201 : decode cX2_run 201 = .ok (.invokevirtual 35, 3) := by decide +kernel
set_option maxRecDepth 100000 in
theorem dX2_run_204 : decode cX2_run 204 = .ok (.lstore 7, 2) := by decide +kernel
set_option maxRecDepth 100000 in
theorem dX2_run_206 : decode cX2_run 206 = .ok (.goto 127, 3) := by decide +kernel
set_option maxRecDepth 100000 in
theorem dX2_run_209 : decode cX2_run 209 = .ok (.lload 7, 2) := by decide +kernel
set_option maxRecDepth 100000 in
theorem dX2_run_211 : decode cX2_run 211 = .ok (.aload_n 0, 1) := by decide +kernel
set_option maxRecDepth 100000 in
theorem dX2_run_212 : decode cX2_run 212 = .ok (.getfield 18, 3) := by decide +kernel
set_option maxRecDepth 100000 in
theorem dX2_run_215 : decode cX2_run 215 = .ok (.iload 6, 2) := by decide +kernel
set_option maxRecDepth 100000 in
theorem dX2_run_217 : decode cX2_run 217 = .ok (.iconst 1, 1) := by decide +kernel
set_option maxRecDepth 100000 in
theorem dX2_run_218 : decode cX2_run 218 = .ok (.iadd, 1) := by decide +kernel
set_option maxRecDepth 100000 in
theorem dX2_run_219 : decode cX2_run 219 = .ok (.laload, 1) := by decide +kernel
set_option maxRecDepth 100000 in
theorem dX2_run_220 : decode cX2_run 220 = .ok (.invokestatic 84, 3) := by decide +kernel
set_option maxRecDepth 100000 in
theorem dX2_run_223 : decode cX2_run 223 = .ok (.lstore 7, 2) := by decide +kernel
set_option maxRecDepth 100000 in
theorem dX2_run_225 : decode cX2_run 225 = .ok (.goto 108, 3) := by decide +kernel
set_option maxRecDepth 100000 in
theorem dX2_run_228 : decode cX2_run 228 = .ok (.lload 7, 2) := by decide +kernel
set_option maxRecDepth 100000 in
theorem dX2_run_230 : decode cX2_run 230 = .ok (.aload_n 0, 1) := by decide +kernel
set_option maxRecDepth 100000 in
theorem dX2_run_231 : decode cX2_run 231 = .ok (.getfield 18, 3) := by decide +kernel
set_option maxRecDepth 100000 in
theorem dX2_run_234 : decode cX2_run 234 = .ok (.iload 6, 2) := by decide +kernel
set_option maxRecDepth 100000 in
theorem dX2_run_236 : decode cX2_run 236 = .ok (.iconst 1, 1) := by decide +kernel
set_option maxRecDepth 100000 in
theorem dX2_run_237 : decode cX2_run 237 = .ok (.iadd, 1) := by decide +kernel
set_option maxRecDepth 100000 in
theorem dX2_run_238 : decode cX2_run 238 = .ok (.laload, 1) := by decide +kernel
set_option maxRecDepth 100000 in
theorem dX2_run_239 : decode cX2_run 239 = .ok (.invokestatic 88, 3) := by decide +kernel
set_option maxRecDepth 100000 in
theorem dX2_run_242 : decode cX2_run 242 = .ok (.invokestatic 84, 3) := by decide +kernel
set_option maxRecDepth 100000 in
theorem dX2_run_245 : decode cX2_run 245 = .ok (.lstore 7, 2) := by decide +kernel
set_option maxRecDepth 100000 in
theorem dX2_run_247 : decode cX2_run 247 = .ok (.goto 86, 3) := by decide +kernel
set_option maxRecDepth 100000 in
theorem dX2_run_250 : decode cX2_run 250 = .ok (.lload 7, 2) := by decide +kernel
set_option maxRecDepth 100000 in
theorem dX2_run_252 : decode cX2_run 252 = .ok (.aload_n 0, 1) := by decide +kernel
set_option maxRecDepth 100000 in
theorem dX2_run_253 : decode cX2_run 253 = .ok (.getfield 18, 3) := by decide +kernel
set_option maxRecDepth 100000 in
theorem dX2_run_256 : decode cX2_run 256 = .ok (.iload 6, 2) := by decide +kernel
set_option maxRecDepth 100000 in
theorem dX2_run_258 : decode cX2_run 258 = .ok (.iconst 1, 1) := by decide +kernel
set_option maxRecDepth 100000 in
theorem dX2_run_259 : decode cX2_run 259 = .ok (.iadd, 1) := by decide +kernel
set_option maxRecDepth 100000 in
theorem dX2_run_260 : decode cX2_run 260 = .ok (.laload, 1) := by decide +kernel
set_option maxRecDepth 100000 in
theorem dX2_run_261 : decode cX2_run 261 = .ok (.invokestatic 92, 3) := by decide +kernel
set_option maxRecDepth 100000 in
theorem dX2_run_264 : decode cX2_run 264 = .ok (.lstore 7, 2) := by decide +kernel
set_option maxRecDepth 100000 in
theorem dX2_run_266 : decode cX2_run 266 = .ok (.goto 67, 3) := by decide +kernel
set_option maxRecDepth 100000 in
theorem dX2_run_269 : decode cX2_run 269 = .ok (.lload 7, 2) := by decide +kernel
set_option maxRecDepth 100000 in
theorem dX2_run_271 : decode cX2_run 271 = .ok (.iload 5, 2) := by decide +kernel
set_option maxRecDepth 100000 in
theorem dX2_run_273 : decode cX2_run 273 = .ok (.invokestatic 95, 3) := by decide +kernel
set_option maxRecDepth 100000 in
theorem dX2_run_276 : decode cX2_run 276 = .ok (.lstore 7, 2) := by decide +kernel
set_option maxRecDepth 100000 in
theorem dX2_run_278 : decode cX2_run 278 = .ok (.goto 55, 3) := by decide +kernel
set_option maxRecDepth 100000 in
theorem dX2_run_281 : decode cX2_run 281 = .ok (.lload 7, 2) := by decide +kernel
set_option maxRecDepth 100000 in
theorem dX2_run_283 : decode cX2_run 283 = .ok (.invokestatic 99, 3) := by decide +kernel
set_option maxRecDepth 100000 in
theorem dX2_run_286 : decode cX2_run 286 = .ok (.lstore 7, 2) := by decide +kernel
set_option maxRecDepth 100000 in
theorem dX2_run_288 : decode cX2_run 288 = .ok (.goto 45, 3) := by decide +kernel
set_option maxRecDepth 100000 in
theorem dX2_run_291 : decode cX2_run 291 = .ok (.lload 7, 2) := by decide +kernel
set_option maxRecDepth 100000 in
theorem dX2_run_293 : decode cX2_run 293 = .ok (.iload 5, 2) := by decide +kernel
set_option maxRecDepth 100000 in
theorem dX2_run_295 : decode cX2_run 295 = .ok (.invokestatic 102, 3) := by decide +kernel
set_option maxRecDepth 100000 in
theorem dX2_run_298 : decode cX2_run 298 = .ok (.lstore 7, 2) := by decide +kernel
set_option maxRecDepth 100000 in
theorem dX2_run_300 : decode cX2_run 300 = .ok (.goto 33, 3) := by decide +kernel
set_option maxRecDepth 100000 in
theorem dX2_run_303 : decode cX2_run 303 = .ok (.lload 7, 2) := by decide +kernel
set_option maxRecDepth 100000 in
theorem dX2_run_305 : decode cX2_run 305 = .ok (.iload 5, 2) := by decide +kernel
set_option maxRecDepth 100000 in
theorem dX2_run_307 : decode cX2_run 307 = .ok (.invokestatic 105, 3) := by decide +kernel
set_option maxRecDepth 100000 in
theorem dX2_run_310 : decode cX2_run 310 = .ok (.lstore 7, 2) := by decide +kernel
set_option maxRecDepth 100000 in
theorem dX2_run_312 : decode cX2_run 312 = .ok (.goto 21, 3) := by decide +kernel
set_option maxRecDepth 100000 in
theorem dX2_run_315 : decode cX2_run 315 = .ok (.aload_n 0, 1) := by decide +kernel
set_option maxRecDepth 100000 in
theorem dX2_run_316 : decode cX2_run 316 = .ok (.aload_n 1, 1) := by decide +kernel
set_option maxRecDepth 100000 in
theorem dX2_run_317 : decode cX2_run 317 = .ok (.getfield 77, 3) := by decide +kernel
set_option maxRecDepth 100000 in
theorem dX2_run_320 : decode cX2_run 320 = .ok (.iload 4, 2) := by decide +kernel
set_option maxRecDepth 100000 in
theorem dX2_run_322 : decode cX2_run 322 = .ok (.iaload, 1) := by decide +kernel
set_option maxRecDepth 100000 in
theorem dX2_run_323 : decode cX2_run 323 = .ok (.iload 5, 2) := by decide +kernel
set_option maxRecDepth 100000 in
theorem dX2_run_325 : decode cX2_run 325 = .ok (.iload 6, 2) := by decide +kernel
set_option maxRecDepth 100000 in
theorem dX2_run_327 : decode cX2_run 327 = .ok (.iload_n 3, 1) := by decide +kernel
set_option maxRecDepth 100000 in
theorem dX2_run_328 : decode cX2_run 328 = .ok (.invokevirtual 108, 3) := by decide +kernel
set_option maxRecDepth 100000 in
theorem dX2_run_331 : decode cX2_run 331 = .ok (.lstore 7, 2) := by decide +kernel
set_option maxRecDepth 100000 in
theorem dX2_run_333 : decode cX2_run 333 = .ok (.aload_n 0, 1) := by decide +kernel
set_option maxRecDepth 100000 in
theorem dX2_run_334 : decode cX2_run 334 = .ok (.getfield 18, 3) := by decide +kernel
set_option maxRecDepth 100000 in
theorem dX2_run_337 : decode cX2_run 337 = .ok (.iload 6, 2) := by decide +kernel
set_option maxRecDepth 100000 in
theorem dX2_run_339 : decode cX2_run 339 = .ok (.lload 7, 2) := by decide +kernel
set_option maxRecDepth 100000 in
theorem dX2_run_341 : decode cX2_run 341 = .ok (.lastore, 1) := by decide +kernel
set_option maxRecDepth 100000 in
theorem dX2_run_342 : decode cX2_run 342 = .ok (.iload 6, 2) := by decide +kernel
set_option maxRecDepth 100000 in
theorem dX2_run_344 : decode cX2_run 344 = .ok (.iconst 1, 1) := by decide +kernel
set_option maxRecDepth 100000 in
theorem dX2_run_345 : decode cX2_run 345 = .ok (.iadd, 1) := by decide +kernel
set_option maxRecDepth 100000 in
theorem dX2_run_346 : decode cX2_run 346 = .ok (.istore_n 3, 1) := by decide +kernel
set_option maxRecDepth 100000 in
theorem dX2_run_347 : decode cX2_run 347 = .ok (.iinc 4 1, 3) := by decide +kernel
set_option maxRecDepth 100000 in
theorem dX2_run_350 : decode cX2_run 350 = .ok (.goto (-328), 3) := by decide +kernel
set_option maxRecDepth 100000 in
theorem dX2_run_353 : decode cX2_run 353 = .ok (.aload_n 0, 1) := by decide +kernel
set_option maxRecDepth 100000 in
theorem dX2_run_354 : decode cX2_run 354 = .ok (.getfield 18, 3) := by decide +kernel
set_option maxRecDepth 100000 in
theorem dX2_run_357 : decode cX2_run 357 = .ok (.iconst 0, 1) := by decide +kernel
set_option maxRecDepth 100000 in
theorem dX2_run_358 : decode cX2_run 358 = .ok (.laload, 1) := by decide +kernel
set_option maxRecDepth 100000 in
theorem dX2_run_359 : decode cX2_run 359 = .ok (.lreturn, 1) := by decide +kernel
set_option maxRecDepth 100000 in
theorem dX2_ofList_0 : decode cX2_ofList 0 = .ok (.iload_n 3, 1) := by decide +kernel
set_option maxRecDepth 100000 in
theorem dX2_ofList_1 : decode cX2_ofList 1 = .ok (.istore 5, 2) := by decide +kernel
set_option maxRecDepth 100000 in
theorem dX2_ofList_3 : decode cX2_ofList 3 = .ok (.iload_n 3, 1) := by decide +kernel
set_option maxRecDepth 100000 in
theorem dX2_ofList_4 : decode cX2_ofList 4 = .ok (.istore 6, 2) := by decide +kernel
set_option maxRecDepth 100000 in
theorem dX2_ofList_6 : decode cX2_ofList 6 = .ok (.iload_n 3, 1) := by decide +kernel
set_option maxRecDepth 100000 in
theorem dX2_ofList_7 : decode cX2_ofList 7 = .ok (.istore 7, 2) := by decide +kernel
set_option maxRecDepth 100000 in
theorem dX2_ofList_9 : decode cX2_ofList 9 = .ok (.iload 7, 2) := by decide +kernel
set_option maxRecDepth 100000 in
theorem dX2_ofList_11 : decode cX2_ofList 11 = .ok (.ifCond .lt 83, 3) := by decide +kernel
set_option maxRecDepth 100000 in
theorem dX2_ofList_14 : decode cX2_ofList 14 = .ok (.iload 7, 2) := by decide +kernel
set_option maxRecDepth 100000 in
theorem dX2_ofList_16 : decode cX2_ofList 16 = .ok (.iload 4, 2) := by decide +kernel
set_option maxRecDepth 100000 in
theorem dX2_ofList_18 : decode cX2_ofList 18 = .ok (.if_icmp .ge 76, 3) := by decide +kernel
set_option maxRecDepth 100000 in
theorem dX2_ofList_21 : decode cX2_ofList 21 = .ok (.iload 7, 2) := by decide +kernel
set_option maxRecDepth 100000 in
theorem dX2_ofList_23 : decode cX2_ofList 23 = .ok (.aload_n 0, 1) := by decide +kernel
set_option maxRecDepth 100000 in
theorem dX2_ofList_24 : decode cX2_ofList 24 = .ok (.getfield 18, 3) := by decide +kernel
set_option maxRecDepth 100000 in
theorem dX2_ofList_27 : decode cX2_ofList 27 = .ok (.arraylength, 1) := by decide +kernel
set_option maxRecDepth 100000 in
theorem dX2_ofList_28 : decode cX2_ofList 28 = .ok (.if_icmp .ge 66, 3) := by decide +kernel
set_option maxRecDepth 100000 in
theorem dX2_ofList_31 : decode cX2_ofList 31 = .ok (.iload 6, 2) := by decide +kernel
set_option maxRecDepth 100000 in
theorem dX2_ofList_33 : decode cX2_ofList 33 = .ok (.aload_n 0, 1) := by decide +kernel
set_option maxRecDepth 100000 in
theorem dX2_ofList_34 : decode cX2_ofList 34 = .ok (.getfield 18, 3) := by decide +kernel
set_option maxRecDepth 100000 in
theorem dX2_ofList_37 : decode cX2_ofList 37 = .ok (.arraylength, 1) := by decide +kernel
set_option maxRecDepth 100000 in
theorem dX2_ofList_38 : decode cX2_ofList 38 = .ok (.if_icmp .ge 56, 3) := by decide +kernel
set_option maxRecDepth 100000 in
theorem dX2_ofList_41 : decode cX2_ofList 41 = .ok (.aload_n 0, 1) := by decide +kernel
set_option maxRecDepth 100000 in
theorem dX2_ofList_42 : decode cX2_ofList 42 = .ok (.getfield 18, 3) := by decide +kernel
set_option maxRecDepth 100000 in
theorem dX2_ofList_45 : decode cX2_ofList 45 = .ok (.iload 7, 2) := by decide +kernel
set_option maxRecDepth 100000 in
theorem dX2_ofList_47 : decode cX2_ofList 47 = .ok (.laload, 1) := by decide +kernel
set_option maxRecDepth 100000 in
theorem dX2_ofList_48 : decode cX2_ofList 48 = .ok (.ldc2_w 33, 3) := by decide +kernel
set_option maxRecDepth 100000 in
theorem dX2_ofList_51 : decode cX2_ofList 51 = .ok (.lcmp, 1) := by decide +kernel
set_option maxRecDepth 100000 in
theorem dX2_ofList_52 : decode cX2_ofList 52 = .ok (.ifCond .ne 7, 3) := by decide +kernel
set_option maxRecDepth 100000 in
theorem dX2_ofList_55 : decode cX2_ofList 55 = .ok (.ldc2_w 33, 3) := by decide +kernel
set_option maxRecDepth 100000 in
theorem dX2_ofList_58 : decode cX2_ofList 58 = .ok (.lreturn, 1) := by decide +kernel
set_option maxRecDepth 100000 in
theorem dX2_ofList_59 : decode cX2_ofList 59 = .ok (.aload_n 0, 1) := by decide +kernel
set_option maxRecDepth 100000 in
theorem dX2_ofList_60 : decode cX2_ofList 60 = .ok (.getfield 18, 3) := by decide +kernel
set_option maxRecDepth 100000 in
theorem dX2_ofList_63 : decode cX2_ofList 63 = .ok (.iload 7, 2) := by decide +kernel
set_option maxRecDepth 100000 in
theorem dX2_ofList_65 : decode cX2_ofList 65 = .ok (.laload, 1) := by decide +kernel
set_option maxRecDepth 100000 in
theorem dX2_ofList_66 : decode cX2_ofList 66 = .ok (.lconst 0, 1) := by decide +kernel
set_option maxRecDepth 100000 in
theorem dX2_ofList_67 : decode cX2_ofList 67 = .ok (.lcmp, 1) := by decide +kernel
set_option maxRecDepth 100000 in
theorem dX2_ofList_68 : decode cX2_ofList 68 = .ok (.ifCond .eq 20, 3) := by decide +kernel
set_option maxRecDepth 100000 in
theorem dX2_ofList_71 : decode cX2_ofList 71 = .ok (.aload_n 0, 1) := by decide +kernel
set_option maxRecDepth 100000 in
theorem dX2_ofList_72 : decode cX2_ofList 72 = .ok (.getfield 18, 3) := by decide +kernel
set_option maxRecDepth 100000 in
theorem dX2_ofList_75 : decode cX2_ofList 75 = .ok (.iload 6, 2) := by decide +kernel
set_option maxRecDepth 100000 in
theorem dX2_ofList_77 : decode cX2_ofList 77 = .ok (.aload_n 0, 1) := by decide +kernel
set_option maxRecDepth 100000 in
theorem dX2_ofList_78 : decode cX2_ofList 78 = .ok (.getfield 18, 3) := by decide +kernel
set_option maxRecDepth 100000 in
theorem dX2_ofList_81 : decode cX2_ofList 81 = .ok (.iload 7, 2) := by decide +kernel
set_option maxRecDepth 100000 in
theorem dX2_ofList_83 : decode cX2_ofList 83 = .ok (.laload, 1) := by decide +kernel
set_option maxRecDepth 100000 in
theorem dX2_ofList_84 : decode cX2_ofList 84 = .ok (.lastore, 1) := by decide +kernel
set_option maxRecDepth 100000 in
theorem dX2_ofList_85 : decode cX2_ofList 85 = .ok (.iinc 6 1, 3) := by decide +kernel
set_option maxRecDepth 100000 in
theorem dX2_ofList_88 : decode cX2_ofList 88 = .ok (.iinc 7 1, 3) := by decide +kernel
set_option maxRecDepth 100000 in
theorem dX2_ofList_91 : decode cX2_ofList 91 = .ok (.goto (-82), 3) := by decide +kernel
set_option maxRecDepth 100000 in
theorem dX2_ofList_94 : decode cX2_ofList 94 = .ok (.iload 6, 2) := by decide +kernel
set_option maxRecDepth 100000 in
theorem dX2_ofList_96 : decode cX2_ofList 96 = .ok (.iload 5, 2) := by decide +kernel
set_option maxRecDepth 100000 in
theorem dX2_ofList_98 : decode cX2_ofList 98 = .ok (.isub, 1) := by decide +kernel
set_option maxRecDepth 100000 in
theorem dX2_ofList_99 : decode cX2_ofList 99 = .ok (.istore 7, 2) := by decide +kernel
set_option maxRecDepth 100000 in
theorem dX2_ofList_101 : decode cX2_ofList 101 = .ok (.iload 7, 2) := by decide +kernel
set_option maxRecDepth 100000 in
theorem dX2_ofList_103 : decode cX2_ofList 103 = .ok (.ifCond .ne 5, 3) := by decide +kernel
set_option maxRecDepth 100000 in
theorem dX2_ofList_106 : decode cX2_ofList 106 = .ok (.lconst 0, 1) := by decide +kernel
set_option maxRecDepth 100000 in
theorem dX2_ofList_107 : decode cX2_ofList 107 = .ok (.lreturn, 1) := by decide +kernel
set_option maxRecDepth 100000 in
theorem dX2_ofList_108 : decode cX2_ofList 108 = .ok (.iload_n 1, 1) := by decide +kernel
set_option maxRecDepth 100000 in
theorem dX2_ofList_109 : decode cX2_ofList 109 = .ok (.bipush 8, 2) := by decide +kernel
set_option maxRecDepth 100000 in
theorem dX2_ofList_111 : decode cX2_ofList 111 = .ok (.if_icmp .eq 11, 3) := by decide +kernel
set_option maxRecDepth 100000 in
theorem dX2_ofList_114 : decode cX2_ofList 114 = .ok (.aload_n 0, 1) := by decide +kernel
set_option maxRecDepth 100000 in
theorem dX2_ofList_115 : decode cX2_ofList 115 = .ok (.iload 5, 2) := by decide +kernel
set_option maxRecDepth 100000 in
theorem dX2_ofList_117 : decode cX2_ofList 117 = .ok (.iload 6, 2) := by decide +kernel
set_option maxRecDepth 100000 in
theorem dX2_ofList_119 : decode cX2_ofList 119 = .ok (.invokevirtual 112, 3) := by decide +kernel
set_option maxRecDepth 100000 in
theorem dX2_ofList_122 : decode cX2_ofList 122 = .ok (.iload_n 1, 1) := by decide +kernel
set_option maxRecDepth 100000 in
theorem dX2_ofList_123 : decode cX2_ofList 123 = .ok (.bipush 6, 2) := by decide +kernel
set_option maxRecDepth 100000 in
theorem dX2_ofList_125 : decode cX2_ofList 125 = .ok (.if_icmp .ne 12, 3) := by decide +kernel
set_option maxRecDepth 100000 in
theorem dX2_ofList_128 : decode cX2_ofList 128 = .ok (.iload 5, 2) := by decide +kernel
set_option maxRecDepth 100000 in
theorem dX2_ofList_130 : decode cX2_ofList 130 = .ok (.iconst 1, 1) := by decide +kernel
set_option maxRecDepth 100000 in
theorem dX2_ofList_131 : decode cX2_ofList 131 = .ok (.iadd, 1) := by decide +kernel
set_option maxRecDepth 100000 in
theorem dX2_ofList_132 : decode cX2_ofList 132 = .ok (.istore 6, 2) := by decide +kernel
set_option maxRecDepth 100000 in
theorem dX2_ofList_134 : decode cX2_ofList 134 = .ok (.goto 57, 3) := by decide +kernel
set_option maxRecDepth 100000 in
theorem dX2_ofList_137 : decode cX2_ofList 137 = .ok (.iload_n 1, 1) := by decide +kernel
set_option maxRecDepth 100000 in
theorem dX2_ofList_138 : decode cX2_ofList 138 = .ok (.bipush 7, 2) := by decide +kernel
set_option maxRecDepth 100000 in
theorem dX2_ofList_140 : decode cX2_ofList 140 = .ok (.if_icmp .ne 12, 3) := by decide +kernel
set_option maxRecDepth 100000 in
theorem dX2_ofList_143 : decode cX2_ofList 143 = .ok (.iload 6, 2) := by decide +kernel
set_option maxRecDepth 100000 in
theorem dX2_ofList_145 : decode cX2_ofList 145 = .ok (.iconst 1, 1) := by decide +kernel
set_option maxRecDepth 100000 in
theorem dX2_ofList_146 : decode cX2_ofList 146 = .ok (.isub, 1) := by decide +kernel
set_option maxRecDepth 100000 in
theorem dX2_ofList_147 : decode cX2_ofList 147 = .ok (.istore 5, 2) := by decide +kernel
set_option maxRecDepth 100000 in
theorem dX2_ofList_149 : decode cX2_ofList 149 = .ok (.goto 42, 3) := by decide +kernel
set_option maxRecDepth 100000 in
theorem dX2_ofList_152 : decode cX2_ofList 152 = .ok (.iload_n 1, 1) := by decide +kernel
set_option maxRecDepth 100000 in
theorem dX2_ofList_153 : decode cX2_ofList 153 = .ok (.bipush 9, 2) := by decide +kernel
set_option maxRecDepth 100000 in
theorem dX2_ofList_155 : decode cX2_ofList 155 = .ok (.if_icmp .ne 17, 3) := by decide +kernel
set_option maxRecDepth 100000 in
theorem dX2_ofList_158 : decode cX2_ofList 158 = .ok (.iload 5, 2) := by decide +kernel
set_option maxRecDepth 100000 in
theorem dX2_ofList_160 : decode cX2_ofList 160 = .ok (.iload_n 2, 1) := by decide +kernel
set_option maxRecDepth 100000 in
theorem dX2_ofList_161 : decode cX2_ofList 161 = .ok (.iload 7, 2) := by decide +kernel
set_option maxRecDepth 100000 in
theorem dX2_ofList_163 : decode cX2_ofList 163 = .ok (.invokestatic 116, 3) := by decide +kernel
set_option maxRecDepth 100000 in
theorem dX2_ofList_166 : decode cX2_ofList 166 = .ok (.iadd, 1) := by decide +kernel
set_option maxRecDepth 100000 in
theorem dX2_ofList_167 : decode cX2_ofList 167 = .ok (.istore 6, 2) := by decide +kernel
set_option maxRecDepth 100000 in
theorem dX2_ofList_169 : decode cX2_ofList 169 = .ok (.goto 22, 3) := by decide +kernel
set_option maxRecDepth 100000 in
theorem dX2_ofList_172 : decode cX2_ofList 172 = .ok (.iload_n 1, 1) := by decide +kernel
set_option maxRecDepth 100000 in
theorem dX2_ofList_173 : decode cX2_ofList 173 = .ok (.bipush 10, 2) := by decide +kernel
set_option maxRecDepth 100000 in
theorem dX2_ofList_175 : decode cX2_ofList 175 = .ok (.if_icmp .ne 16, 3) := by decide +kernel
set_option maxRecDepth 100000 in
theorem dX2_ofList_178 : decode cX2_ofList 178 = .ok (.iload 5, 2) := by decide +kernel
set_option maxRecDepth 100000 in
theorem dX2_ofList_180 : decode cX2_ofList 180 = .ok (.iload 7, 2) := by decide +kernel
set_option maxRecDepth 100000 in
theorem dX2_ofList_182 : decode cX2_ofList 182 = .ok (.iload_n 2, 1) := by decide +kernel
set_option maxRecDepth 100000 in
theorem dX2_ofList_183 : decode cX2_ofList 183 = .ok (.isub, 1) := by decide +kernel
set_option maxRecDepth 100000 in
theorem dX2_ofList_184 : decode cX2_ofList 184 = .ok (.iconst 0, 1) := by decide +kernel
set_option maxRecDepth 100000 in
theorem dX2_ofList_185 : decode cX2_ofList 185 = .ok (.invokestatic 121, 3) := by decide +kernel
set_option maxRecDepth 100000 in
theorem dX2_ofList_188 : decode cX2_ofList 188 = .ok (.iadd, 1) := by decide +kernel
set_option maxRecDepth 100000 in
theorem dX2_ofList_189 : decode cX2_ofList 189 = .ok (.istore 6, 2) := by decide +kernel
set_option maxRecDepth 100000 in
theorem dX2_ofList_191 : decode cX2_ofList 191 = .ok (.lconst 1, 1) := by decide +kernel
set_option maxRecDepth 100000 in
theorem dX2_ofList_192 : decode cX2_ofList 192 = .ok (.lstore 8, 2) := by decide +kernel
set_option maxRecDepth 100000 in
theorem dX2_ofList_194 : decode cX2_ofList 194 = .ok (.iload 5, 2) := by decide +kernel
set_option maxRecDepth 100000 in
theorem dX2_ofList_196 : decode cX2_ofList 196 = .ok (.istore 10, 2) := by decide +kernel
set_option maxRecDepth 100000 in
theorem dX2_ofList_198 : decode cX2_ofList 198 = .ok (.iload 10, 2) := by decide +kernel
set_option maxRecDepth 100000 in
theorem dX2_ofList_200 : decode cX2_ofList 200 = .ok (.ifCond .lt 40, 3) := by decide +kernel
set_option maxRecDepth 100000 in
theorem dX2_ofList_203 : decode cX2_ofList 203 = .ok (.iload 10, 2) := by decide +kernel
set_option maxRecDepth 100000 in
theorem dX2_ofList_205 : decode cX2_ofList 205 = .ok (.iload 6, 2) := by decide +kernel
set_option maxRecDepth 100000 in
theorem dX2_ofList_207 : decode cX2_ofList 207 = .ok (.if_icmp .ge 33, 3) := by decide +kernel
set_option maxRecDepth 100000 in
theorem dX2_ofList_210 : decode cX2_ofList 210 = .ok (.iload 10, 2) := by decide +kernel
set_option maxRecDepth 100000 in
theorem dX2_ofList_212 : decode cX2_ofList 212 = .ok (.aload_n 0, 1) := by decide +kernel
set_option maxRecDepth 100000 in
theorem dX2_ofList_213 : decode cX2_ofList 213 = .ok (.getfield 18, 3) := by decide +kernel
set_option maxRecDepth 100000 in
theorem dX2_ofList_216 : decode cX2_ofList 216 = .ok (.arraylength, 1) := by decide +kernel
set_option maxRecDepth 100000 in
theorem dX2_ofList_217 : decode cX2_ofList 217 = .ok (.if_icmp .ge 23, 3) := by decide +kernel
set_option maxRecDepth 100000 in
theorem dX2_ofList_220 : decode cX2_ofList 220 = .ok (.lload 8, 2) := by decide +kernel
set_option maxRecDepth 100000 in
theorem dX2_ofList_222 : decode cX2_ofList 222 = .ok (.aload_n 0, 1) := by decide +kernel
set_option maxRecDepth 100000 in
theorem dX2_ofList_223 : decode cX2_ofList 223 = .ok (.getfield 18, 3) := by decide +kernel
set_option maxRecDepth 100000 in
theorem dX2_ofList_226 : decode cX2_ofList 226 = .ok (.iload 10, 2) := by decide +kernel
set_option maxRecDepth 100000 in
theorem dX2_ofList_228 : decode cX2_ofList 228 = .ok (.laload, 1) := by decide +kernel
set_option maxRecDepth 100000 in
theorem dX2_ofList_229 : decode cX2_ofList 229 = .ok (.invokestatic 84, 3) := by decide +kernel
set_option maxRecDepth 100000 in
theorem dX2_ofList_232 : decode cX2_ofList 232 = .ok (.lstore 8, 2) := by decide +kernel
set_option maxRecDepth 100000 in
theorem dX2_ofList_234 : decode cX2_ofList 234 = .ok (.iinc 10 1, 3) := by decide +kernel
set_option maxRecDepth 100000 in
theorem dX2_ofList_237 : decode cX2_ofList 237 = .ok (.goto (-39), 3) := by decide +kernel
set_option maxRecDepth 100000 in
theorem dX2_ofList_240 : decode cX2_ofList 240 = .ok (.iload_n 1, 1) := by decide +kernel
set_option maxRecDepth 100000 in
theorem dX2_ofList_241 : decode cX2_ofList 241 = .ok (.bipush 8, 2) := by decide +kernel
set_option maxRecDepth 100000 in
theorem dX2_ofList_243 : decode cX2_ofList 243 = .ok (.if_icmp .ne 16, 3) := by decide +kernel
set_option maxRecDepth 100000 in
theorem dX2_ofList_246 : decode cX2_ofList 246 = .ok (.lload 8, 2) := by decide +kernel
set_option maxRecDepth 100000 in
theorem dX2_ofList_248 : decode cX2_ofList 248 = .ok (.iload 7, 2) := by decide +kernel
set_option maxRecDepth 100000 in
theorem dX2_ofList_250 : decode cX2_ofList 250 = .ok (.invokestatic 95, 3) := by decide +kernel
set_option maxRecDepth 100000 in
theorem dX2_ofList_253 : decode cX2_ofList 253 = .ok (.invokestatic 99, 3) := by decide +kernel
set_option maxRecDepth 100000 in
theorem dX2_ofList_256 : decode cX2_ofList 256 = .ok (.goto 5, 3) := by decide +kernel
set_option maxRecDepth 100000 in
theorem dX2_ofList_259 : decode cX2_ofList 259 = .ok (.lload 8, 2) := by decide +kernel
set_option maxRecDepth 100000 in
theorem dX2_ofList_261 : decode cX2_ofList 261 = .ok (.lreturn, 1) := by decide +kernel
set_option maxRecDepth 100000 in
theorem dX2_sortDown_0 : decode cX2_sortDown 0 = .ok (.iload_n 1, 1) := by decide +kernel
set_option maxRecDepth 100000 in
theorem dX2_sortDown_1 : decode cX2_sortDown 1 = .ok (.iconst 1, 1) := by decide +kernel
set_option maxRecDepth 100000 in
theorem dX2_sortDown_2 : decode cX2_sortDown 2 = .ok (.iadd, 1) := by decide +kernel
set_option maxRecDepth 100000 in
theorem dX2_sortDown_3 : decode cX2_sortDown 3 = .ok (.istore_n 3, 1) := by decide +kernel
set_option maxRecDepth 100000 in
theorem dX2_sortDown_4 : decode cX2_sortDown 4 = .ok (.iload_n 3, 1) := by decide +kernel
set_option maxRecDepth 100000 in
theorem dX2_sortDown_5 : decode cX2_sortDown 5 = .ok (.iload_n 2, 1) := by decide +kernel
set_option maxRecDepth 100000 in
theorem dX2_sortDown_6 : decode cX2_sortDown 6 = .ok (.if_icmp .ge 96, 3) := by decide +kernel
set_option maxRecDepth 100000 in
theorem dX2_sortDown_9 : decode cX2_sortDown 9 = .ok (.iload_n 3, 1) := by decide +kernel
set_option maxRecDepth 100000 in
theorem dX2_sortDown_10 : decode cX2_sortDown 10 = .ok (.aload_n 0, 1) := by decide +kernel
set_option maxRecDepth 100000 in
theorem dX2_sortDown_11 : decode cX2_sortDown 11 = .ok (.getfield 18, 3) := by decide +kernel
set_option maxRecDepth 100000 in
theorem dX2_sortDown_14 : decode cX2_sortDown 14 = .ok (.arraylength, 1) := by decide +kernel
set_option maxRecDepth 100000 in
theorem dX2_sortDown_15 : decode cX2_sortDown 15 = .ok (.if_icmp .ge 87, 3) := by decide +kernel
set_option maxRecDepth 100000 in
theorem dX2_sortDown_18 : decode cX2_sortDown 18 = .ok (.iload_n 3, 1) := by decide +kernel
set_option maxRecDepth 100000 in
theorem dX2_sortDown_19 : decode cX2_sortDown 19 = .ok (.istore 4, 2) := by decide +kernel
set_option maxRecDepth 100000 in
theorem dX2_sortDown_21 : decode cX2_sortDown 21 = .ok (.iload 4, 2) := by decide +kernel
set_option maxRecDepth 100000 in
theorem dX2_sortDown_23 : decode cX2_sortDown 23 = .ok (.iload_n 1, 1) := by decide +kernel
set_option maxRecDepth 100000 in
theorem dX2_sortDown_24 : decode cX2_sortDown 24 = .ok (.if_icmp .le 72, 3) := by decide +kernel
set_option maxRecDepth 100000 in
theorem dX2_sortDown_27 : decode cX2_sortDown 27 = .ok (.iload 4, 2) := by decide +kernel
set_option maxRecDepth 100000 in
theorem dX2_sortDown_29 : decode cX2_sortDown 29 = .ok (.ifCond .le 67, 3) := by decide +kernel
set_option maxRecDepth 100000 in
theorem dX2_sortDown_32 : decode cX2_sortDown 32 = .ok (.aload_n 0, 1) := by decide +kernel
set_option maxRecDepth 100000 in
theorem dX2_sortDown_33 : decode cX2_sortDown 33 = .ok (.getfield 18, 3) := by decide +kernel
set_option maxRecDepth 100000 in
theorem dX2_sortDown_36 : decode cX2_sortDown 36 = .ok (.iload 4, 2) := by decide +kernel
set_option maxRecDepth 100000 in
theorem dX2_sortDown_38 : decode cX2_sortDown 38 = .ok (.iconst 1, 1) := by decide +kernel
set_option maxRecDepth 100000 in
theorem dX2_sortDown_39 : decode cX2_sortDown 39 = .ok (.isub, 1) := by decide +kernel
set_option maxRecDepth 100000 in
theorem dX2_sortDown_40 : decode cX2_sortDown 40 = .ok (.laload, 1) := by decide +kernel
set_option maxRecDepth 100000 in
theorem dX2_sortDown_41 : decode cX2_sortDown 41 = .ok (.aload_n 0, 1) := by decide +kernel
set_option maxRecDepth 100000 in
theorem dX2_sortDown_42 : decode cX2_sortDown 42 = .ok (.getfield 18, 3) := by decide +kernel
set_option maxRecDepth 100000 in
theorem dX2_sortDown_45 : decode cX2_sortDown 45 = .ok (.iload 4, 2) := by decide +kernel
set_option maxRecDepth 100000 in
theorem dX2_sortDown_47 : decode cX2_sortDown 47 = .ok (.laload, 1) := by decide +kernel
set_option maxRecDepth 100000 in
theorem dX2_sortDown_48 : decode cX2_sortDown 48 = .ok (.invokestatic 124, 3) := by decide +kernel
set_option maxRecDepth 100000 in
theorem dX2_sortDown_51 : decode cX2_sortDown 51 = .ok (.ifCond .eq 45, 3) := by decide +kernel
set_option maxRecDepth 100000 in
theorem dX2_sortDown_54 : decode cX2_sortDown 54 = .ok (.aload_n 0, 1) := by decide +kernel
set_option maxRecDepth 100000 in
theorem dX2_sortDown_55 : decode cX2_sortDown 55 = .ok (.getfield 18, 3) := by decide +kernel
set_option maxRecDepth 100000 in
theorem dX2_sortDown_58 : decode cX2_sortDown 58 = .ok (.iload 4, 2) := by decide +kernel
set_option maxRecDepth 100000 in
theorem dX2_sortDown_60 : decode cX2_sortDown 60 = .ok (.iconst 1, 1) := by decide +kernel
set_option maxRecDepth 100000 in
theorem dX2_sortDown_61 : decode cX2_sortDown 61 = .ok (.isub, 1) := by decide +kernel
set_option maxRecDepth 100000 in
theorem dX2_sortDown_62 : decode cX2_sortDown 62 = .ok (.laload, 1) := by decide +kernel
set_option maxRecDepth 100000 in
theorem dX2_sortDown_63 : decode cX2_sortDown 63 = .ok (.lstore 5, 2) := by decide +kernel
set_option maxRecDepth 100000 in
theorem dX2_sortDown_65 : decode cX2_sortDown 65 = .ok (.aload_n 0, 1) := by decide +kernel
set_option maxRecDepth 100000 in
theorem dX2_sortDown_66 : decode cX2_sortDown 66 = .ok (.getfield 18, 3) := by decide +kernel
set_option maxRecDepth 100000 in
theorem dX2_sortDown_69 : decode cX2_sortDown 69 = .ok (.iload 4, 2) := by decide +kernel
set_option maxRecDepth 100000 in
theorem dX2_sortDown_71 : decode cX2_sortDown 71 = .ok (.iconst 1, 1) := by decide +kernel
set_option maxRecDepth 100000 in
theorem dX2_sortDown_72 : decode cX2_sortDown 72 = .ok (.isub, 1) := by decide +kernel
set_option maxRecDepth 100000 in
theorem dX2_sortDown_73 : decode cX2_sortDown 73 = .ok (.aload_n 0, 1) := by decide +kernel
set_option maxRecDepth 100000 in
theorem dX2_sortDown_74 : decode cX2_sortDown 74 = .ok (.getfield 18, 3) := by decide +kernel
set_option maxRecDepth 100000 in
theorem dX2_sortDown_77 : decode cX2_sortDown 77 = .ok (.iload 4, 2) := by decide +kernel
set_option maxRecDepth 100000 in
theorem dX2_sortDown_79 : decode cX2_sortDown 79 = .ok (.laload, 1) := by decide +kernel
set_option maxRecDepth 100000 in
theorem dX2_sortDown_80 : decode cX2_sortDown 80 = .ok (.lastore, 1) := by decide +kernel
set_option maxRecDepth 100000 in
theorem dX2_sortDown_81 : decode cX2_sortDown 81 = .ok (.aload_n 0, 1) := by decide +kernel
set_option maxRecDepth 100000 in
theorem dX2_sortDown_82 : decode cX2_sortDown 82 = .ok (.getfield 18, 3) := by decide +kernel
set_option maxRecDepth 100000 in
theorem dX2_sortDown_85 : decode cX2_sortDown 85 = .ok (.iload 4, 2) := by decide +kernel
set_option maxRecDepth 100000 in
theorem dX2_sortDown_87 : decode cX2_sortDown 87 = .ok (.lload 5, 2) := by decide +kernel
set_option maxRecDepth 100000 in
theorem dX2_sortDown_89 : decode cX2_sortDown 89 = .ok (.lastore, 1) := by decide +kernel
set_option maxRecDepth 100000 in
theorem dX2_sortDown_90 : decode cX2_sortDown 90 = .ok (.iinc 4 (-1), 3) := by decide +kernel
set_option maxRecDepth 100000 in
theorem dX2_sortDown_93 : decode cX2_sortDown 93 = .ok (.goto (-72), 3) := by decide +kernel
set_option maxRecDepth 100000 in
theorem dX2_sortDown_96 : decode cX2_sortDown 96 = .ok (.iinc 3 1, 3) := by decide +kernel
set_option maxRecDepth 100000 in
theorem dX2_sortDown_99 : decode cX2_sortDown 99 = .ok (.goto (-95), 3) := by decide +kernel
set_option maxRecDepth 100000 in
theorem dX2_sortDown_102 : decode cX2_sortDown 102 = .ok (.return_, 1) := by decide +kernel
set_option maxRecDepth 100000 in
theorem dX2_tryMark_0 : decode cX2_tryMark 0 = .ok (.iload_n 1, 1) := by decide +kernel
set_option maxRecDepth 100000 in
theorem dX2_tryMark_1 : decode cX2_tryMark 1 = .ok (.ifCond .lt 31, 3) := by decide +kernel
set_option maxRecDepth 100000 in
theorem dX2_tryMark_4 : decode cX2_tryMark 4 = .ok (.iload_n 1, 1) := by decide +kernel
set_option maxRecDepth 100000 in
theorem dX2_tryMark_5 : decode cX2_tryMark 5 = .ok (.bipush 10, 2) := by decide +kernel
set_option maxRecDepth 100000 in
theorem dX2_tryMark_7 : decode cX2_tryMark 7 = .ok (.if_icmp .ge 25, 3) := by decide +kernel
set_option maxRecDepth 100000 in
theorem dX2_tryMark_10 : decode cX2_tryMark 10 = .ok (.aload_n 0, 1) := by decide +kernel
set_option maxRecDepth 100000 in
theorem dX2_tryMark_11 : decode cX2_tryMark 11 = .ok (.getfield 9, 3) := by decide +kernel
set_option maxRecDepth 100000 in
theorem dX2_tryMark_14 : decode cX2_tryMark 14 = .ok (.iload_n 1, 1) := by decide +kernel
set_option maxRecDepth 100000 in
theorem dX2_tryMark_15 : decode cX2_tryMark 15 = .ok (.iload_n 2, 1) := by decide +kernel
set_option maxRecDepth 100000 in
theorem dX2_tryMark_16 : decode cX2_tryMark 16 = .ok (.invokestatic 80, 3) := by decide +kernel
set_option maxRecDepth 100000 in
theorem dX2_tryMark_19 : decode cX2_tryMark 19 = .ok (.lastore, 1) := by decide +kernel
set_option maxRecDepth 100000 in
theorem dX2_tryMark_20 : decode cX2_tryMark 20 = .ok (.aload_n 0, 1) := by decide +kernel
set_option maxRecDepth 100000 in
theorem dX2_tryMark_21 : decode cX2_tryMark 21 = .ok (.dup, 1) := by decide +kernel
set_option maxRecDepth 100000 in
theorem dX2_tryMark_22 : decode cX2_tryMark 22 = .ok (.getfield 128, 3) := by decide +kernel
set_option maxRecDepth 100000 in
theorem dX2_tryMark_25 : decode cX2_tryMark 25 = .ok (.iconst 1, 1) := by decide +kernel
set_option maxRecDepth 100000 in
theorem dX2_tryMark_26 : decode cX2_tryMark 26 = .ok (.iload_n 1, 1) := by decide +kernel
set_option maxRecDepth 100000 in
theorem dX2_tryMark_27 : decode cX2_tryMark 27 = .ok (.ishl, 1) := by decide +kernel
set_option maxRecDepth 100000 in
theorem dX2_tryMark_28 : decode cX2_tryMark 28 = .ok (.ior, 1) := by decide +kernel
set_option maxRecDepth 100000 in
theorem dX2_tryMark_29 : decode cX2_tryMark 29 = .ok (.putfield 128, 3) := by decide +kernel
set_option maxRecDepth 100000 in
theorem dX2_tryMark_32 : decode cX2_tryMark 32 = .ok (.return_, 1) := by decide +kernel
set_option maxRecDepth 100000 in
theorem dX2_widen_0 : decode cX2_widen 0 = .ok (.lload_n 1, 1) := by decide +kernel
set_option maxRecDepth 100000 in
theorem dX2_widen_1 : decode cX2_widen 1 = .ok (.invokestatic 131, 3) := by decide +kernel
set_option maxRecDepth 100000 in
theorem dX2_widen_4 : decode cX2_widen 4 = .ok (.ifCond .ne 4, 3) := by decide +kernel
set_option maxRecDepth 100000 in
theorem dX2_widen_7 : decode cX2_widen 7 = .ok (.return_, 1) := by decide +kernel
set_option maxRecDepth 100000 in
theorem dX2_widen_8 : decode cX2_widen 8 = .ok (.aload_n 0, 1) := by decide +kernel
set_option maxRecDepth 100000 in
theorem dX2_widen_9 : decode cX2_widen 9 = .ok (.getfield 135, 3) := by decide +kernel
set_option maxRecDepth 100000 in
theorem dX2_widen_12 : decode cX2_widen 12 = .ok (.invokestatic 131, 3) := by decide +kernel
set_option maxRecDepth 100000 in
theorem dX2_widen_15 : decode cX2_widen 15 = .ok (.ifCond .eq 14, 3) := by decide +kernel
set_option maxRecDepth 100000 in
theorem dX2_widen_18 : decode cX2_widen 18 = .ok (.lload_n 1, 1) := by decide +kernel
set_option maxRecDepth 100000 in
theorem dX2_widen_19 : decode cX2_widen 19 = .ok (.aload_n 0, 1) := by decide +kernel
set_option maxRecDepth 100000 in
theorem dX2_widen_20 : decode cX2_widen 20 = .ok (.getfield 135, 3) := by decide +kernel
set_option maxRecDepth 100000 in
theorem dX2_widen_23 : decode cX2_widen 23 = .ok (.invokestatic 124, 3) := by decide +kernel
set_option maxRecDepth 100000 in
theorem dX2_widen_26 : decode cX2_widen 26 = .ok (.ifCond .eq 8, 3) := by decide +kernel
set_option maxRecDepth 100000 in
theorem dX2_widen_29 : decode cX2_widen 29 = .ok (.aload_n 0, 1) := by decide +kernel
set_option maxRecDepth 100000 in
theorem dX2_widen_30 : decode cX2_widen 30 = .ok (.lload_n 1, 1) := by decide +kernel
set_option maxRecDepth 100000 in
theorem dX2_widen_31 : decode cX2_widen 31 = .ok (.putfield 135, 3) := by decide +kernel
set_option maxRecDepth 100000 in
theorem dX2_widen_34 : decode cX2_widen 34 = .ok (.aload_n 0, 1) := by decide +kernel
set_option maxRecDepth 100000 in
theorem dX2_widen_35 : decode cX2_widen 35 = .ok (.getfield 139, 3) := by decide +kernel
set_option maxRecDepth 100000 in
theorem dX2_widen_38 : decode cX2_widen 38 = .ok (.invokestatic 131, 3) := by decide +kernel
set_option maxRecDepth 100000 in
theorem dX2_widen_41 : decode cX2_widen 41 = .ok (.ifCond .eq 14, 3) := by decide +kernel
set_option maxRecDepth 100000 in
theorem dX2_widen_44 : decode cX2_widen 44 = .ok (.aload_n 0, 1) := by decide +kernel
set_option maxRecDepth 100000 in
theorem dX2_widen_45 : decode cX2_widen 45 = .ok (.getfield 139, 3) := by decide +kernel
set_option maxRecDepth 100000 in
theorem dX2_widen_48 : decode cX2_widen 48 = .ok (.lload_n 1, 1) := by decide +kernel
set_option maxRecDepth 100000 in
theorem dX2_widen_49 : decode cX2_widen 49 = .ok (.invokestatic 124, 3) := by decide +kernel
set_option maxRecDepth 100000 in
theorem dX2_widen_52 : decode cX2_widen 52 = .ok (.ifCond .eq 8, 3) := by decide +kernel
set_option maxRecDepth 100000 in
theorem dX2_widen_55 : decode cX2_widen 55 = .ok (.aload_n 0, 1) := by decide +kernel
set_option maxRecDepth 100000 in
theorem dX2_widen_56 : decode cX2_widen 56 = .ok (.lload_n 1, 1) := by decide +kernel
set_option maxRecDepth 100000 in
theorem dX2_widen_57 : decode cX2_widen 57 = .ok (.putfield 139, 3) := by decide +kernel
set_option maxRecDepth 100000 in
theorem dX2_widen_60 : decode cX2_widen 60 = .ok (.return_, 1) := by decide +kernel
set_option maxRecDepth 100000 in
theorem dX2_tryEnds_0 : decode cX2_tryEnds 0 = .ok (.aload_n 0, 1) := by decide +kernel
set_option maxRecDepth 100000 in
theorem dX2_tryEnds_1 : decode cX2_tryEnds 1 = .ok (.lconst 0, 1) := by decide +kernel
set_option maxRecDepth 100000 in
theorem dX2_tryEnds_2 : decode cX2_tryEnds 2 = .ok (.putfield 135, 3) := by decide +kernel
set_option maxRecDepth 100000 in
theorem dX2_tryEnds_5 : decode cX2_tryEnds 5 = .ok (.aload_n 0, 1) := by decide +kernel
set_option maxRecDepth 100000 in
theorem dX2_tryEnds_6 : decode cX2_tryEnds 6 = .ok (.lconst 0, 1) := by decide +kernel
set_option maxRecDepth 100000 in
theorem dX2_tryEnds_7 : decode cX2_tryEnds 7 = .ok (.putfield 139, 3) := by decide +kernel
set_option maxRecDepth 100000 in
theorem dX2_tryEnds_10 : decode cX2_tryEnds 10 = .ok (.aload_n 1, 1) := by decide +kernel
set_option maxRecDepth 100000 in
theorem dX2_tryEnds_11 : decode cX2_tryEnds 11 = .ok (.iload_n 2, 1) := by decide +kernel
set_option maxRecDepth 100000 in
theorem dX2_tryEnds_12 : decode cX2_tryEnds 12 = .ok (.invokevirtual 142, 3) := by decide +kernel
set_option maxRecDepth 100000 in
theorem dX2_tryEnds_15 : decode cX2_tryEnds 15 = .ok (.istore 4, 2) := by decide +kernel
set_option maxRecDepth 100000 in
theorem dX2_tryEnds_17 : decode cX2_tryEnds 17 = .ok (.aload_n 0, 1) := by decide +kernel
set_option maxRecDepth 100000 in
theorem dX2_tryEnds_18 : decode cX2_tryEnds 18 = .ok (.aload_n 1, 1) := by decide +kernel
set_option maxRecDepth 100000 in
theorem dX2_tryEnds_19 : decode cX2_tryEnds 19 = .ok (.iload 4, 2) := by decide +kernel
set_option maxRecDepth 100000 in
theorem dX2_tryEnds_21 : decode cX2_tryEnds 21 = .ok (.ldc 49, 2) := by decide +kernel
set_option maxRecDepth 100000 in
theorem dX2_tryEnds_23 : decode cX2_tryEnds 23 = .ok (.invokevirtual 145, 3) := by decide +kernel
set_option maxRecDepth 100000 in
theorem dX2_tryEnds_26 : decode cX2_tryEnds 26 = .ok (.aload_n 0, 1) := by decide +kernel
set_option maxRecDepth 100000 in
theorem dX2_tryEnds_27 : decode cX2_tryEnds 27 = .ok (.aload_n 0, 1) := by decide +kernel
set_option maxRecDepth 100000 in
theorem dX2_tryEnds_28 : decode cX2_tryEnds 28 = .ok (.iload_n 2, 1) := by decide +kernel
set_option maxRecDepth 100000 in
theorem dX2_tryEnds_29 : decode cX2_tryEnds 29 = .ok (.invokevirtual 149, 3) := by decide +kernel
set_option maxRecDepth 100000 in
theorem dX2_tryEnds_32 : decode cX2_tryEnds 32 = .ok (.invokevirtual 152, 3) := by decide +kernel
set_option maxRecDepth 100000 in
theorem dX2_tryEnds_35 : decode cX2_tryEnds 35 = .ok (.iconst 0, 1) := by decide +kernel
set_option maxRecDepth 100000 in
theorem dX2_tryEnds_36 : decode cX2_tryEnds 36 = .ok (.istore 5, 2) := by decide +kernel
set_option maxRecDepth 100000 in
theorem dX2_tryEnds_38 : decode cX2_tryEnds 38 = .ok (.iload 5, 2) := by decide +kernel
set_option maxRecDepth 100000 in
theorem dX2_tryEnds_40 : decode cX2_tryEnds 40 = .ok (.aload_n 0, 1) := by decide +kernel
set_option maxRecDepth 100000 in
theorem dX2_tryEnds_41 : decode cX2_tryEnds 41 = .ok (.getfield 21, 3) := by decide +kernel
set_option maxRecDepth 100000 in
theorem dX2_tryEnds_44 : decode cX2_tryEnds 44 = .ok (.arraylength, 1) := by decide +kernel
set_option maxRecDepth 100000 in
theorem dX2_tryEnds_45 : decode cX2_tryEnds 45 = .ok (.if_icmp .ge 32, 3) := by decide +kernel
set_option maxRecDepth 100000 in
theorem dX2_tryEnds_48 : decode cX2_tryEnds 48 = .ok (.iload_n 3, 1) := by decide +kernel
set_option maxRecDepth 100000 in
theorem dX2_tryEnds_49 : decode cX2_tryEnds 49 = .ok (.iload 5, 2) := by decide +kernel
set_option maxRecDepth 100000 in
theorem dX2_tryEnds_51 : decode cX2_tryEnds 51 = .ok (.invokestatic 53, 3) := by decide +kernel
set_option maxRecDepth 100000 in
theorem dX2_tryEnds_54 : decode cX2_tryEnds 54 = .ok (.iconst 1, 1) := by decide +kernel
set_option maxRecDepth 100000 in
theorem dX2_tryEnds_55 : decode cX2_tryEnds 55 = .ok (.if_icmp .ne 16, 3) := by decide +kernel
set_option maxRecDepth 100000 in
theorem dX2_tryEnds_58 : decode cX2_tryEnds 58 = .ok (.aload_n 0, 1) := by decide +kernel
set_option maxRecDepth 100000 in
theorem dX2_tryEnds_59 : decode cX2_tryEnds 59 = .ok (.iload 5, 2) := by decide +kernel
set_option maxRecDepth 100000 in
theorem dX2_tryEnds_61 : decode cX2_tryEnds 61 = .ok (.aload_n 0, 1) := by decide +kernel
set_option maxRecDepth 100000 in
theorem dX2_tryEnds_62 : decode cX2_tryEnds 62 = .ok (.getfield 21, 3) := by decide +kernel
set_option maxRecDepth 100000 in
theorem dX2_tryEnds_65 : decode cX2_tryEnds 65 = .ok (.iload 5, 2) := by decide +kernel
set_option maxRecDepth 100000 in
theorem dX2_tryEnds_67 : decode cX2_tryEnds 67 = .ok (.iaload, 1) := by decide +kernel
set_option maxRecDepth 100000 in
theorem dX2_tryEnds_68 : decode cX2_tryEnds 68 = .ok (.invokevirtual 156, 3) := by decide +kernel
set_option maxRecDepth 100000 in
theorem dX2_tryEnds_71 : decode cX2_tryEnds 71 = .ok (.iinc 5 1, 3) := by decide +kernel
set_option maxRecDepth 100000 in
theorem dX2_tryEnds_74 : decode cX2_tryEnds 74 = .ok (.goto (-36), 3) := by decide +kernel
set_option maxRecDepth 100000 in
theorem dX2_tryEnds_77 : decode cX2_tryEnds 77 = .ok (.aload_n 0, 1) := by decide +kernel
set_option maxRecDepth 100000 in
theorem dX2_tryEnds_78 : decode cX2_tryEnds 78 = .ok (.aload_n 1, 1) := by decide +kernel
set_option maxRecDepth 100000 in
theorem dX2_tryEnds_79 : decode cX2_tryEnds 79 = .ok (.iload 4, 2) := by decide +kernel
set_option maxRecDepth 100000 in
theorem dX2_tryEnds_81 : decode cX2_tryEnds 81 = .ok (.ldc 49, 2) := by decide +kernel
set_option maxRecDepth 100000 in
theorem dX2_tryEnds_83 : decode cX2_tryEnds 83 = .ok (.invokevirtual 145, 3) := by decide +kernel
set_option maxRecDepth 100000 in
theorem dX2_tryEnds_86 : decode cX2_tryEnds 86 = .ok (.aload_n 0, 1) := by decide +kernel
set_option maxRecDepth 100000 in
theorem dX2_tryEnds_87 : decode cX2_tryEnds 87 = .ok (.aload_n 0, 1) := by decide +kernel
set_option maxRecDepth 100000 in
theorem dX2_tryEnds_88 : decode cX2_tryEnds 88 = .ok (.iload_n 2, 1) := by decide +kernel
set_option maxRecDepth 100000 in
theorem dX2_tryEnds_89 : decode cX2_tryEnds 89 = .ok (.invokevirtual 149, 3) := by decide +kernel
set_option maxRecDepth 100000 in
theorem dX2_tryEnds_92 : decode cX2_tryEnds 92 = .ok (.invokevirtual 152, 3) := by decide +kernel
set_option maxRecDepth 100000 in
theorem dX2_tryEnds_95 : decode cX2_tryEnds 95 = .ok (.return_, 1) := by decide +kernel
set_option maxRecDepth 100000 in
theorem dX2_tryAll_0 : decode cX2_tryAll 0 = .ok (.aload_n 0, 1) := by decide +kernel
set_option maxRecDepth 100000 in
theorem dX2_tryAll_1 : decode cX2_tryAll 1 = .ok (.lconst 0, 1) := by decide +kernel
set_option maxRecDepth 100000 in
theorem dX2_tryAll_2 : decode cX2_tryAll 2 = .ok (.putfield 135, 3) := by decide +kernel
set_option maxRecDepth 100000 in
theorem dX2_tryAll_5 : decode cX2_tryAll 5 = .ok (.aload_n 0, 1) := by decide +kernel
set_option maxRecDepth 100000 in
theorem dX2_tryAll_6 : decode cX2_tryAll 6 = .ok (.lconst 0, 1) := by decide +kernel
set_option maxRecDepth 100000 in
theorem dX2_tryAll_7 : decode cX2_tryAll 7 = .ok (.putfield 139, 3) := by decide +kernel
set_option maxRecDepth 100000 in
theorem dX2_tryAll_10 : decode cX2_tryAll 10 = .ok (.aload_n 1, 1) := by decide +kernel
set_option maxRecDepth 100000 in
theorem dX2_tryAll_11 : decode cX2_tryAll 11 = .ok (.iload_n 2, 1) := by decide +kernel
set_option maxRecDepth 100000 in
theorem dX2_tryAll_12 : decode cX2_tryAll 12 = .ok (.invokevirtual 142, 3) := by decide +kernel
set_option maxRecDepth 100000 in
theorem dX2_tryAll_15 : decode cX2_tryAll 15 = .ok (.istore 4, 2) := by decide +kernel
set_option maxRecDepth 100000 in
theorem dX2_tryAll_17 : decode cX2_tryAll 17 = .ok (.aload_n 0, 1) := by decide +kernel
set_option maxRecDepth 100000 in
theorem dX2_tryAll_18 : decode cX2_tryAll 18 = .ok (.iload_n 3, 1) := by decide +kernel
set_option maxRecDepth 100000 in
theorem dX2_tryAll_19 : decode cX2_tryAll 19 = .ok (.aload_n 1, 1) := by decide +kernel
set_option maxRecDepth 100000 in
theorem dX2_tryAll_20 : decode cX2_tryAll 20 = .ok (.iload_n 2, 1) := by decide +kernel
set_option maxRecDepth 100000 in
theorem dX2_tryAll_21 : decode cX2_tryAll 21 = .ok (.invokevirtual 50, 3) := by decide +kernel
set_option maxRecDepth 100000 in
theorem dX2_tryAll_24 : decode cX2_tryAll 24 = .ok (.iand, 1) := by decide +kernel
set_option maxRecDepth 100000 in
theorem dX2_tryAll_25 : decode cX2_tryAll 25 = .ok (.invokevirtual 159, 3) := by decide +kernel
set_option maxRecDepth 100000 in
theorem dX2_tryAll_28 : decode cX2_tryAll 28 = .ok (.aload_n 0, 1) := by decide +kernel
set_option maxRecDepth 100000 in
theorem dX2_tryAll_29 : decode cX2_tryAll 29 = .ok (.aload_n 1, 1) := by decide +kernel
set_option maxRecDepth 100000 in
theorem dX2_tryAll_30 : decode cX2_tryAll 30 = .ok (.iload 4, 2) := by decide +kernel
set_option maxRecDepth 100000 in
theorem dX2_tryAll_32 : decode cX2_tryAll 32 = .ok (.ldc 49, 2) := by decide +kernel
set_option maxRecDepth 100000 in
theorem dX2_tryAll_34 : decode cX2_tryAll 34 = .ok (.invokevirtual 145, 3) := by decide +kernel
set_option maxRecDepth 100000 in
theorem dX2_tryAll_37 : decode cX2_tryAll 37 = .ok (.iconst 0, 1) := by decide +kernel
set_option maxRecDepth 100000 in
theorem dX2_tryAll_38 : decode cX2_tryAll 38 = .ok (.istore 5, 2) := by decide +kernel
set_option maxRecDepth 100000 in
theorem dX2_tryAll_40 : decode cX2_tryAll 40 = .ok (.iload 5, 2) := by decide +kernel
set_option maxRecDepth 100000 in
theorem dX2_tryAll_42 : decode cX2_tryAll 42 = .ok (.aload_n 0, 1) := by decide +kernel
set_option maxRecDepth 100000 in
theorem dX2_tryAll_43 : decode cX2_tryAll 43 = .ok (.getfield 28, 3) := by decide +kernel
set_option maxRecDepth 100000 in
theorem dX2_tryAll_46 : decode cX2_tryAll 46 = .ok (.iconst 0, 1) := by decide +kernel
set_option maxRecDepth 100000 in
theorem dX2_tryAll_47 : decode cX2_tryAll 47 = .ok (.iaload, 1) := by decide +kernel
set_option maxRecDepth 100000 in
theorem dX2_tryAll_48 : decode cX2_tryAll 48 = .ok (.if_icmp .gt 110, 3) := by decide +kernel
set_option maxRecDepth 100000 in
theorem dX2_tryAll_51 : decode cX2_tryAll 51 = .ok (.aload_n 0, 1) := by decide +kernel
set_option maxRecDepth 100000 in
theorem dX2_tryAll_52 : decode cX2_tryAll 52 = .ok (.aload_n 0, 1) := by decide +kernel
set_option maxRecDepth 100000 in
theorem dX2_tryAll_53 : decode cX2_tryAll 53 = .ok (.getfield 25, 3) := by decide +kernel
set_option maxRecDepth 100000 in
theorem dX2_tryAll_56 : decode cX2_tryAll 56 = .ok (.iconst 0, 1) := by decide +kernel
set_option maxRecDepth 100000 in
theorem dX2_tryAll_57 : decode cX2_tryAll 57 = .ok (.iaload, 1) := by decide +kernel
set_option maxRecDepth 100000 in
theorem dX2_tryAll_58 : decode cX2_tryAll 58 = .ok (.iload 5, 2) := by decide +kernel
set_option maxRecDepth 100000 in
theorem dX2_tryAll_60 : decode cX2_tryAll 60 = .ok (.invokevirtual 156, 3) := by decide +kernel
set_option maxRecDepth 100000 in
theorem dX2_tryAll_63 : decode cX2_tryAll 63 = .ok (.iconst 0, 1) := by decide +kernel
set_option maxRecDepth 100000 in
theorem dX2_tryAll_64 : decode cX2_tryAll 64 = .ok (.istore 6, 2) := by decide +kernel
set_option maxRecDepth 100000 in
theorem dX2_tryAll_66 : decode cX2_tryAll 66 = .ok (.iload 6, 2) := by decide +kernel
set_option maxRecDepth 100000 in
theorem dX2_tryAll_68 : decode cX2_tryAll 68 = .ok (.aload_n 0, 1) := by decide +kernel
set_option maxRecDepth 100000 in
theorem dX2_tryAll_69 : decode cX2_tryAll 69 = .ok (.getfield 28, 3) := by decide +kernel
set_option maxRecDepth 100000 in
theorem dX2_tryAll_72 : decode cX2_tryAll 72 = .ok (.iconst 1, 1) := by decide +kernel
set_option maxRecDepth 100000 in
theorem dX2_tryAll_73 : decode cX2_tryAll 73 = .ok (.iaload, 1) := by decide +kernel
set_option maxRecDepth 100000 in
theorem dX2_tryAll_74 : decode cX2_tryAll 74 = .ok (.if_icmp .gt 78, 3) := by decide +kernel
set_option maxRecDepth 100000 in
theorem dX2_tryAll_77 : decode cX2_tryAll 77 = .ok (.aload_n 0, 1) := by decide +kernel
set_option maxRecDepth 100000 in
theorem dX2_tryAll_78 : decode cX2_tryAll 78 = .ok (.aload_n 0, 1) := by decide +kernel
set_option maxRecDepth 100000 in
theorem dX2_tryAll_79 : decode cX2_tryAll 79 = .ok (.getfield 25, 3) := by decide +kernel
set_option maxRecDepth 100000 in
theorem dX2_tryAll_82 : decode cX2_tryAll 82 = .ok (.iconst 1, 1) := by decide +kernel
set_option maxRecDepth 100000 in
theorem dX2_tryAll_83 : decode cX2_tryAll 83 = .ok (.iaload, 1) := by decide +kernel
set_option maxRecDepth 100000 in
theorem dX2_tryAll_84 : decode cX2_tryAll 84 = .ok (.iload 6, 2) := by decide +kernel
set_option maxRecDepth 100000 in
theorem dX2_tryAll_86 : decode cX2_tryAll 86 = .ok (.invokevirtual 156, 3) := by decide +kernel
set_option maxRecDepth 100000 in
theorem dX2_tryAll_89 : decode cX2_tryAll 89 = .ok (.iconst 0, 1) := by decide +kernel
set_option maxRecDepth 100000 in
theorem dX2_tryAll_90 : decode cX2_tryAll 90 = .ok (.istore 7, 2) := by decide +kernel
set_option maxRecDepth 100000 in
theorem dX2_tryAll_92 : decode cX2_tryAll 92 = .ok (.iload 7, 2) := by decide +kernel
set_option maxRecDepth 100000 in
theorem dX2_tryAll_94 : decode cX2_tryAll 94 = .ok (.aload_n 0, 1) := by decide +kernel
set_option maxRecDepth 100000 in
theorem dX2_tryAll_95 : decode cX2_tryAll 95 = .ok (.getfield 28, 3) := by decide +kernel
set_option maxRecDepth 100000 in
theorem dX2_tryAll_98 : decode cX2_tryAll 98 = .ok (.iconst 2, 1) := by decide +kernel
set_option maxRecDepth 100000 in
theorem dX2_tryAll_99 : decode cX2_tryAll 99 = .ok (.iaload, 1) := by decide +kernel
set_option maxRecDepth 100000 in
theorem dX2_tryAll_100 : decode cX2_tryAll 100 = .ok (.if_icmp .gt 46, 3) := by decide +kernel
set_option maxRecDepth 100000 in
theorem dX2_tryAll_103 : decode cX2_tryAll 103 = .ok (.aload_n 0, 1) := by decide +kernel
set_option maxRecDepth 100000 in
theorem dX2_tryAll_104 : decode cX2_tryAll 104 = .ok (.aload_n 0, 1) := by decide +kernel
set_option maxRecDepth 100000 in
theorem dX2_tryAll_105 : decode cX2_tryAll 105 = .ok (.getfield 25, 3) := by decide +kernel
set_option maxRecDepth 100000 in
theorem dX2_tryAll_108 : decode cX2_tryAll 108 = .ok (.iconst 2, 1) := by decide +kernel
set_option maxRecDepth 100000 in
theorem dX2_tryAll_109 : decode cX2_tryAll 109 = .ok (.iaload, 1) := by decide +kernel
set_option maxRecDepth 100000 in
theorem dX2_tryAll_110 : decode cX2_tryAll 110 = .ok (.iload 7, 2) := by decide +kernel
set_option maxRecDepth 100000 in
theorem dX2_tryAll_112 : decode cX2_tryAll 112 = .ok (.invokevirtual 156, 3) := by decide +kernel
set_option maxRecDepth 100000 in
theorem dX2_tryAll_115 : decode cX2_tryAll 115 = .ok (.aload_n 0, 1) := by decide +kernel
set_option maxRecDepth 100000 in
theorem dX2_tryAll_116 : decode cX2_tryAll 116 = .ok (.aload_n 1, 1) := by decide +kernel
set_option maxRecDepth 100000 in
theorem dX2_tryAll_117 : decode cX2_tryAll 117 = .ok (.iload 4, 2) := by decide +kernel
set_option maxRecDepth 100000 in
theorem dX2_tryAll_119 : decode cX2_tryAll 119 = .ok (.aload_n 0, 1) := by decide +kernel
set_option maxRecDepth 100000 in
theorem dX2_tryAll_120 : decode cX2_tryAll 120 = .ok (.getfield 128, 3) := by decide +kernel
set_option maxRecDepth 100000 in
theorem dX2_tryAll_123 : decode cX2_tryAll 123 = .ok (.invokevirtual 145, 3) := by decide +kernel
set_option maxRecDepth 100000 in
theorem dX2_tryAll_126 : decode cX2_tryAll 126 = .ok (.aload_n 0, 1) := by decide +kernel
set_option maxRecDepth 100000 in
theorem dX2_tryAll_127 : decode cX2_tryAll 127 = .ok (.iconst 0, 1) := by decide +kernel
set_option maxRecDepth 100000 in
theorem dX2_tryAll_128 : decode cX2_tryAll 128 = .ok (.putfield 128, 3) := by decide +kernel
set_option maxRecDepth 100000 in
theorem dX2_tryAll_131 : decode cX2_tryAll 131 = .ok (.aload_n 0, 1) := by decide +kernel
set_option maxRecDepth 100000 in
theorem dX2_tryAll_132 : decode cX2_tryAll 132 = .ok (.aload_n 0, 1) := by decide +kernel
set_option maxRecDepth 100000 in
theorem dX2_tryAll_133 : decode cX2_tryAll 133 = .ok (.iload_n 2, 1) := by decide +kernel
set_option maxRecDepth 100000 in
theorem dX2_tryAll_134 : decode cX2_tryAll 134 = .ok (.invokevirtual 149, 3) := by decide +kernel
set_option maxRecDepth 100000 in
theorem dX2_tryAll_137 : decode cX2_tryAll 137 = .ok (.invokevirtual 152, 3) := by decide +kernel
set_option maxRecDepth 100000 in
theorem dX2_tryAll_140 : decode cX2_tryAll 140 = .ok (.iinc 7 1, 3) := by decide +kernel
set_option maxRecDepth 100000 in
theorem dX2_tryAll_143 : decode cX2_tryAll 143 = .ok (.goto (-51), 3) := by decide +kernel
set_option maxRecDepth 100000 in
theorem dX2_tryAll_146 : decode cX2_tryAll 146 = .ok (.iinc 6 1, 3) := by decide +kernel
set_option maxRecDepth 100000 in
theorem dX2_tryAll_149 : decode cX2_tryAll 149 = .ok (.goto (-83), 3) := by decide +kernel
set_option maxRecDepth 100000 in
theorem dX2_tryAll_152 : decode cX2_tryAll 152 = .ok (.iinc 5 1, 3) := by decide +kernel
set_option maxRecDepth 100000 in
theorem dX2_tryAll_155 : decode cX2_tryAll 155 = .ok (.goto (-115), 3) := by decide +kernel
set_option maxRecDepth 100000 in
theorem dX2_tryAll_158 : decode cX2_tryAll 158 = .ok (.return_, 1) := by decide +kernel
set_option maxRecDepth 100000 in
theorem dX2_vary_0 : decode cX2_vary 0 = .ok (.aload_n 0, 1) := by decide +kernel
set_option maxRecDepth 100000 in
theorem dX2_vary_1 : decode cX2_vary 1 = .ok (.getfield 25, 3) := by decide +kernel
set_option maxRecDepth 100000 in
theorem dX2_vary_4 : decode cX2_vary 4 = .ok (.iconst (-1), 1) := by decide +kernel
set_option maxRecDepth 100000 in
theorem dX2_vary_5 : decode cX2_vary 5 = .ok (.invokestatic 163, 3) := by decide +kernel
set_option maxRecDepth 100000 in
theorem dX2_vary_8 : decode cX2_vary 8 = .ok (.aload_n 0, 1) := by decide +kernel
set_option maxRecDepth 100000 in
theorem dX2_vary_9 : decode cX2_vary 9 = .ok (.getfield 28, 3) := by decide +kernel
set_option maxRecDepth 100000 in
theorem dX2_vary_12 : decode cX2_vary 12 = .ok (.iconst 0, 1) := by decide +kernel
set_option maxRecDepth 100000 in
theorem dX2_vary_13 : decode cX2_vary 13 = .ok (.invokestatic 163, 3) := by decide +kernel
set_option maxRecDepth 100000 in
theorem dX2_vary_16 : decode cX2_vary 16 = .ok (.iconst 0, 1) := by decide +kernel
set_option maxRecDepth 100000 in
theorem dX2_vary_17 : decode cX2_vary 17 = .ok (.istore_n 2, 1) := by decide +kernel
set_option maxRecDepth 100000 in
theorem dX2_vary_18 : decode cX2_vary 18 = .ok (.iconst 0, 1) := by decide +kernel
set_option maxRecDepth 100000 in
theorem dX2_vary_19 : decode cX2_vary 19 = .ok (.istore_n 3, 1) := by decide +kernel
set_option maxRecDepth 100000 in
theorem dX2_vary_20 : decode cX2_vary 20 = .ok (.iload_n 3, 1) := by decide +kernel
set_option maxRecDepth 100000 in
theorem dX2_vary_21 : decode cX2_vary 21 = .ok (.aload_n 0, 1) := by decide +kernel
set_option maxRecDepth 100000 in
theorem dX2_vary_22 : decode cX2_vary 22 = .ok (.getfield 21, 3) := by decide +kernel
set_option maxRecDepth 100000 in
theorem dX2_vary_25 : decode cX2_vary 25 = .ok (.arraylength, 1) := by decide +kernel
set_option maxRecDepth 100000 in
theorem dX2_vary_26 : decode cX2_vary 26 = .ok (.if_icmp .ge 58, 3) := by decide +kernel
set_option maxRecDepth 100000 in
theorem dX2_vary_29 : decode cX2_vary 29 = .ok (.iload_n 1, 1) := by decide +kernel
set_option maxRecDepth 100000 in
theorem dX2_vary_30 : decode cX2_vary 30 = .ok (.iload_n 3, 1) := by decide +kernel
set_option maxRecDepth 100000 in
theorem dX2_vary_31 : decode cX2_vary 31 = .ok (.invokestatic 53, 3) := by decide +kernel
set_option maxRecDepth 100000 in
theorem dX2_vary_34 : decode cX2_vary 34 = .ok (.iconst 1, 1) := by decide +kernel
set_option maxRecDepth 100000 in
theorem dX2_vary_35 : decode cX2_vary 35 = .ok (.if_icmp .ne 43, 3) := by decide +kernel
set_option maxRecDepth 100000 in
theorem dX2_vary_38 : decode cX2_vary 38 = .ok (.iload_n 2, 1) := by decide +kernel
set_option maxRecDepth 100000 in
theorem dX2_vary_39 : decode cX2_vary 39 = .ok (.aload_n 0, 1) := by decide +kernel
set_option maxRecDepth 100000 in
theorem dX2_vary_40 : decode cX2_vary 40 = .ok (.getfield 25, 3) := by decide +kernel
set_option maxRecDepth 100000 in
theorem dX2_vary_43 : decode cX2_vary 43 = .ok (.arraylength, 1) := by decide +kernel
set_option maxRecDepth 100000 in
theorem dX2_vary_44 : decode cX2_vary 44 = .ok (.if_icmp .ge 34, 3) := by decide +kernel
set_option maxRecDepth 100000 in
theorem dX2_vary_47 : decode cX2_vary 47 = .ok (.iload_n 2, 1) := by decide +kernel
set_option maxRecDepth 100000 in
theorem dX2_vary_48 : decode cX2_vary 48 = .ok (.aload_n 0, 1) := by decide +kernel
set_option maxRecDepth 100000 in
theorem dX2_vary_49 : decode cX2_vary 49 = .ok (.getfield 28, 3) := by decide +kernel
set_option maxRecDepth 100000 in
theorem dX2_vary_52 : decode cX2_vary 52 = .ok (.arraylength, 1) := by decide +kernel
set_option maxRecDepth 100000 in
theorem dX2_vary_53 : decode cX2_vary 53 = .ok (.if_icmp .ge 25, 3) := by decide +kernel
set_option maxRecDepth 100000 in
theorem dX2_vary_56 : decode cX2_vary 56 = .ok (.aload_n 0, 1) := by decide +kernel
set_option maxRecDepth 100000 in
theorem dX2_vary_57 : decode cX2_vary 57 = .ok (.getfield 25, 3) := by decide +kernel
set_option maxRecDepth 100000 in
theorem dX2_vary_60 : decode cX2_vary 60 = .ok (.iload_n 2, 1) := by decide +kernel
set_option maxRecDepth 100000 in
theorem dX2_vary_61 : decode cX2_vary 61 = .ok (.iload_n 3, 1) := by decide +kernel
set_option maxRecDepth 100000 in
theorem dX2_vary_62 : decode cX2_vary 62 = .ok (.iastore, 1) := by decide +kernel
set_option maxRecDepth 100000 in
theorem dX2_vary_63 : decode cX2_vary 63 = .ok (.aload_n 0, 1) := by decide +kernel
set_option maxRecDepth 100000 in
theorem dX2_vary_64 : decode cX2_vary 64 = .ok (.getfield 28, 3) := by decide +kernel
set_option maxRecDepth 100000 in
theorem dX2_vary_67 : decode cX2_vary 67 = .ok (.iload_n 2, 1) := by decide +kernel
set_option maxRecDepth 100000 in
theorem dX2_vary_68 : decode cX2_vary 68 = .ok (.aload_n 0, 1) := by decide +kernel
set_option maxRecDepth 100000 in
theorem dX2_vary_69 : decode cX2_vary 69 = .ok (.getfield 21, 3) := by decide +kernel
set_option maxRecDepth 100000 in
theorem dX2_vary_72 : decode cX2_vary 72 = .ok (.iload_n 3, 1) := by decide +kernel
set_option maxRecDepth 100000 in
theorem dX2_vary_73 : decode cX2_vary 73 = .ok (.iaload, 1) := by decide +kernel
set_option maxRecDepth 100000 in
theorem dX2_vary_74 : decode cX2_vary 74 = .ok (.iastore, 1) := by decide +kernel
set_option maxRecDepth 100000 in
theorem dX2_vary_75 : decode cX2_vary 75 = .ok (.iinc 2 1, 3) := by decide +kernel
set_option maxRecDepth 100000 in
theorem dX2_vary_78 : decode cX2_vary 78 = .ok (.iinc 3 1, 3) := by decide +kernel
set_option maxRecDepth 100000 in
theorem dX2_vary_81 : decode cX2_vary 81 = .ok (.goto (-61), 3) := by decide +kernel
set_option maxRecDepth 100000 in
theorem dX2_vary_84 : decode cX2_vary 84 = .ok (.return_, 1) := by decide +kernel
set_option maxRecDepth 100000 in
theorem dX2_leastMark_0 : decode cX2_leastMark 0 = .ok (.iload_n 3, 1) := by decide +kernel
set_option maxRecDepth 100000 in
theorem dX2_leastMark_1 : decode cX2_leastMark 1 = .ok (.ifCond .lt 21, 3) := by decide +kernel
set_option maxRecDepth 100000 in
theorem dX2_leastMark_4 : decode cX2_leastMark 4 = .ok (.iload_n 3, 1) := by decide +kernel
set_option maxRecDepth 100000 in
theorem dX2_leastMark_5 : decode cX2_leastMark 5 = .ok (.aload_n 0, 1) := by decide +kernel
set_option maxRecDepth 100000 in
theorem dX2_leastMark_6 : decode cX2_leastMark 6 = .ok (.getfield 21, 3) := by decide +kernel
set_option maxRecDepth 100000 in
theorem dX2_leastMark_9 : decode cX2_leastMark 9 = .ok (.arraylength, 1) := by decide +kernel
set_option maxRecDepth 100000 in
theorem dX2_leastMark_10 : decode cX2_leastMark 10 = .ok (.if_icmp .ge 12, 3) := by decide +kernel
set_option maxRecDepth 100000 in
theorem dX2_leastMark_13 : decode cX2_leastMark 13 = .ok (.aload_n 0, 1) := by decide +kernel
set_option maxRecDepth 100000 in
theorem dX2_leastMark_14 : decode cX2_leastMark 14 = .ok (.getfield 21, 3) := by decide +kernel
set_option maxRecDepth 100000 in
theorem dX2_leastMark_17 : decode cX2_leastMark 17 = .ok (.iload_n 3, 1) := by decide +kernel
set_option maxRecDepth 100000 in
theorem dX2_leastMark_18 : decode cX2_leastMark 18 = .ok (.iaload, 1) := by decide +kernel
set_option maxRecDepth 100000 in
theorem dX2_leastMark_19 : decode cX2_leastMark 19 = .ok (.goto 4, 3) := by decide +kernel
set_option maxRecDepth 100000 in
theorem dX2_leastMark_22 : decode cX2_leastMark 22 = .ok (.iconst (-1), 1) := by decide +kernel
set_option maxRecDepth 100000 in
theorem dX2_leastMark_23 : decode cX2_leastMark 23 = .ok (.istore 5, 2) := by decide +kernel
set_option maxRecDepth 100000 in
theorem dX2_leastMark_25 : decode cX2_leastMark 25 = .ok (.ldc 49, 2) := by decide +kernel
set_option maxRecDepth 100000 in
theorem dX2_leastMark_27 : decode cX2_leastMark 27 = .ok (.istore 6, 2) := by decide +kernel
set_option maxRecDepth 100000 in
theorem dX2_leastMark_29 : decode cX2_leastMark 29 = .ok (.iconst 0, 1) := by decide +kernel
set_option maxRecDepth 100000 in
theorem dX2_leastMark_30 : decode cX2_leastMark 30 = .ok (.istore 7, 2) := by decide +kernel
set_option maxRecDepth 100000 in
theorem dX2_leastMark_32 : decode cX2_leastMark 32 = .ok (.iload 7, 2) := by decide +kernel
set_option maxRecDepth 100000 in
theorem dX2_leastMark_34 : decode cX2_leastMark 34 = .ok (.iload 5, 2) := by decide +kernel
set_option maxRecDepth 100000 in
theorem dX2_leastMark_36 : decode cX2_leastMark 36 = .ok (.if_icmp .gt 49, 3) := by decide +kernel
set_option maxRecDepth 100000 in
theorem dX2_leastMark_39 : decode cX2_leastMark 39 = .ok (.aload_n 0, 1) := by decide +kernel
set_option maxRecDepth 100000 in
theorem dX2_leastMark_40 : decode cX2_leastMark 40 = .ok (.iload_n 3, 1) := by decide +kernel
set_option maxRecDepth 100000 in
theorem dX2_leastMark_41 : decode cX2_leastMark 41 = .ok (.iload 7, 2) := by decide +kernel
set_option maxRecDepth 100000 in
theorem dX2_leastMark_43 : decode cX2_leastMark 43 = .ok (.invokevirtual 156, 3) := by decide +kernel
set_option maxRecDepth 100000 in
theorem dX2_leastMark_46 : decode cX2_leastMark 46 = .ok (.aload_n 0, 1) := by decide +kernel
set_option maxRecDepth 100000 in
theorem dX2_leastMark_47 : decode cX2_leastMark 47 = .ok (.aload_n 1, 1) := by decide +kernel
set_option maxRecDepth 100000 in
theorem dX2_leastMark_48 : decode cX2_leastMark 48 = .ok (.aload_n 1, 1) := by decide +kernel
set_option maxRecDepth 100000 in
theorem dX2_leastMark_49 : decode cX2_leastMark 49 = .ok (.iload_n 2, 1) := by decide +kernel
set_option maxRecDepth 100000 in
theorem dX2_leastMark_50 : decode cX2_leastMark 50 = .ok (.invokevirtual 142, 3) := by decide +kernel
set_option maxRecDepth 100000 in
theorem dX2_leastMark_53 : decode cX2_leastMark 53 = .ok (.iload 6, 2) := by decide +kernel
set_option maxRecDepth 100000 in
theorem dX2_leastMark_55 : decode cX2_leastMark 55 = .ok (.invokevirtual 145, 3) := by decide +kernel
set_option maxRecDepth 100000 in
theorem dX2_leastMark_58 : decode cX2_leastMark 58 = .ok (.iconst 1, 1) := by decide +kernel
set_option maxRecDepth 100000 in
theorem dX2_leastMark_59 : decode cX2_leastMark 59 = .ok (.iload_n 3, 1) := by decide +kernel
set_option maxRecDepth 100000 in
theorem dX2_leastMark_60 : decode cX2_leastMark 60 = .ok (.ishl, 1) := by decide +kernel
set_option maxRecDepth 100000 in
theorem dX2_leastMark_61 : decode cX2_leastMark 61 = .ok (.istore 6, 2) := by decide +kernel
set_option maxRecDepth 100000 in
theorem dX2_leastMark_63 : decode cX2_leastMark 63 = .ok (.aload_n 0, 1) := by decide +kernel
set_option maxRecDepth 100000 in
theorem dX2_leastMark_64 : decode cX2_leastMark 64 = .ok (.iload_n 2, 1) := by decide +kernel
set_option maxRecDepth 100000 in
theorem dX2_leastMark_65 : decode cX2_leastMark 65 = .ok (.invokevirtual 149, 3) := by decide +kernel
set_option maxRecDepth 100000 in
theorem dX2_leastMark_68 : decode cX2_leastMark 68 = .ok (.iload 4, 2) := by decide +kernel
set_option maxRecDepth 100000 in
theorem dX2_leastMark_70 : decode cX2_leastMark 70 = .ok (.invokestatic 169, 3) := by decide +kernel
set_option maxRecDepth 100000 in
theorem dX2_leastMark_73 : decode cX2_leastMark 73 = .ok (.ifCond .eq 6, 3) := by decide +kernel
set_option maxRecDepth 100000 in
theorem dX2_leastMark_76 : decode cX2_leastMark 76 = .ok (.iload 7, 2) := by decide +kernel
set_option maxRecDepth 100000 in
theorem dX2_leastMark_78 : decode cX2_leastMark 78 = .ok (.ireturn, 1) := by decide +kernel
set_option maxRecDepth 100000 in
theorem dX2_leastMark_79 : decode cX2_leastMark 79 = .ok (.iinc 7 1, 3) := by decide +kernel
set_option maxRecDepth 100000 in
theorem dX2_leastMark_82 : decode cX2_leastMark 82 = .ok (.goto (-50), 3) := by decide +kernel
set_option maxRecDepth 100000 in
theorem dX2_leastMark_85 : decode cX2_leastMark 85 = .ok (.iconst (-1), 1) := by decide +kernel
set_option maxRecDepth 100000 in
theorem dX2_leastMark_86 : decode cX2_leastMark 86 = .ok (.ireturn, 1) := by decide +kernel
set_option maxRecDepth 100000 in
theorem dX3_init_0 : decode cX3_init 0 = .ok (.aload_n 0, 1) := by decide +kernel
set_option maxRecDepth 100000 in
theorem dX3_init_1 : decode cX3_init 1 = .ok (.invokespecial 3, 3) := by decide +kernel
set_option maxRecDepth 100000 in
theorem dX3_init_4 : decode cX3_init 4 = .ok (.aload_n 0, 1) := by decide +kernel
set_option maxRecDepth 100000 in
theorem dX3_init_5 : decode cX3_init 5 = .ok (.iconst (-1), 1) := by decide +kernel
set_option maxRecDepth 100000 in
theorem dX3_init_6 : decode cX3_init 6 = .ok (.putfield 9, 3) := by decide +kernel
set_option maxRecDepth 100000 in
theorem dX3_init_9 : decode cX3_init 9 = .ok (.aload_n 0, 1) := by decide +kernel
set_option maxRecDepth 100000 in
theorem dX3_init_10 : decode cX3_init 10 = .ok (.iconst 3, 1) := by decide +kernel
set_option maxRecDepth 100000 in
theorem dX3_init_11 : decode cX3_init 11 = .ok (.newarray .int, 2) := by decide +kernel
set_option maxRecDepth 100000 in
theorem dX3_init_13 : decode cX3_init 13 = .ok (.putfield 15, 3) := by decide +kernel
set_option maxRecDepth 100000 in
theorem dX3_init_16 : decode cX3_init 16 = .ok (.aload_n 0, 1) := by decide +kernel
set_option maxRecDepth 100000 in
theorem dX3_init_17 : decode cX3_init 17 = .ok (.iconst 3, 1) := by decide +kernel
set_option maxRecDepth 100000 in
theorem dX3_init_18 : decode cX3_init 18 = .ok (.newarray .int, 2) := by decide +kernel
set_option maxRecDepth 100000 in
theorem dX3_init_20 : decode cX3_init 20 = .ok (.putfield 19, 3) := by decide +kernel
set_option maxRecDepth 100000 in
theorem dX3_init_23 : decode cX3_init 23 = .ok (.aload_n 0, 1) := by decide +kernel
set_option maxRecDepth 100000 in
theorem dX3_init_24 : decode cX3_init 24 = .ok (.bipush 6, 2) := by decide +kernel
set_option maxRecDepth 100000 in
theorem dX3_init_26 : decode cX3_init 26 = .ok (.newarray .int, 2) := by decide +kernel
set_option maxRecDepth 100000 in
theorem dX3_init_28 : decode cX3_init 28 = .ok (.putfield 22, 3) := by decide +kernel
set_option maxRecDepth 100000 in
theorem dX3_init_31 : decode cX3_init 31 = .ok (.aload_n 0, 1) := by decide +kernel
set_option maxRecDepth 100000 in
theorem dX3_init_32 : decode cX3_init 32 = .ok (.getfield 19, 3) := by decide +kernel
set_option maxRecDepth 100000 in
theorem dX3_init_35 : decode cX3_init 35 = .ok (.iconst (-1), 1) := by decide +kernel
set_option maxRecDepth 100000 in
theorem dX3_init_36 : decode cX3_init 36 = .ok (.invokestatic 25, 3) := by decide +kernel
set_option maxRecDepth 100000 in
theorem dX3_init_39 : decode cX3_init 39 = .ok (.aload_n 0, 1) := by decide +kernel
set_option maxRecDepth 100000 in
theorem dX3_init_40 : decode cX3_init 40 = .ok (.getfield 22, 3) := by decide +kernel
set_option maxRecDepth 100000 in
theorem dX3_init_43 : decode cX3_init 43 = .ok (.iconst (-1), 1) := by decide +kernel
set_option maxRecDepth 100000 in
theorem dX3_init_44 : decode cX3_init 44 = .ok (.invokestatic 25, 3) := by decide +kernel
set_option maxRecDepth 100000 in
theorem dX3_init_47 : decode cX3_init 47 = .ok (.return_, 1) := by decide +kernel
set_option maxRecDepth 100000 in
theorem dX3_latest_0 : decode cX3_latest 0 = .ok (.aload_n 0, 1) := by decide +kernel
set_option maxRecDepth 100000 in
theorem dX3_latest_1 : decode cX3_latest 1 = .ok (.getfield 31, 3) := by decide +kernel
set_option maxRecDepth 100000 in
theorem dX3_latest_4 : decode cX3_latest 4 = .ok (.ifCond .ne 5, 3) := by decide +kernel
set_option maxRecDepth 100000 in
theorem dX3_latest_7 : decode cX3_latest 7 = .ok (.iconst (-1), 1) := by decide +kernel
set_option maxRecDepth 100000 in
theorem dX3_latest_8 : decode cX3_latest 8 = .ok (.ireturn, 1) := by decide +kernel
set_option maxRecDepth 100000 in
theorem dX3_latest_9 : decode cX3_latest 9 = .ok (.iload_n 1, 1) := by decide +kernel
set_option maxRecDepth 100000 in
theorem dX3_latest_10 : decode cX3_latest 10 = .ok (.iconst 2, 1) := by decide +kernel
set_option maxRecDepth 100000 in
theorem dX3_latest_11 : decode cX3_latest 11 = .ok (.if_icmp .ne 12, 3) := by decide +kernel
set_option maxRecDepth 100000 in
theorem dX3_latest_14 : decode cX3_latest 14 = .ok (.aload_n 0, 1) := by decide +kernel
set_option maxRecDepth 100000 in
theorem dX3_latest_15 : decode cX3_latest 15 = .ok (.getfield 31, 3) := by decide +kernel
set_option maxRecDepth 100000 in
theorem dX3_latest_18 : decode cX3_latest 18 = .ok (.iconst 1, 1) := by decide +kernel
set_option maxRecDepth 100000 in
theorem dX3_latest_19 : decode cX3_latest 19 = .ok (.isub, 1) := by decide +kernel
set_option maxRecDepth 100000 in
theorem dX3_latest_20 : decode cX3_latest 20 = .ok (.goto 4, 3) := by decide +kernel
set_option maxRecDepth 100000 in
theorem dX3_latest_23 : decode cX3_latest 23 = .ok (.iconst 0, 1) := by decide +kernel
set_option maxRecDepth 100000 in
theorem dX3_latest_24 : decode cX3_latest 24 = .ok (.ireturn, 1) := by decide +kernel
set_option maxRecDepth 100000 in
theorem dX3_isSlot_0 : decode cX3_isSlot 0 = .ok (.iload_n 1, 1) := by decide +kernel
set_option maxRecDepth 100000 in
theorem dX3_isSlot_1 : decode cX3_isSlot 1 = .ok (.ifCond .lt 30, 3) := by decide +kernel
set_option maxRecDepth 100000 in
theorem dX3_isSlot_4 : decode cX3_isSlot 4 = .ok (.iload_n 1, 1) := by decide +kernel
set_option maxRecDepth 100000 in
theorem dX3_isSlot_5 : decode cX3_isSlot 5 = .ok (.iconst 3, 1) := by decide +kernel
set_option maxRecDepth 100000 in
theorem dX3_isSlot_6 : decode cX3_isSlot 6 = .ok (.if_icmp .ge 25, 3) := by decide +kernel
set_option maxRecDepth 100000 in
theorem dX3_isSlot_9 : decode cX3_isSlot 9 = .ok (.iload_n 1, 1) := by decide +kernel
set_option maxRecDepth 100000 in
theorem dX3_isSlot_10 : decode cX3_isSlot 10 = .ok (.aload_n 0, 1) := by decide +kernel
set_option maxRecDepth 100000 in
theorem dX3_isSlot_11 : decode cX3_isSlot 11 = .ok (.getfield 19, 3) := by decide +kernel
set_option maxRecDepth 100000 in
theorem dX3_isSlot_14 : decode cX3_isSlot 14 = .ok (.arraylength, 1) := by decide +kernel
set_option maxRecDepth 100000 in
theorem dX3_isSlot_15 : decode cX3_isSlot 15 = .ok (.if_icmp .ge 16, 3) := by decide +kernel
set_option maxRecDepth 100000 in
theorem dX3_isSlot_18 : decode cX3_isSlot 18 = .ok (.iload_n 1, 1) := by decide +kernel
set_option maxRecDepth 100000 in
theorem dX3_isSlot_19 : decode cX3_isSlot 19 = .ok (.aload_n 0, 1) := by decide +kernel
set_option maxRecDepth 100000 in
theorem dX3_isSlot_20 : decode cX3_isSlot 20 = .ok (.getfield 15, 3) := by decide +kernel
set_option maxRecDepth 100000 in
theorem dX3_isSlot_23 : decode cX3_isSlot 23 = .ok (.arraylength, 1) := by decide +kernel
set_option maxRecDepth 100000 in
theorem dX3_isSlot_24 : decode cX3_isSlot 24 = .ok (.if_icmp .ge 7, 3) := by decide +kernel
set_option maxRecDepth 100000 in
theorem dX3_isSlot_27 : decode cX3_isSlot 27 = .ok (.iconst 1, 1) := by decide +kernel
set_option maxRecDepth 100000 in
theorem dX3_isSlot_28 : decode cX3_isSlot 28 = .ok (.goto 4, 3) := by decide +kernel
set_option maxRecDepth 100000 in
theorem dX3_isSlot_31 : decode cX3_isSlot 31 = .ok (.iconst 0, 1) := by decide +kernel
set_option maxRecDepth 100000 in
theorem dX3_isSlot_32 : decode cX3_isSlot 32 = .ok (.ireturn, 1) := by decide +kernel
set_option maxRecDepth 100000 in
theorem dX3_tickOf_0 : decode cX3_tickOf 0 = .ok (.iload_n 1, 1) := by decide +kernel
set_option maxRecDepth 100000 in
theorem dX3_tickOf_1 : decode cX3_tickOf 1 = .ok (.ifCond .lt 21, 3) := by decide +kernel
set_option maxRecDepth 100000 in
theorem dX3_tickOf_4 : decode cX3_tickOf 4 = .ok (.iload_n 1, 1) := by decide +kernel
set_option maxRecDepth 100000 in
theorem dX3_tickOf_5 : decode cX3_tickOf 5 = .ok (.aload_n 0, 1) := by decide +kernel
set_option maxRecDepth 100000 in
theorem dX3_tickOf_6 : decode cX3_tickOf 6 = .ok (.getfield 15, 3) := by decide +kernel
set_option maxRecDepth 100000 in
theorem dX3_tickOf_9 : decode cX3_tickOf 9 = .ok (.arraylength, 1) := by decide +kernel
set_option maxRecDepth 100000 in
theorem dX3_tickOf_10 : decode cX3_tickOf 10 = .ok (.if_icmp .ge 12, 3) := by decide +kernel
set_option maxRecDepth 100000 in
theorem dX3_tickOf_13 : decode cX3_tickOf 13 = .ok (.aload_n 0, 1) := by decide +kernel
set_option maxRecDepth 100000 in
theorem dX3_tickOf_14 : decode cX3_tickOf 14 = .ok (.getfield 15, 3) := by decide +kernel
set_option maxRecDepth 100000 in
theorem dX3_tickOf_17 : decode cX3_tickOf 17 = .ok (.iload_n 1, 1) := by decide +kernel
set_option maxRecDepth 100000 in
theorem dX3_tickOf_18 : decode cX3_tickOf 18 = .ok (.iaload, 1) := by decide +kernel
set_option maxRecDepth 100000 in
theorem dX3_tickOf_19 : decode cX3_tickOf 19 = .ok (.goto 4, 3) := by decide +kernel
set_option maxRecDepth 100000 in
theorem dX3_tickOf_22 : decode cX3_tickOf 22 = .ok (.iconst 0, 1) := by decide +kernel
set_option maxRecDepth 100000 in
theorem dX3_tickOf_23 : decode cX3_tickOf 23 = .ok (.ireturn, 1) := by decide +kernel
set_option maxRecDepth 100000 in
theorem dX3_lastMarked_0 : decode cX3_lastMarked 0 = .ok (.aload_n 0, 1) := by decide +kernel
set_option maxRecDepth 100000 in
theorem dX3_lastMarked_1 : decode cX3_lastMarked 1 = .ok (.getfield 19, 3) := by decide +kernel
set_option maxRecDepth 100000 in
theorem dX3_lastMarked_4 : decode cX3_lastMarked 4 = .ok (.arraylength, 1) := by decide +kernel
set_option maxRecDepth 100000 in
theorem dX3_lastMarked_5 : decode cX3_lastMarked 5 = .ok (.iconst 1, 1) := by decide +kernel
set_option maxRecDepth 100000 in
theorem dX3_lastMarked_6 : decode cX3_lastMarked 6 = .ok (.isub, 1) := by decide +kernel
set_option maxRecDepth 100000 in
theorem dX3_lastMarked_7 : decode cX3_lastMarked 7 = .ok (.istore_n 1, 1) := by decide +kernel
set_option maxRecDepth 100000 in
theorem dX3_lastMarked_8 : decode cX3_lastMarked 8 = .ok (.iload_n 1, 1) := by decide +kernel
set_option maxRecDepth 100000 in
theorem dX3_lastMarked_9 : decode cX3_lastMarked 9 = .ok (.ifCond .lt 20, 3) := by decide +kernel
set_option maxRecDepth 100000 in
theorem dX3_lastMarked_12 : decode cX3_lastMarked 12 = .ok (.aload_n 0, 1) := by decide +kernel
set_option maxRecDepth 100000 in
theorem dX3_lastMarked_13 : decode cX3_lastMarked 13 = .ok (.getfield 19, 3) := by decide +kernel
set_option maxRecDepth 100000 in
theorem dX3_lastMarked_16 : decode cX3_lastMarked 16 = .ok (.iload_n 1, 1) := by decide +kernel
set_option maxRecDepth 100000 in
theorem dX3_lastMarked_17 : decode cX3_lastMarked 17 = .ok (.iaload, 1) := by decide +kernel
set_option maxRecDepth 100000 in
theorem dX3_lastMarked_18 : decode cX3_lastMarked 18 = .ok (.ifCond .lt 5, 3) := by decide +kernel
set_option maxRecDepth 100000 in
theorem dX3_lastMarked_21 : decode cX3_lastMarked 21 = .ok (.iload_n 1, 1) := by decide +kernel
set_option maxRecDepth 100000 in
theorem dX3_lastMarked_22 : decode cX3_lastMarked 22 = .ok (.ireturn, 1) := by decide +kernel
set_option maxRecDepth 100000 in
theorem dX3_lastMarked_23 : decode cX3_lastMarked 23 = .ok (.iinc 1 (-1), 3) := by decide +kernel
set_option maxRecDepth 100000 in
theorem dX3_lastMarked_26 : decode cX3_lastMarked 26 = .ok (.goto (-18), 3) := by decide +kernel
set_option maxRecDepth 100000 in
theorem dX3_lastMarked_29 : decode cX3_lastMarked 29 = .ok (.iconst (-1), 1) := by decide +kernel
set_option maxRecDepth 100000 in
theorem dX3_lastMarked_30 : decode cX3_lastMarked 30 = .ok (.ireturn, 1) := by decide +kernel
set_option maxRecDepth 100000 in
theorem dX3_waits_0 : decode cX3_waits 0 = .ok (.aload_n 0, 1) := by decide +kernel
set_option maxRecDepth 100000 in
theorem dX3_waits_1 : decode cX3_waits 1 = .ok (.iload_n 1, 1) := by decide +kernel
set_option maxRecDepth 100000 in
theorem dX3_waits_2 : decode cX3_waits 2 = .ok (.invokevirtual 34, 3) := by decide +kernel
set_option maxRecDepth 100000 in
theorem dX3_waits_5 : decode cX3_waits 5 = .ok (.istore_n 2, 1) := by decide +kernel
set_option maxRecDepth 100000 in
theorem dX3_waits_6 : decode cX3_waits 6 = .ok (.aload_n 0, 1) := by decide +kernel
set_option maxRecDepth 100000 in
theorem dX3_waits_7 : decode cX3_waits 7 = .ok (.iload_n 2, 1) := by decide +kernel
set_option maxRecDepth 100000 in
theorem dX3_waits_8 : decode cX3_waits 8 = .ok (.invokevirtual 38, 3) := by decide +kernel
set_option maxRecDepth 100000 in
theorem dX3_waits_11 : decode cX3_waits 11 = .ok (.ifCond .eq 16, 3) := by decide +kernel
set_option maxRecDepth 100000 in
theorem dX3_waits_14 : decode cX3_waits 14 = .ok (.aload_n 0, 1) := by decide +kernel
set_option maxRecDepth 100000 in
theorem dX3_waits_15 : decode cX3_waits 15 = .ok (.getfield 19, 3) := by decide +kernel
set_option maxRecDepth 100000 in
theorem dX3_waits_18 : decode cX3_waits 18 = .ok (.iload_n 2, 1) := by decide +kernel
set_option maxRecDepth 100000 in
theorem dX3_waits_19 : decode cX3_waits 19 = .ok (.iaload, 1) := by decide +kernel
set_option maxRecDepth 100000 in
theorem dX3_waits_20 : decode cX3_waits 20 = .ok (.ifCond .ge 7, 3) := by decide +kernel
set_option maxRecDepth 100000 in
theorem dX3_waits_23 : decode cX3_waits 23 = .ok (.iconst 1, 1) := by decide +kernel
set_option maxRecDepth 100000 in
theorem dX3_waits_24 : decode cX3_waits 24 = .ok (.goto 4, 3) := by decide +kernel
set_option maxRecDepth 100000 in
theorem dX3_waits_27 : decode cX3_waits 27 = .ok (.iconst 0, 1) := by decide +kernel
set_option maxRecDepth 100000 in
theorem dX3_waits_28 : decode cX3_waits 28 = .ok (.ireturn, 1) := by decide +kernel
set_option maxRecDepth 100000 in
theorem dX3_takesMore_0 : decode cX3_takesMore 0 = .ok (.iload_n 1, 1) := by decide +kernel
set_option maxRecDepth 100000 in
theorem dX3_takesMore_1 : decode cX3_takesMore 1 = .ok (.lookupswitch 62 #[(2, 27), (3, 49)], 27) := by decide +kernel
set_option maxRecDepth 100000 in
theorem dX3_takesMore_28 : decode cX3_takesMore 28 = .ok (.aload_n 0, 1) := by decide +kernel
set_option maxRecDepth 100000 in
theorem dX3_takesMore_29 : decode cX3_takesMore 29 = .ok (.getfield 31, 3) := by decide +kernel
set_option maxRecDepth 100000 in
theorem dX3_takesMore_32 : decode cX3_takesMore 32 = .ok (.iconst 3, 1) := by decide +kernel
set_option maxRecDepth 100000 in
theorem dX3_takesMore_33 : decode cX3_takesMore 33 = .ok (.if_icmp .ge 15, 3) := by decide +kernel
set_option maxRecDepth 100000 in
theorem dX3_takesMore_36 : decode cX3_takesMore 36 = .ok (.aload_n 0, 1) := by decide +kernel
set_option maxRecDepth 100000 in
theorem dX3_takesMore_37 : decode cX3_takesMore 37 = .ok (.iload_n 1, 1) := by decide +kernel
set_option maxRecDepth 100000 in
theorem dX3_takesMore_38 : decode cX3_takesMore 38 = .ok (.invokevirtual 42, 3) := by decide +kernel
set_option maxRecDepth 100000 in
theorem dX3_takesMore_41 : decode cX3_takesMore 41 = .ok (.ifCond .ne 7, 3) := by decide +kernel
set_option maxRecDepth 100000 in
theorem dX3_takesMore_44 : decode cX3_takesMore 44 = .ok (.iconst 1, 1) := by decide +kernel
set_option maxRecDepth 100000 in
theorem dX3_takesMore_45 : decode cX3_takesMore 45 = .ok (.goto 4, 3) := by decide +kernel
set_option maxRecDepth 100000 in
theorem dX3_takesMore_48 : decode cX3_takesMore 48 = .ok (.iconst 0, 1) := by decide +kernel
set_option maxRecDepth 100000 in
theorem dX3_takesMore_49 : decode cX3_takesMore 49 = .ok (.ireturn, 1) := by decide +kernel
set_option maxRecDepth 100000 in
theorem dX3_takesMore_50 : decode cX3_takesMore 50 = .ok (.aload_n 0, 1) := by decide +kernel
set_option maxRecDepth 100000 in
theorem dX3_takesMore_51 : decode cX3_takesMore 51 = .ok (.getfield 31, 3) := by decide +kernel
set_option maxRecDepth 100000 in
theorem dX3_takesMore_54 : decode cX3_takesMore 54 = .ok (.ifCond .ne 7, 3) := by decide +kernel
set_option maxRecDepth 100000 in
theorem dX3_takesMore_57 : decode cX3_takesMore 57 = .ok (.iconst 1, 1) := by decide +kernel
set_option maxRecDepth 100000 in
theorem dX3_takesMore_58 : decode cX3_takesMore 58 = .ok (.goto 4, 3) := by decide +kernel
set_option maxRecDepth 100000 in
theorem dX3_takesMore_61 : decode cX3_takesMore 61 = .ok (.iconst 0, 1) := by decide +kernel
set_option maxRecDepth 100000 in
theorem dX3_takesMore_62 : decode cX3_takesMore 62 = .ok (.ireturn, 1) := by decide +kernel
set_option maxRecDepth 100000 in
theorem dX3_takesMore_63 : decode cX3_takesMore 63 = .ok (.aload_n 0, 1) := by decide +kernel
set_option maxRecDepth 100000 in
theorem dX3_takesMore_64 : decode cX3_takesMore 64 = .ok (.invokevirtual 45, 3) := by decide +kernel
set_option maxRecDepth 100000 in
theorem dX3_takesMore_67 : decode cX3_takesMore 67 = .ok (.ifCond .ge 7, 3) := by decide +kernel
set_option maxRecDepth 100000 in
theorem dX3_takesMore_70 : decode cX3_takesMore 70 = .ok (.iconst 1, 1) := by decide +kernel
set_option maxRecDepth 100000 in
theorem dX3_takesMore_71 : decode cX3_takesMore 71 = .ok (.goto 4, 3) := by decide +kernel
set_option maxRecDepth 100000 in
theorem dX3_takesMore_74 : decode cX3_takesMore 74 = .ok (.iconst 0, 1) := by decide +kernel
set_option maxRecDepth 100000 in
theorem dX3_takesMore_75 : decode cX3_takesMore 75 = .ok (.ireturn, 1) := by decide +kernel
set_option maxRecDepth 100000 in
theorem dX3_add_0 : decode cX3_add 0 = .ok (.aload_n 0, 1) := by decide +kernel
set_option maxRecDepth 100000 in
theorem dX3_add_1 : decode cX3_add 1 = .ok (.dup, 1) := by decide +kernel
set_option maxRecDepth 100000 in
theorem dX3_add_2 : decode cX3_add 2 = .ok (.getfield 31, 3) := by decide +kernel
set_option maxRecDepth 100000 in
theorem dX3_add_5 : decode cX3_add 5 = .ok (.iconst 1, 1) := by decide +kernel
set_option maxRecDepth 100000 in
theorem dX3_add_6 : decode cX3_add 6 = .ok (.iadd, 1) := by decide +kernel
set_option maxRecDepth 100000 in
theorem dX3_add_7 : decode cX3_add 7 = .ok (.putfield 31, 3) := by decide +kernel
set_option maxRecDepth 100000 in
theorem dX3_add_10 : decode cX3_add 10 = .ok (.aload_n 0, 1) := by decide +kernel
set_option maxRecDepth 100000 in
theorem dX3_add_11 : decode cX3_add 11 = .ok (.iload_n 3, 1) := by decide +kernel
set_option maxRecDepth 100000 in
theorem dX3_add_12 : decode cX3_add 12 = .ok (.putfield 9, 3) := by decide +kernel
set_option maxRecDepth 100000 in
theorem dX3_add_15 : decode cX3_add 15 = .ok (.aload_n 0, 1) := by decide +kernel
set_option maxRecDepth 100000 in
theorem dX3_add_16 : decode cX3_add 16 = .ok (.iload_n 1, 1) := by decide +kernel
set_option maxRecDepth 100000 in
theorem dX3_add_17 : decode cX3_add 17 = .ok (.invokevirtual 34, 3) := by decide +kernel
set_option maxRecDepth 100000 in
theorem dX3_add_20 : decode cX3_add 20 = .ok (.istore 4, 2) := by decide +kernel
set_option maxRecDepth 100000 in
theorem dX3_add_22 : decode cX3_add 22 = .ok (.aload_n 0, 1) := by decide +kernel
set_option maxRecDepth 100000 in
theorem dX3_add_23 : decode cX3_add 23 = .ok (.iload 4, 2) := by decide +kernel
set_option maxRecDepth 100000 in
theorem dX3_add_25 : decode cX3_add 25 = .ok (.invokevirtual 38, 3) := by decide +kernel
set_option maxRecDepth 100000 in
theorem dX3_add_28 : decode cX3_add 28 = .ok (.ifCond .eq 11, 3) := by decide +kernel
set_option maxRecDepth 100000 in
theorem dX3_add_31 : decode cX3_add 31 = .ok (.aload_n 0, 1) := by decide +kernel
set_option maxRecDepth 100000 in
theorem dX3_add_32 : decode cX3_add 32 = .ok (.getfield 15, 3) := by decide +kernel
set_option maxRecDepth 100000 in
theorem dX3_add_35 : decode cX3_add 35 = .ok (.iload 4, 2) := by decide +kernel
set_option maxRecDepth 100000 in
theorem dX3_add_37 : decode cX3_add 37 = .ok (.iload_n 2, 1) := by decide +kernel
set_option maxRecDepth 100000 in
theorem dX3_add_38 : decode cX3_add 38 = .ok (.iastore, 1) := by decide +kernel
set_option maxRecDepth 100000 in
theorem dX3_add_39 : decode cX3_add 39 = .ok (.return_, 1) := by decide +kernel
set_option maxRecDepth 100000 in
theorem dX3_put_0 : decode cX3_put 0 = .ok (.aload_n 0, 1) := by decide +kernel
set_option maxRecDepth 100000 in
theorem dX3_put_1 : decode cX3_put 1 = .ok (.iload_n 1, 1) := by decide +kernel
set_option maxRecDepth 100000 in
theorem dX3_put_2 : decode cX3_put 2 = .ok (.invokevirtual 38, 3) := by decide +kernel
set_option maxRecDepth 100000 in
theorem dX3_put_5 : decode cX3_put 5 = .ok (.ifCond .ne 5, 3) := by decide +kernel
set_option maxRecDepth 100000 in
theorem dX3_put_8 : decode cX3_put 8 = .ok (.iconst (-1), 1) := by decide +kernel
set_option maxRecDepth 100000 in
theorem dX3_put_9 : decode cX3_put 9 = .ok (.ireturn, 1) := by decide +kernel
set_option maxRecDepth 100000 in
theorem dX3_put_10 : decode cX3_put 10 = .ok (.aload_n 0, 1) := by decide +kernel
set_option maxRecDepth 100000 in
theorem dX3_put_11 : decode cX3_put 11 = .ok (.getfield 19, 3) := by decide +kernel
set_option maxRecDepth 100000 in
theorem dX3_put_14 : decode cX3_put 14 = .ok (.iload_n 1, 1) := by decide +kernel
set_option maxRecDepth 100000 in
theorem dX3_put_15 : decode cX3_put 15 = .ok (.iaload, 1) := by decide +kernel
set_option maxRecDepth 100000 in
theorem dX3_put_16 : decode cX3_put 16 = .ok (.istore_n 3, 1) := by decide +kernel
set_option maxRecDepth 100000 in
theorem dX3_put_17 : decode cX3_put 17 = .ok (.aload_n 0, 1) := by decide +kernel
set_option maxRecDepth 100000 in
theorem dX3_put_18 : decode cX3_put 18 = .ok (.getfield 19, 3) := by decide +kernel
set_option maxRecDepth 100000 in
theorem dX3_put_21 : decode cX3_put 21 = .ok (.iload_n 1, 1) := by decide +kernel
set_option maxRecDepth 100000 in
theorem dX3_put_22 : decode cX3_put 22 = .ok (.iload_n 2, 1) := by decide +kernel
set_option maxRecDepth 100000 in
theorem dX3_put_23 : decode cX3_put 23 = .ok (.iastore, 1) := by decide +kernel
set_option maxRecDepth 100000 in
theorem dX3_put_24 : decode cX3_put 24 = .ok (.iload_n 3, 1) := by decide +kernel
set_option maxRecDepth 100000 in
theorem dX3_put_25 : decode cX3_put 25 = .ok (.ireturn, 1) := by decide +kernel
set_option maxRecDepth 100000 in
theorem dX3_hasShown_0 : decode cX3_hasShown 0 = .ok (.iload_n 1, 1) := by decide +kernel
set_option maxRecDepth 100000 in
theorem dX3_hasShown_1 : decode cX3_hasShown 1 = .ok (.ifCond .lt 25, 3) := by decide +kernel
set_option maxRecDepth 100000 in
theorem dX3_hasShown_4 : decode cX3_hasShown 4 = .ok (.iload_n 1, 1) := by decide +kernel
set_option maxRecDepth 100000 in
theorem dX3_hasShown_5 : decode cX3_hasShown 5 = .ok (.aload_n 0, 1) := by decide +kernel
set_option maxRecDepth 100000 in
theorem dX3_hasShown_6 : decode cX3_hasShown 6 = .ok (.getfield 22, 3) := by decide +kernel
set_option maxRecDepth 100000 in
theorem dX3_hasShown_9 : decode cX3_hasShown 9 = .ok (.arraylength, 1) := by decide +kernel
set_option maxRecDepth 100000 in
theorem dX3_hasShown_10 : decode cX3_hasShown 10 = .ok (.if_icmp .ge 16, 3) := by decide +kernel
set_option maxRecDepth 100000 in
theorem dX3_hasShown_13 : decode cX3_hasShown 13 = .ok (.aload_n 0, 1) := by decide +kernel
set_option maxRecDepth 100000 in
theorem dX3_hasShown_14 : decode cX3_hasShown 14 = .ok (.getfield 22, 3) := by decide +kernel
set_option maxRecDepth 100000 in
theorem dX3_hasShown_17 : decode cX3_hasShown 17 = .ok (.iload_n 1, 1) := by decide +kernel
set_option maxRecDepth 100000 in
theorem dX3_hasShown_18 : decode cX3_hasShown 18 = .ok (.iaload, 1) := by decide +kernel
set_option maxRecDepth 100000 in
theorem dX3_hasShown_19 : decode cX3_hasShown 19 = .ok (.ifCond .lt 7, 3) := by decide +kernel
set_option maxRecDepth 100000 in
theorem dX3_hasShown_22 : decode cX3_hasShown 22 = .ok (.iconst 1, 1) := by decide +kernel
set_option maxRecDepth 100000 in
theorem dX3_hasShown_23 : decode cX3_hasShown 23 = .ok (.goto 4, 3) := by decide +kernel
set_option maxRecDepth 100000 in
theorem dX3_hasShown_26 : decode cX3_hasShown 26 = .ok (.iconst 0, 1) := by decide +kernel
set_option maxRecDepth 100000 in
theorem dX3_hasShown_27 : decode cX3_hasShown 27 = .ok (.ireturn, 1) := by decide +kernel
set_option maxRecDepth 100000 in
theorem dX3_putShown_0 : decode cX3_putShown 0 = .ok (.iload_n 1, 1) := by decide +kernel
set_option maxRecDepth 100000 in
theorem dX3_putShown_1 : decode cX3_putShown 1 = .ok (.ifCond .lt 19, 3) := by decide +kernel
set_option maxRecDepth 100000 in
theorem dX3_putShown_4 : decode cX3_putShown 4 = .ok (.iload_n 1, 1) := by decide +kernel
set_option maxRecDepth 100000 in
theorem dX3_putShown_5 : decode cX3_putShown 5 = .ok (.aload_n 0, 1) := by decide +kernel
set_option maxRecDepth 100000 in
theorem dX3_putShown_6 : decode cX3_putShown 6 = .ok (.getfield 22, 3) := by decide +kernel
set_option maxRecDepth 100000 in
theorem dX3_putShown_9 : decode cX3_putShown 9 = .ok (.arraylength, 1) := by decide +kernel
set_option maxRecDepth 100000 in
theorem dX3_putShown_10 : decode cX3_putShown 10 = .ok (.if_icmp .ge 10, 3) := by decide +kernel
set_option maxRecDepth 100000 in
theorem dX3_putShown_13 : decode cX3_putShown 13 = .ok (.aload_n 0, 1) := by decide +kernel
set_option maxRecDepth 100000 in
theorem dX3_putShown_14 : decode cX3_putShown 14 = .ok (.getfield 22, 3) := by decide +kernel
set_option maxRecDepth 100000 in
theorem dX3_putShown_17 : decode cX3_putShown 17 = .ok (.iload_n 1, 1) := by decide +kernel
set_option maxRecDepth 100000 in
theorem dX3_putShown_18 : decode cX3_putShown 18 = .ok (.iload_n 2, 1) := by decide +kernel
set_option maxRecDepth 100000 in
theorem dX3_putShown_19 : decode cX3_putShown 19 = .ok (.iastore, 1) := by decide +kernel
set_option maxRecDepth 100000 in
theorem dX3_putShown_20 : decode cX3_putShown 20 = .ok (.aload_n 0, 1) := by decide +kernel
set_option maxRecDepth 100000 in
theorem dX3_putShown_21 : decode cX3_putShown 21 = .ok (.invokevirtual 49, 3) := by decide +kernel
set_option maxRecDepth 100000 in
theorem dX3_putShown_24 : decode cX3_putShown 24 = .ok (.ireturn, 1) := by decide +kernel
set_option maxRecDepth 100000 in
theorem dX3_shownMarks_0 : decode cX3_shownMarks 0 = .ok (.iconst 0, 1) := by decide +kernel
set_option maxRecDepth 100000 in
theorem dX3_shownMarks_1 : decode cX3_shownMarks 1 = .ok (.istore_n 1, 1) := by decide +kernel
set_option maxRecDepth 100000 in
theorem dX3_shownMarks_2 : decode cX3_shownMarks 2 = .ok (.iconst 0, 1) := by decide +kernel
set_option maxRecDepth 100000 in
theorem dX3_shownMarks_3 : decode cX3_shownMarks 3 = .ok (.istore_n 2, 1) := by decide +kernel
set_option maxRecDepth 100000 in
theorem dX3_shownMarks_4 : decode cX3_shownMarks 4 = .ok (.iload_n 2, 1) := by decide +kernel
set_option maxRecDepth 100000 in
theorem dX3_shownMarks_5 : decode cX3_shownMarks 5 = .ok (.aload_n 0, 1) := by decide +kernel
set_option maxRecDepth 100000 in
theorem dX3_shownMarks_6 : decode cX3_shownMarks 6 = .ok (.getfield 22, 3) := by decide +kernel
set_option maxRecDepth 100000 in
theorem dX3_shownMarks_9 : decode cX3_shownMarks 9 = .ok (.arraylength, 1) := by decide +kernel
set_option maxRecDepth 100000 in
theorem dX3_shownMarks_10 : decode cX3_shownMarks 10 = .ok (.if_icmp .ge 21, 3) := by decide +kernel
set_option maxRecDepth 100000 in
theorem dX3_shownMarks_13 : decode cX3_shownMarks 13 = .ok (.aload_n 0, 1) := by decide +kernel
set_option maxRecDepth 100000 in
theorem dX3_shownMarks_14 : decode cX3_shownMarks 14 = .ok (.getfield 22, 3) := by decide +kernel
set_option maxRecDepth 100000 in
theorem dX3_shownMarks_17 : decode cX3_shownMarks 17 = .ok (.iload_n 2, 1) := by decide +kernel
set_option maxRecDepth 100000 in
theorem dX3_shownMarks_18 : decode cX3_shownMarks 18 = .ok (.iaload, 1) := by decide +kernel
set_option maxRecDepth 100000 in
theorem dX3_shownMarks_19 : decode cX3_shownMarks 19 = .ok (.ifCond .lt 6, 3) := by decide +kernel
set_option maxRecDepth 100000 in
theorem dX3_shownMarks_22 : decode cX3_shownMarks 22 = .ok (.iinc 1 1, 3) := by decide +kernel
set_option maxRecDepth 100000 in
theorem dX3_shownMarks_25 : decode cX3_shownMarks 25 = .ok (.iinc 2 1, 3) := by decide +kernel
set_option maxRecDepth 100000 in
theorem dX3_shownMarks_28 : decode cX3_shownMarks 28 = .ok (.goto (-24), 3) := by decide +kernel
set_option maxRecDepth 100000 in
theorem dX3_shownMarks_31 : decode cX3_shownMarks 31 = .ok (.iload_n 1, 1) := by decide +kernel
set_option maxRecDepth 100000 in
theorem dX3_shownMarks_32 : decode cX3_shownMarks 32 = .ok (.ireturn, 1) := by decide +kernel
set_option maxRecDepth 100000 in
theorem dX3_isMarked_0 : decode cX3_isMarked 0 = .ok (.aload_n 0, 1) := by decide +kernel
set_option maxRecDepth 100000 in
theorem dX3_isMarked_1 : decode cX3_isMarked 1 = .ok (.invokevirtual 45, 3) := by decide +kernel
set_option maxRecDepth 100000 in
theorem dX3_isMarked_4 : decode cX3_isMarked 4 = .ok (.ifCond .ge 10, 3) := by decide +kernel
set_option maxRecDepth 100000 in
theorem dX3_isMarked_7 : decode cX3_isMarked 7 = .ok (.aload_n 0, 1) := by decide +kernel
set_option maxRecDepth 100000 in
theorem dX3_isMarked_8 : decode cX3_isMarked 8 = .ok (.invokevirtual 49, 3) := by decide +kernel
set_option maxRecDepth 100000 in
theorem dX3_isMarked_11 : decode cX3_isMarked 11 = .ok (.ifCond .le 7, 3) := by decide +kernel
set_option maxRecDepth 100000 in
theorem dX3_isMarked_14 : decode cX3_isMarked 14 = .ok (.iconst 1, 1) := by decide +kernel
set_option maxRecDepth 100000 in
theorem dX3_isMarked_15 : decode cX3_isMarked 15 = .ok (.goto 4, 3) := by decide +kernel
set_option maxRecDepth 100000 in
theorem dX3_isMarked_18 : decode cX3_isMarked 18 = .ok (.iconst 0, 1) := by decide +kernel
set_option maxRecDepth 100000 in
theorem dX3_isMarked_19 : decode cX3_isMarked 19 = .ok (.ireturn, 1) := by decide +kernel
set_option maxRecDepth 100000 in
theorem dX3_days_0 : decode cX3_days 0 = .ok (.aload_n 0, 1) := by decide +kernel
set_option maxRecDepth 100000 in
theorem dX3_days_1 : decode cX3_days 1 = .ok (.iload_n 2, 1) := by decide +kernel
set_option maxRecDepth 100000 in
theorem dX3_days_2 : decode cX3_days 2 = .ok (.invokevirtual 52, 3) := by decide +kernel
set_option maxRecDepth 100000 in
theorem dX3_days_5 : decode cX3_days 5 = .ok (.aload_n 1, 1) := by decide +kernel
set_option maxRecDepth 100000 in
theorem dX3_days_6 : decode cX3_days 6 = .ok (.getfield 55, 3) := by decide +kernel
set_option maxRecDepth 100000 in
theorem dX3_days_9 : decode cX3_days 9 = .ok (.isub, 1) := by decide +kernel
set_option maxRecDepth 100000 in
theorem dX3_days_10 : decode cX3_days 10 = .ok (.aload_n 0, 1) := by decide +kernel
set_option maxRecDepth 100000 in
theorem dX3_days_11 : decode cX3_days 11 = .ok (.getfield 60, 3) := by decide +kernel
set_option maxRecDepth 100000 in
theorem dX3_days_14 : decode cX3_days 14 = .ok (.isub, 1) := by decide +kernel
set_option maxRecDepth 100000 in
theorem dX3_days_15 : decode cX3_days 15 = .ok (.istore_n 3, 1) := by decide +kernel
set_option maxRecDepth 100000 in
theorem dX3_days_16 : decode cX3_days 16 = .ok (.iload_n 3, 1) := by decide +kernel
set_option maxRecDepth 100000 in
theorem dX3_days_17 : decode cX3_days 17 = .ok (.ifCond .gt 7, 3) := by decide +kernel
set_option maxRecDepth 100000 in
theorem dX3_days_20 : decode cX3_days 20 = .ok (.iconst 0, 1) := by decide +kernel
set_option maxRecDepth 100000 in
theorem dX3_days_21 : decode cX3_days 21 = .ok (.goto 12, 3) := by decide +kernel
set_option maxRecDepth 100000 in
theorem dX3_days_24 : decode cX3_days 24 = .ok (.iload_n 3, 1) := by decide +kernel
set_option maxRecDepth 100000 in
theorem dX3_days_25 : decode cX3_days 25 = .ok (.bipush 24, 2) := by decide +kernel
set_option maxRecDepth 100000 in
theorem dX3_days_27 : decode cX3_days 27 = .ok (.iadd, 1) := by decide +kernel
set_option maxRecDepth 100000 in
theorem dX3_days_28 : decode cX3_days 28 = .ok (.iconst 1, 1) := by decide +kernel
set_option maxRecDepth 100000 in
theorem dX3_days_29 : decode cX3_days 29 = .ok (.isub, 1) := by decide +kernel
set_option maxRecDepth 100000 in
theorem dX3_days_30 : decode cX3_days 30 = .ok (.bipush 24, 2) := by decide +kernel
set_option maxRecDepth 100000 in
theorem dX3_days_32 : decode cX3_days 32 = .ok (.idiv, 1) := by decide +kernel
set_option maxRecDepth 100000 in
theorem dX3_days_33 : decode cX3_days 33 = .ok (.ireturn, 1) := by decide +kernel
set_option maxRecDepth 100000 in
theorem dX3_share_0 : decode cX3_share 0 = .ok (.bipush 100, 2) := by decide +kernel
set_option maxRecDepth 100000 in
theorem dX3_share_2 : decode cX3_share 2 = .ok (.aload_n 1, 1) := by decide +kernel
set_option maxRecDepth 100000 in
theorem dX3_share_3 : decode cX3_share 3 = .ok (.getfield 63, 3) := by decide +kernel
set_option maxRecDepth 100000 in
theorem dX3_share_6 : decode cX3_share 6 = .ok (.aload_n 0, 1) := by decide +kernel
set_option maxRecDepth 100000 in
theorem dX3_share_7 : decode cX3_share 7 = .ok (.aload_n 1, 1) := by decide +kernel
set_option maxRecDepth 100000 in
theorem dX3_share_8 : decode cX3_share 8 = .ok (.iload_n 2, 1) := by decide +kernel
set_option maxRecDepth 100000 in
theorem dX3_share_9 : decode cX3_share 9 = .ok (.invokevirtual 66, 3) := by decide +kernel
set_option maxRecDepth 100000 in
theorem dX3_share_12 : decode cX3_share 12 = .ok (.imul, 1) := by decide +kernel
set_option maxRecDepth 100000 in
theorem dX3_share_13 : decode cX3_share 13 = .ok (.isub, 1) := by decide +kernel
set_option maxRecDepth 100000 in
theorem dX3_share_14 : decode cX3_share 14 = .ok (.istore_n 3, 1) := by decide +kernel
set_option maxRecDepth 100000 in
theorem dX3_share_15 : decode cX3_share 15 = .ok (.iload_n 3, 1) := by decide +kernel
set_option maxRecDepth 100000 in
theorem dX3_share_16 : decode cX3_share 16 = .ok (.ifCond .ge 7, 3) := by decide +kernel
set_option maxRecDepth 100000 in
theorem dX3_share_19 : decode cX3_share 19 = .ok (.iconst 0, 1) := by decide +kernel
set_option maxRecDepth 100000 in
theorem dX3_share_20 : decode cX3_share 20 = .ok (.goto 4, 3) := by decide +kernel
set_option maxRecDepth 100000 in
theorem dX3_share_23 : decode cX3_share 23 = .ok (.iload_n 3, 1) := by decide +kernel
set_option maxRecDepth 100000 in
theorem dX3_share_24 : decode cX3_share 24 = .ok (.ireturn, 1) := by decide +kernel
set_option maxRecDepth 100000 in
theorem dX3_worth_0 : decode cX3_worth 0 = .ok (.aload_n 0, 1) := by decide +kernel
set_option maxRecDepth 100000 in
theorem dX3_worth_1 : decode cX3_worth 1 = .ok (.getfield 70, 3) := by decide +kernel
set_option maxRecDepth 100000 in
theorem dX3_worth_4 : decode cX3_worth 4 = .ok (.ifCond .eq 5, 3) := by decide +kernel
set_option maxRecDepth 100000 in
theorem dX3_worth_7 : decode cX3_worth 7 = .ok (.lconst 0, 1) := by decide +kernel
set_option maxRecDepth 100000 in
theorem dX3_worth_8 : decode cX3_worth 8 = .ok (.lreturn, 1) := by decide +kernel
set_option maxRecDepth 100000 in
theorem dX3_worth_9 : decode cX3_worth 9 = .ok (.aload_n 1, 1) := by decide +kernel
set_option maxRecDepth 100000 in
theorem dX3_worth_10 : decode cX3_worth 10 = .ok (.getfield 76, 3) := by decide +kernel
set_option maxRecDepth 100000 in
theorem dX3_worth_13 : decode cX3_worth 13 = .ok (.iconst 3, 1) := by decide +kernel
set_option maxRecDepth 100000 in
theorem dX3_worth_14 : decode cX3_worth 14 = .ok (.if_icmp .ne 9, 3) := by decide +kernel
set_option maxRecDepth 100000 in
theorem dX3_worth_17 : decode cX3_worth 17 = .ok (.aload_n 0, 1) := by decide +kernel
set_option maxRecDepth 100000 in
theorem dX3_worth_18 : decode cX3_worth 18 = .ok (.aload_n 1, 1) := by decide +kernel
set_option maxRecDepth 100000 in
theorem dX3_worth_19 : decode cX3_worth 19 = .ok (.invokevirtual 79, 3) := by decide +kernel
set_option maxRecDepth 100000 in
theorem dX3_worth_22 : decode cX3_worth 22 = .ok (.lreturn, 1) := by decide +kernel
set_option maxRecDepth 100000 in
theorem dX3_worth_23 : decode cX3_worth 23 = .ok (.iconst 0, 1) := by decide +kernel
set_option maxRecDepth 100000 in
theorem dX3_worth_24 : decode cX3_worth 24 = .ok (.istore_n 2, 1) := by decide +kernel
set_option maxRecDepth 100000 in
theorem dX3_worth_25 : decode cX3_worth 25 = .ok (.iconst 0, 1) := by decide +kernel
set_option maxRecDepth 100000 in
theorem dX3_worth_26 : decode cX3_worth 26 = .ok (.istore_n 3, 1) := by decide +kernel
set_option maxRecDepth 100000 in
theorem dX3_worth_27 : decode cX3_worth 27 = .ok (.iload_n 3, 1) := by decide +kernel
set_option maxRecDepth 100000 in
theorem dX3_worth_28 : decode cX3_worth 28 = .ok (.aload_n 0, 1) := by decide +kernel
set_option maxRecDepth 100000 in
theorem dX3_worth_29 : decode cX3_worth 29 = .ok (.getfield 19, 3) := by decide +kernel
set_option maxRecDepth 100000 in
theorem dX3_worth_32 : decode cX3_worth 32 = .ok (.arraylength, 1) := by decide +kernel
set_option maxRecDepth 100000 in
theorem dX3_worth_33 : decode cX3_worth 33 = .ok (.if_icmp .ge 36, 3) := by decide +kernel
set_option maxRecDepth 100000 in
theorem dX3_worth_36 : decode cX3_worth 36 = .ok (.aload_n 0, 1) := by decide +kernel
set_option maxRecDepth 100000 in
theorem dX3_worth_37 : decode cX3_worth 37 = .ok (.getfield 19, 3) := by decide +kernel
set_option maxRecDepth 100000 in
theorem dX3_worth_40 : decode cX3_worth 40 = .ok (.iload_n 3, 1) := by decide +kernel
set_option maxRecDepth 100000 in
theorem dX3_worth_41 : decode cX3_worth 41 = .ok (.iaload, 1) := by decide +kernel
set_option maxRecDepth 100000 in
theorem dX3_worth_42 : decode cX3_worth 42 = .ok (.ifCond .lt 21, 3) := by decide +kernel
set_option maxRecDepth 100000 in
theorem dX3_worth_45 : decode cX3_worth 45 = .ok (.iload_n 2, 1) := by decide +kernel
set_option maxRecDepth 100000 in
theorem dX3_worth_46 : decode cX3_worth 46 = .ok (.aload_n 0, 1) := by decide +kernel
set_option maxRecDepth 100000 in
theorem dX3_worth_47 : decode cX3_worth 47 = .ok (.getfield 19, 3) := by decide +kernel
set_option maxRecDepth 100000 in
theorem dX3_worth_50 : decode cX3_worth 50 = .ok (.iload_n 3, 1) := by decide +kernel
set_option maxRecDepth 100000 in
theorem dX3_worth_51 : decode cX3_worth 51 = .ok (.iaload, 1) := by decide +kernel
set_option maxRecDepth 100000 in
theorem dX3_worth_52 : decode cX3_worth 52 = .ok (.aload_n 0, 1) := by decide +kernel
set_option maxRecDepth 100000 in
theorem dX3_worth_53 : decode cX3_worth 53 = .ok (.aload_n 1, 1) := by decide +kernel
set_option maxRecDepth 100000 in
theorem dX3_worth_54 : decode cX3_worth 54 = .ok (.iload_n 3, 1) := by decide +kernel
set_option maxRecDepth 100000 in
theorem dX3_worth_55 : decode cX3_worth 55 = .ok (.invokevirtual 83, 3) := by decide +kernel
set_option maxRecDepth 100000 in
theorem dX3_worth_58 : decode cX3_worth 58 = .ok (.imul, 1) := by decide +kernel
set_option maxRecDepth 100000 in
theorem dX3_worth_59 : decode cX3_worth 59 = .ok (.invokestatic 86, 3) := by decide +kernel
set_option maxRecDepth 100000 in
theorem dX3_worth_62 : decode cX3_worth 62 = .ok (.istore_n 2, 1) := by decide +kernel
set_option maxRecDepth 100000 in
theorem dX3_worth_63 : decode cX3_worth 63 = .ok (.iinc 3 1, 3) := by decide +kernel
set_option maxRecDepth 100000 in
theorem dX3_worth_66 : decode cX3_worth 66 = .ok (.goto (-39), 3) := by decide +kernel
set_option maxRecDepth 100000 in
theorem dX3_worth_69 : decode cX3_worth 69 = .ok (.iload_n 2, 1) := by decide +kernel
set_option maxRecDepth 100000 in
theorem dX3_worth_70 : decode cX3_worth 70 = .ok (.i2l, 1) := by decide +kernel
set_option maxRecDepth 100000 in
theorem dX3_worth_71 : decode cX3_worth 71 = .ok (.ldc2_w 92, 3) := by decide +kernel
set_option maxRecDepth 100000 in
theorem dX3_worth_74 : decode cX3_worth 74 = .ok (.invokestatic 94, 3) := by decide +kernel
set_option maxRecDepth 100000 in
theorem dX3_worth_77 : decode cX3_worth 77 = .ok (.lreturn, 1) := by decide +kernel
set_option maxRecDepth 100000 in
theorem dX3_shownWorth_0 : decode cX3_shownWorth 0 = .ok (.aload_n 0, 1) := by decide +kernel
set_option maxRecDepth 100000 in
theorem dX3_shownWorth_1 : decode cX3_shownWorth 1 = .ok (.invokevirtual 49, 3) := by decide +kernel
set_option maxRecDepth 100000 in
theorem dX3_shownWorth_4 : decode cX3_shownWorth 4 = .ok (.istore_n 2, 1) := by decide +kernel
set_option maxRecDepth 100000 in
theorem dX3_shownWorth_5 : decode cX3_shownWorth 5 = .ok (.iload_n 2, 1) := by decide +kernel
set_option maxRecDepth 100000 in
theorem dX3_shownWorth_6 : decode cX3_shownWorth 6 = .ok (.ifCond .ne 5, 3) := by decide +kernel
set_option maxRecDepth 100000 in
theorem dX3_shownWorth_9 : decode cX3_shownWorth 9 = .ok (.lconst 1, 1) := by decide +kernel
set_option maxRecDepth 100000 in
theorem dX3_shownWorth_10 : decode cX3_shownWorth 10 = .ok (.lreturn, 1) := by decide +kernel
set_option maxRecDepth 100000 in
theorem dX3_shownWorth_11 : decode cX3_shownWorth 11 = .ok (.iconst 0, 1) := by decide +kernel
set_option maxRecDepth 100000 in
theorem dX3_shownWorth_12 : decode cX3_shownWorth 12 = .ok (.istore_n 3, 1) := by decide +kernel
set_option maxRecDepth 100000 in
theorem dX3_shownWorth_13 : decode cX3_shownWorth 13 = .ok (.iconst 0, 1) := by decide +kernel
set_option maxRecDepth 100000 in
theorem dX3_shownWorth_14 : decode cX3_shownWorth 14 = .ok (.istore 4, 2) := by decide +kernel
set_option maxRecDepth 100000 in
theorem dX3_shownWorth_16 : decode cX3_shownWorth 16 = .ok (.iload 4, 2) := by decide +kernel
set_option maxRecDepth 100000 in
theorem dX3_shownWorth_18 : decode cX3_shownWorth 18 = .ok (.aload_n 0, 1) := by decide +kernel
set_option maxRecDepth 100000 in
theorem dX3_shownWorth_19 : decode cX3_shownWorth 19 = .ok (.getfield 22, 3) := by decide +kernel
set_option maxRecDepth 100000 in
theorem dX3_shownWorth_22 : decode cX3_shownWorth 22 = .ok (.arraylength, 1) := by decide +kernel
set_option maxRecDepth 100000 in
theorem dX3_shownWorth_23 : decode cX3_shownWorth 23 = .ok (.if_icmp .ge 29, 3) := by decide +kernel
set_option maxRecDepth 100000 in
theorem dX3_shownWorth_26 : decode cX3_shownWorth 26 = .ok (.aload_n 0, 1) := by decide +kernel
set_option maxRecDepth 100000 in
theorem dX3_shownWorth_27 : decode cX3_shownWorth 27 = .ok (.getfield 22, 3) := by decide +kernel
set_option maxRecDepth 100000 in
theorem dX3_shownWorth_30 : decode cX3_shownWorth 30 = .ok (.iload 4, 2) := by decide +kernel
set_option maxRecDepth 100000 in
theorem dX3_shownWorth_32 : decode cX3_shownWorth 32 = .ok (.iaload, 1) := by decide +kernel
set_option maxRecDepth 100000 in
theorem dX3_shownWorth_33 : decode cX3_shownWorth 33 = .ok (.ifCond .lt 13, 3) := by decide +kernel
set_option maxRecDepth 100000 in
theorem dX3_shownWorth_36 : decode cX3_shownWorth 36 = .ok (.iload_n 3, 1) := by decide +kernel
set_option maxRecDepth 100000 in
theorem dX3_shownWorth_37 : decode cX3_shownWorth 37 = .ok (.aload_n 0, 1) := by decide +kernel
set_option maxRecDepth 100000 in
theorem dX3_shownWorth_38 : decode cX3_shownWorth 38 = .ok (.getfield 22, 3) := by decide +kernel
set_option maxRecDepth 100000 in
theorem dX3_shownWorth_41 : decode cX3_shownWorth 41 = .ok (.iload 4, 2) := by decide +kernel
set_option maxRecDepth 100000 in
theorem dX3_shownWorth_43 : decode cX3_shownWorth 43 = .ok (.iaload, 1) := by decide +kernel
set_option maxRecDepth 100000 in
theorem dX3_shownWorth_44 : decode cX3_shownWorth 44 = .ok (.iadd, 1) := by decide +kernel
set_option maxRecDepth 100000 in
theorem dX3_shownWorth_45 : decode cX3_shownWorth 45 = .ok (.istore_n 3, 1) := by decide +kernel
set_option maxRecDepth 100000 in
theorem dX3_shownWorth_46 : decode cX3_shownWorth 46 = .ok (.iinc 4 1, 3) := by decide +kernel
set_option maxRecDepth 100000 in
theorem dX3_shownWorth_49 : decode cX3_shownWorth 49 = .ok (.goto (-33), 3) := by decide +kernel
set_option maxRecDepth 100000 in
theorem dX3_shownWorth_52 : decode cX3_shownWorth 52 = .ok (.iload_n 3, 1) := by decide +kernel
set_option maxRecDepth 100000 in
theorem dX3_shownWorth_53 : decode cX3_shownWorth 53 = .ok (.i2l, 1) := by decide +kernel
set_option maxRecDepth 100000 in
theorem dX3_shownWorth_54 : decode cX3_shownWorth 54 = .ok (.aload_n 0, 1) := by decide +kernel
set_option maxRecDepth 100000 in
theorem dX3_shownWorth_55 : decode cX3_shownWorth 55 = .ok (.aload_n 1, 1) := by decide +kernel
set_option maxRecDepth 100000 in
theorem dX3_shownWorth_56 : decode cX3_shownWorth 56 = .ok (.iconst 0, 1) := by decide +kernel
set_option maxRecDepth 100000 in
theorem dX3_shownWorth_57 : decode cX3_shownWorth 57 = .ok (.invokevirtual 83, 3) := by decide +kernel
set_option maxRecDepth 100000 in
theorem dX3_shownWorth_60 : decode cX3_shownWorth 60 = .ok (.i2l, 1) := by decide +kernel
set_option maxRecDepth 100000 in
theorem dX3_shownWorth_61 : decode cX3_shownWorth 61 = .ok (.lmul, 1) := by decide +kernel
set_option maxRecDepth 100000 in
theorem dX3_shownWorth_62 : decode cX3_shownWorth 62 = .ok (.iload_n 2, 1) := by decide +kernel
set_option maxRecDepth 100000 in
theorem dX3_shownWorth_63 : decode cX3_shownWorth 63 = .ok (.i2l, 1) := by decide +kernel
set_option maxRecDepth 100000 in
theorem dX3_shownWorth_64 : decode cX3_shownWorth 64 = .ok (.ldc2_w 92, 3) := by decide +kernel
set_option maxRecDepth 100000 in
theorem dX3_shownWorth_67 : decode cX3_shownWorth 67 = .ok (.lmul, 1) := by decide +kernel
set_option maxRecDepth 100000 in
theorem dX3_shownWorth_68 : decode cX3_shownWorth 68 = .ok (.invokestatic 94, 3) := by decide +kernel
set_option maxRecDepth 100000 in
theorem dX3_shownWorth_71 : decode cX3_shownWorth 71 = .ok (.lreturn, 1) := by decide +kernel
set_option maxRecDepth 100000 in
theorem dX4_upper_0 : decode cX4_upper 0 = .ok (.lload_n 0, 1) := by decide +kernel
set_option maxRecDepth 100000 in
theorem dX4_upper_1 : decode cX4_upper 1 = .ok (.bipush 32, 2) := by decide +kernel
set_option maxRecDepth 100000 in
theorem dX4_upper_3 : decode cX4_upper 3 = .ok (.lshr, 1) := by decide +kernel
set_option maxRecDepth 100000 in
theorem dX4_upper_4 : decode cX4_upper 4 = .ok (.lreturn, 1) := by decide +kernel
set_option maxRecDepth 100000 in
theorem dX4_lower_0 : decode cX4_lower 0 = .ok (.lload_n 0, 1) := by decide +kernel
set_option maxRecDepth 100000 in
theorem dX4_lower_1 : decode cX4_lower 1 = .ok (.ldc2_w 7, 3) := by decide +kernel
set_option maxRecDepth 100000 in
theorem dX4_lower_4 : decode cX4_lower 4 = .ok (.land, 1) := by decide +kernel
set_option maxRecDepth 100000 in
theorem dX4_lower_5 : decode cX4_lower 5 = .ok (.lreturn, 1) := by decide +kernel
set_option maxRecDepth 100000 in
theorem dX4_isNumber_0 : decode cX4_isNumber 0 = .ok (.lload_n 0, 1) := by decide +kernel
set_option maxRecDepth 100000 in
theorem dX4_isNumber_1 : decode cX4_isNumber 1 = .ok (.ldc2_w 7, 3) := by decide +kernel
set_option maxRecDepth 100000 in
theorem dX4_isNumber_4 : decode cX4_isNumber 4 = .ok (.land, 1) := by decide +kernel
set_option maxRecDepth 100000 in
theorem dX4_isNumber_5 : decode cX4_isNumber 5 = .ok (.lconst 0, 1) := by decide +kernel
set_option maxRecDepth 100000 in
theorem dX4_isNumber_6 : decode cX4_isNumber 6 = .ok (.lcmp, 1) := by decide +kernel
set_option maxRecDepth 100000 in
theorem dX4_isNumber_7 : decode cX4_isNumber 7 = .ok (.ifCond .eq 7, 3) := by decide +kernel
set_option maxRecDepth 100000 in
theorem dX4_isNumber_10 : decode cX4_isNumber 10 = .ok (.iconst 1, 1) := by decide +kernel
set_option maxRecDepth 100000 in
theorem dX4_isNumber_11 : decode cX4_isNumber 11 = .ok (.goto 4, 3) := by decide +kernel
set_option maxRecDepth 100000 in
theorem dX4_isNumber_14 : decode cX4_isNumber 14 = .ok (.iconst 0, 1) := by decide +kernel
set_option maxRecDepth 100000 in
theorem dX4_isNumber_15 : decode cX4_isNumber 15 = .ok (.ireturn, 1) := by decide +kernel
set_option maxRecDepth 100000 in
theorem dX4_whole_0 : decode cX4_whole 0 = .ok (.iload_n 0, 1) := by decide +kernel
set_option maxRecDepth 100000 in
theorem dX4_whole_1 : decode cX4_whole 1 = .ok (.i2l, 1) := by decide +kernel
set_option maxRecDepth 100000 in
theorem dX4_whole_2 : decode cX4_whole 2 = .ok (.bipush 32, 2) := by decide +kernel
set_option maxRecDepth 100000 in
theorem dX4_whole_4 : decode cX4_whole 4 = .ok (.lshl, 1) := by decide +kernel
set_option maxRecDepth 100000 in
theorem dX4_whole_5 : decode cX4_whole 5 = .ok (.lconst 1, 1) := by decide +kernel
set_option maxRecDepth 100000 in
theorem dX4_whole_6 : decode cX4_whole 6 = .ok (.lor, 1) := by decide +kernel
set_option maxRecDepth 100000 in
theorem dX4_whole_7 : decode cX4_whole 7 = .ok (.lreturn, 1) := by decide +kernel
set_option maxRecDepth 100000 in
theorem dX4_of_0 : decode cX4_of 0 = .ok (.lload_n 2, 1) := by decide +kernel
set_option maxRecDepth 100000 in
theorem dX4_of_1 : decode cX4_of 1 = .ok (.lconst 0, 1) := by decide +kernel
set_option maxRecDepth 100000 in
theorem dX4_of_2 : decode cX4_of 2 = .ok (.lcmp, 1) := by decide +kernel
set_option maxRecDepth 100000 in
theorem dX4_of_3 : decode cX4_of 3 = .ok (.ifCond .gt 7, 3) := by decide +kernel
set_option maxRecDepth 100000 in
theorem dX4_of_6 : decode cX4_of 6 = .ok (.ldc2_w 11, 3) := by decide +kernel
set_option maxRecDepth 100000 in
theorem dX4_of_9 : decode cX4_of 9 = .ok (.lreturn, 1) := by decide +kernel
set_option maxRecDepth 100000 in
theorem dX4_of_10 : decode cX4_of 10 = .ok (.lload_n 2, 1) := by decide +kernel
set_option maxRecDepth 100000 in
theorem dX4_of_11 : decode cX4_of 11 = .ok (.lconst 1, 1) := by decide +kernel
set_option maxRecDepth 100000 in
theorem dX4_of_12 : decode cX4_of 12 = .ok (.lcmp, 1) := by decide +kernel
set_option maxRecDepth 100000 in
theorem dX4_of_13 : decode cX4_of 13 = .ok (.ifCond .eq 76, 3) := by decide +kernel
set_option maxRecDepth 100000 in
theorem dX4_of_16 : decode cX4_of 16 = .ok (.lload_n 0, 1) := by decide +kernel
set_option maxRecDepth 100000 in
theorem dX4_of_17 : decode cX4_of 17 = .ok (.lconst 0, 1) := by decide +kernel
set_option maxRecDepth 100000 in
theorem dX4_of_18 : decode cX4_of 18 = .ok (.lcmp, 1) := by decide +kernel
set_option maxRecDepth 100000 in
theorem dX4_of_19 : decode cX4_of 19 = .ok (.ifCond .ge 8, 3) := by decide +kernel
set_option maxRecDepth 100000 in
theorem dX4_of_22 : decode cX4_of 22 = .ok (.lload_n 0, 1) := by decide +kernel
set_option maxRecDepth 100000 in
theorem dX4_of_23 : decode cX4_of 23 = .ok (.lneg, 1) := by decide +kernel
set_option maxRecDepth 100000 in
theorem dX4_of_24 : decode cX4_of 24 = .ok (.goto 4, 3) := by decide +kernel
set_option maxRecDepth 100000 in
theorem dX4_of_27 : decode cX4_of 27 = .ok (.lload_n 0, 1) := by decide +kernel
set_option maxRecDepth 100000 in
theorem dX4_of_28 : decode cX4_of 28 = .ok (.lstore 4, 2) := by decide +kernel
set_option maxRecDepth 100000 in
theorem dX4_of_30 : decode cX4_of 30 = .ok (.lload_n 2, 1) := by decide +kernel
set_option maxRecDepth 100000 in
theorem dX4_of_31 : decode cX4_of 31 = .ok (.lstore 6, 2) := by decide +kernel
set_option maxRecDepth 100000 in
theorem dX4_of_33 : decode cX4_of 33 = .ok (.iconst 0, 1) := by decide +kernel
set_option maxRecDepth 100000 in
theorem dX4_of_34 : decode cX4_of 34 = .ok (.istore 8, 2) := by decide +kernel
set_option maxRecDepth 100000 in
theorem dX4_of_36 : decode cX4_of 36 = .ok (.iload 8, 2) := by decide +kernel
set_option maxRecDepth 100000 in
theorem dX4_of_38 : decode cX4_of 38 = .ok (.sipush 128, 3) := by decide +kernel
set_option maxRecDepth 100000 in
theorem dX4_of_41 : decode cX4_of 41 = .ok (.if_icmp .ge 31, 3) := by decide +kernel
set_option maxRecDepth 100000 in
theorem dX4_of_44 : decode cX4_of 44 = .ok (.lload 4, 2) := by decide +kernel
set_option maxRecDepth 100000 in
theorem dX4_of_46 : decode cX4_of 46 = .ok (.lconst 0, 1) := by decide +kernel
set_option maxRecDepth 100000 in
theorem dX4_of_47 : decode cX4_of 47 = .ok (.lcmp, 1) := by decide +kernel
set_option maxRecDepth 100000 in
theorem dX4_of_48 : decode cX4_of 48 = .ok (.ifCond .eq 24, 3) := by decide +kernel
set_option maxRecDepth 100000 in
theorem dX4_of_51 : decode cX4_of 51 = .ok (.lload 6, 2) := by decide +kernel
set_option maxRecDepth 100000 in
theorem dX4_of_53 : decode cX4_of 53 = .ok (.lload 4, 2) := by decide +kernel
set_option maxRecDepth 100000 in
theorem dX4_of_55 : decode cX4_of 55 = .ok (.lrem, 1) := by decide +kernel
set_option maxRecDepth 100000 in
theorem dX4_of_56 : decode cX4_of 56 = .ok (.lstore 9, 2) := by decide +kernel
set_option maxRecDepth 100000 in
theorem dX4_of_58 : decode cX4_of 58 = .ok (.lload 4, 2) := by decide +kernel
set_option maxRecDepth 100000 in
theorem dX4_of_60 : decode cX4_of 60 = .ok (.lstore 6, 2) := by decide +kernel
set_option maxRecDepth 100000 in
theorem dX4_of_62 : decode cX4_of 62 = .ok (.lload 9, 2) := by decide +kernel
set_option maxRecDepth 100000 in
theorem dX4_of_64 : decode cX4_of 64 = .ok (.lstore 4, 2) := by decide +kernel
set_option maxRecDepth 100000 in
theorem dX4_of_66 : decode cX4_of 66 = .ok (.iinc 8 1, 3) := by decide +kernel
set_option maxRecDepth 100000 in
theorem dX4_of_69 : decode cX4_of 69 = .ok (.goto (-33), 3) := by decide +kernel
set_option maxRecDepth 100000 in
theorem dX4_of_72 : decode cX4_of 72 = .ok (.lload 6, 2) := by decide +kernel
set_option maxRecDepth 100000 in
theorem dX4_of_74 : decode cX4_of 74 = .ok (.lconst 1, 1) := by decide +kernel
set_option maxRecDepth 100000 in
theorem dX4_of_75 : decode cX4_of 75 = .ok (.lcmp, 1) := by decide +kernel
set_option maxRecDepth 100000 in
theorem dX4_of_76 : decode cX4_of 76 = .ok (.ifCond .le 13, 3) := by decide +kernel
set_option maxRecDepth 100000 in
theorem dX4_of_79 : decode cX4_of 79 = .ok (.lload_n 0, 1) := by decide +kernel
set_option maxRecDepth 100000 in
theorem dX4_of_80 : decode cX4_of 80 = .ok (.lload 6, 2) := by decide +kernel
set_option maxRecDepth 100000 in
theorem dX4_of_82 : decode cX4_of 82 = .ok (.ldiv, 1) := by decide +kernel
set_option maxRecDepth 100000 in
theorem dX4_of_83 : decode cX4_of 83 = .ok (.lstore_n 0, 1) := by decide +kernel
set_option maxRecDepth 100000 in
theorem dX4_of_84 : decode cX4_of 84 = .ok (.lload_n 2, 1) := by decide +kernel
set_option maxRecDepth 100000 in
theorem dX4_of_85 : decode cX4_of 85 = .ok (.lload 6, 2) := by decide +kernel
set_option maxRecDepth 100000 in
theorem dX4_of_87 : decode cX4_of 87 = .ok (.ldiv, 1) := by decide +kernel
set_option maxRecDepth 100000 in
theorem dX4_of_88 : decode cX4_of 88 = .ok (.lstore_n 2, 1) := by decide +kernel
set_option maxRecDepth 100000 in
theorem dX4_of_89 : decode cX4_of 89 = .ok (.lload_n 0, 1) := by decide +kernel
set_option maxRecDepth 100000 in
theorem dX4_of_90 : decode cX4_of 90 = .ok (.ldc2_w 13, 3) := by decide +kernel
set_option maxRecDepth 100000 in
theorem dX4_of_93 : decode cX4_of 93 = .ok (.lcmp, 1) := by decide +kernel
set_option maxRecDepth 100000 in
theorem dX4_of_94 : decode cX4_of 94 = .ok (.ifCond .lt 19, 3) := by decide +kernel
set_option maxRecDepth 100000 in
theorem dX4_of_97 : decode cX4_of 97 = .ok (.lload_n 0, 1) := by decide +kernel
set_option maxRecDepth 100000 in
theorem dX4_of_98 : decode cX4_of 98 = .ok (.ldc2_w 15, 3) := by decide +kernel
set_option maxRecDepth 100000 in
theorem dX4_of_101 : decode cX4_of 101 = .ok (.lcmp, 1) := by decide +kernel
set_option maxRecDepth 100000 in
theorem dX4_of_102 : decode cX4_of 102 = .ok (.ifCond .gt 11, 3) := by decide +kernel
set_option maxRecDepth 100000 in
theorem dX4_of_105 : decode cX4_of 105 = .ok (.lload_n 2, 1) := by decide +kernel
set_option maxRecDepth 100000 in
theorem dX4_of_106 : decode cX4_of 106 = .ok (.ldc2_w 15, 3) := by decide +kernel
set_option maxRecDepth 100000 in
theorem dX4_of_109 : decode cX4_of 109 = .ok (.lcmp, 1) := by decide +kernel
set_option maxRecDepth 100000 in
theorem dX4_of_110 : decode cX4_of 110 = .ok (.ifCond .le 7, 3) := by decide +kernel
set_option maxRecDepth 100000 in
theorem dX4_of_113 : decode cX4_of 113 = .ok (.ldc2_w 11, 3) := by decide +kernel
set_option maxRecDepth 100000 in
theorem dX4_of_116 : decode cX4_of 116 = .ok (.lreturn, 1) := by decide +kernel
set_option maxRecDepth 100000 in
theorem dX4_of_117 : decode cX4_of 117 = .ok (.lload_n 0, 1) := by decide +kernel
set_option maxRecDepth 100000 in
theorem dX4_of_118 : decode cX4_of 118 = .ok (.bipush 32, 2) := by decide +kernel
set_option maxRecDepth 100000 in
theorem dX4_of_120 : decode cX4_of 120 = .ok (.lshl, 1) := by decide +kernel
set_option maxRecDepth 100000 in
theorem dX4_of_121 : decode cX4_of 121 = .ok (.lload_n 2, 1) := by decide +kernel
set_option maxRecDepth 100000 in
theorem dX4_of_122 : decode cX4_of 122 = .ok (.lor, 1) := by decide +kernel
set_option maxRecDepth 100000 in
theorem dX4_of_123 : decode cX4_of 123 = .ok (.lreturn, 1) := by decide +kernel
set_option maxRecDepth 100000 in
theorem dX4_plus_0 : decode cX4_plus 0 = .ok (.lload_n 0, 1) := by decide +kernel
set_option maxRecDepth 100000 in
theorem dX4_plus_1 : decode cX4_plus 1 = .ok (.ldc2_w 11, 3) := by decide +kernel
set_option maxRecDepth 100000 in
theorem dX4_plus_4 : decode cX4_plus 4 = .ok (.lcmp, 1) := by decide +kernel
set_option maxRecDepth 100000 in
theorem dX4_plus_5 : decode cX4_plus 5 = .ok (.ifCond .eq 11, 3) := by decide +kernel
set_option maxRecDepth 100000 in
theorem dX4_plus_8 : decode cX4_plus 8 = .ok (.lload_n 2, 1) := by decide +kernel
set_option maxRecDepth 100000 in
theorem dX4_plus_9 : decode cX4_plus 9 = .ok (.ldc2_w 11, 3) := by decide +kernel
set_option maxRecDepth 100000 in
theorem dX4_plus_12 : decode cX4_plus 12 = .ok (.lcmp, 1) := by decide +kernel
set_option maxRecDepth 100000 in
theorem dX4_plus_13 : decode cX4_plus 13 = .ok (.ifCond .ne 7, 3) := by decide +kernel
set_option maxRecDepth 100000 in
theorem dX4_plus_16 : decode cX4_plus 16 = .ok (.ldc2_w 11, 3) := by decide +kernel
set_option maxRecDepth 100000 in
theorem dX4_plus_19 : decode cX4_plus 19 = .ok (.lreturn, 1) := by decide +kernel
set_option maxRecDepth 100000 in
theorem dX4_plus_20 : decode cX4_plus 20 = .ok (.lload_n 0, 1) := by decide +kernel
set_option maxRecDepth 100000 in
theorem dX4_plus_21 : decode cX4_plus 21 = .ok (.lconst 0, 1) := by decide +kernel
set_option maxRecDepth 100000 in
theorem dX4_plus_22 : decode cX4_plus 22 = .ok (.lcmp, 1) := by decide +kernel
set_option maxRecDepth 100000 in
theorem dX4_plus_23 : decode cX4_plus 23 = .ok (.ifCond .ne 5, 3) := by decide +kernel
set_option maxRecDepth 100000 in
theorem dX4_plus_26 : decode cX4_plus 26 = .ok (.lload_n 2, 1) := by decide +kernel
set_option maxRecDepth 100000 in
theorem dX4_plus_27 : decode cX4_plus 27 = .ok (.lreturn, 1) := by decide +kernel
set_option maxRecDepth 100000 in
theorem dX4_plus_28 : decode cX4_plus 28 = .ok (.lload_n 2, 1) := by decide +kernel
set_option maxRecDepth 100000 in
theorem dX4_plus_29 : decode cX4_plus 29 = .ok (.lconst 0, 1) := by decide +kernel
set_option maxRecDepth 100000 in
theorem dX4_plus_30 : decode cX4_plus 30 = .ok (.lcmp, 1) := by decide +kernel
set_option maxRecDepth 100000 in
theorem dX4_plus_31 : decode cX4_plus 31 = .ok (.ifCond .ne 5, 3) := by decide +kernel
set_option maxRecDepth 100000 in
theorem dX4_plus_34 : decode cX4_plus 34 = .ok (.lload_n 0, 1) := by decide +kernel
set_option maxRecDepth 100000 in
theorem dX4_plus_35 : decode cX4_plus 35 = .ok (.lreturn, 1) := by decide +kernel
set_option maxRecDepth 100000 in
theorem dX4_plus_36 : decode cX4_plus 36 = .ok (.lload_n 0, 1) := by decide +kernel
set_option maxRecDepth 100000 in
theorem dX4_plus_37 : decode cX4_plus 37 = .ok (.invokestatic 17, 3) := by decide +kernel
set_option maxRecDepth 100000 in
theorem dX4_plus_40 : decode cX4_plus 40 = .ok (.lload_n 2, 1) := by decide +kernel
set_option maxRecDepth 100000 in
theorem dX4_plus_41 : decode cX4_plus 41 = .ok (.invokestatic 21, 3) := by decide +kernel
set_option maxRecDepth 100000 in
theorem dX4_plus_44 : decode cX4_plus 44 = .ok (.lmul, 1) := by decide +kernel
set_option maxRecDepth 100000 in
theorem dX4_plus_45 : decode cX4_plus 45 = .ok (.lload_n 2, 1) := by decide +kernel
set_option maxRecDepth 100000 in
theorem dX4_plus_46 : decode cX4_plus 46 = .ok (.invokestatic 17, 3) := by decide +kernel
set_option maxRecDepth 100000 in
theorem dX4_plus_49 : decode cX4_plus 49 = .ok (.lload_n 0, 1) := by decide +kernel
set_option maxRecDepth 100000 in
theorem dX4_plus_50 : decode cX4_plus 50 = .ok (.invokestatic 21, 3) := by decide +kernel
set_option maxRecDepth 100000 in
theorem dX4_plus_53 : decode cX4_plus 53 = .ok (.lmul, 1) := by decide +kernel
set_option maxRecDepth 100000 in
theorem dX4_plus_54 : decode cX4_plus 54 = .ok (.ladd, 1) := by decide +kernel
set_option maxRecDepth 100000 in
theorem dX4_plus_55 : decode cX4_plus 55 = .ok (.lload_n 0, 1) := by decide +kernel
set_option maxRecDepth 100000 in
theorem dX4_plus_56 : decode cX4_plus 56 = .ok (.invokestatic 21, 3) := by decide +kernel
set_option maxRecDepth 100000 in
theorem dX4_plus_59 : decode cX4_plus 59 = .ok (.lload_n 2, 1) := by decide +kernel
set_option maxRecDepth 100000 in
theorem dX4_plus_60 : decode cX4_plus 60 = .ok (.invokestatic 21, 3) := by decide +kernel
set_option maxRecDepth 100000 in
theorem dX4_plus_63 : decode cX4_plus 63 = .ok (.lmul, 1) := by decide +kernel
set_option maxRecDepth 100000 in
theorem dX4_plus_64 : decode cX4_plus 64 = .ok (.invokestatic 24, 3) := by decide +kernel
set_option maxRecDepth 100000 in
theorem dX4_plus_67 : decode cX4_plus 67 = .ok (.lreturn, 1) := by decide +kernel
set_option maxRecDepth 100000 in
theorem dX4_negated_0 : decode cX4_negated 0 = .ok (.lload_n 0, 1) := by decide +kernel
set_option maxRecDepth 100000 in
theorem dX4_negated_1 : decode cX4_negated 1 = .ok (.invokestatic 28, 3) := by decide +kernel
set_option maxRecDepth 100000 in
theorem dX4_negated_4 : decode cX4_negated 4 = .ok (.ifCond .eq 19, 3) := by decide +kernel
set_option maxRecDepth 100000 in
theorem dX4_negated_7 : decode cX4_negated 7 = .ok (.lload_n 0, 1) := by decide +kernel
set_option maxRecDepth 100000 in
theorem dX4_negated_8 : decode cX4_negated 8 = .ok (.invokestatic 17, 3) := by decide +kernel
set_option maxRecDepth 100000 in
theorem dX4_negated_11 : decode cX4_negated 11 = .ok (.lneg, 1) := by decide +kernel
set_option maxRecDepth 100000 in
theorem dX4_negated_12 : decode cX4_negated 12 = .ok (.bipush 32, 2) := by decide +kernel
set_option maxRecDepth 100000 in
theorem dX4_negated_14 : decode cX4_negated 14 = .ok (.lshl, 1) := by decide +kernel
set_option maxRecDepth 100000 in
theorem dX4_negated_15 : decode cX4_negated 15 = .ok (.lload_n 0, 1) := by decide +kernel
set_option maxRecDepth 100000 in
theorem dX4_negated_16 : decode cX4_negated 16 = .ok (.invokestatic 21, 3) := by decide +kernel
set_option maxRecDepth 100000 in
theorem dX4_negated_19 : decode cX4_negated 19 = .ok (.lor, 1) := by decide +kernel
set_option maxRecDepth 100000 in
theorem dX4_negated_20 : decode cX4_negated 20 = .ok (.goto 4, 3) := by decide +kernel
set_option maxRecDepth 100000 in
theorem dX4_negated_23 : decode cX4_negated 23 = .ok (.lload_n 0, 1) := by decide +kernel
set_option maxRecDepth 100000 in
theorem dX4_negated_24 : decode cX4_negated 24 = .ok (.lreturn, 1) := by decide +kernel
set_option maxRecDepth 100000 in
theorem dX4_times_0 : decode cX4_times 0 = .ok (.lload_n 0, 1) := by decide +kernel
set_option maxRecDepth 100000 in
theorem dX4_times_1 : decode cX4_times 1 = .ok (.ldc2_w 11, 3) := by decide +kernel
set_option maxRecDepth 100000 in
theorem dX4_times_4 : decode cX4_times 4 = .ok (.lcmp, 1) := by decide +kernel
set_option maxRecDepth 100000 in
theorem dX4_times_5 : decode cX4_times 5 = .ok (.ifCond .eq 11, 3) := by decide +kernel
set_option maxRecDepth 100000 in
theorem dX4_times_8 : decode cX4_times 8 = .ok (.lload_n 2, 1) := by decide +kernel
set_option maxRecDepth 100000 in
theorem dX4_times_9 : decode cX4_times 9 = .ok (.ldc2_w 11, 3) := by decide +kernel
set_option maxRecDepth 100000 in
theorem dX4_times_12 : decode cX4_times 12 = .ok (.lcmp, 1) := by decide +kernel
set_option maxRecDepth 100000 in
theorem dX4_times_13 : decode cX4_times 13 = .ok (.ifCond .ne 7, 3) := by decide +kernel
set_option maxRecDepth 100000 in
theorem dX4_times_16 : decode cX4_times 16 = .ok (.ldc2_w 11, 3) := by decide +kernel
set_option maxRecDepth 100000 in
theorem dX4_times_19 : decode cX4_times 19 = .ok (.lreturn, 1) := by decide +kernel
set_option maxRecDepth 100000 in
theorem dX4_times_20 : decode cX4_times 20 = .ok (.lload_n 0, 1) := by decide +kernel
set_option maxRecDepth 100000 in
theorem dX4_times_21 : decode cX4_times 21 = .ok (.lconst 0, 1) := by decide +kernel
set_option maxRecDepth 100000 in
theorem dX4_times_22 : decode cX4_times 22 = .ok (.lcmp, 1) := by decide +kernel
set_option maxRecDepth 100000 in
theorem dX4_times_23 : decode cX4_times 23 = .ok (.ifCond .eq 9, 3) := by decide +kernel
set_option maxRecDepth 100000 in
theorem dX4_times_26 : decode cX4_times 26 = .ok (.lload_n 2, 1) := by decide +kernel
set_option maxRecDepth 100000 in
theorem dX4_times_27 : decode cX4_times 27 = .ok (.lconst 0, 1) := by decide +kernel
set_option maxRecDepth 100000 in
theorem dX4_times_28 : decode cX4_times 28 = .ok (.lcmp, 1) := by decide +kernel
set_option maxRecDepth 100000 in
theorem dX4_times_29 : decode cX4_times 29 = .ok (.ifCond .ne 5, 3) := by decide +kernel
set_option maxRecDepth 100000 in
theorem dX4_times_32 : decode cX4_times 32 = .ok (.lconst 0, 1) := by decide +kernel
set_option maxRecDepth 100000 in
theorem dX4_times_33 : decode cX4_times 33 = .ok (.lreturn, 1) := by decide +kernel
set_option maxRecDepth 100000 in
theorem dX4_times_34 : decode cX4_times 34 = .ok (.lload_n 0, 1) := by decide +kernel
set_option maxRecDepth 100000 in
theorem dX4_times_35 : decode cX4_times 35 = .ok (.ldc2_w 32, 3) := by decide +kernel
set_option maxRecDepth 100000 in
theorem dX4_times_38 : decode cX4_times 38 = .ok (.lcmp, 1) := by decide +kernel
set_option maxRecDepth 100000 in
theorem dX4_times_39 : decode cX4_times 39 = .ok (.ifCond .ne 7, 3) := by decide +kernel
set_option maxRecDepth 100000 in
theorem dX4_times_42 : decode cX4_times 42 = .ok (.lload_n 0, 1) := by decide +kernel
set_option maxRecDepth 100000 in
theorem dX4_times_43 : decode cX4_times 43 = .ok (.goto 27, 3) := by decide +kernel
set_option maxRecDepth 100000 in
theorem dX4_times_46 : decode cX4_times 46 = .ok (.lload_n 0, 1) := by decide +kernel
set_option maxRecDepth 100000 in
theorem dX4_times_47 : decode cX4_times 47 = .ok (.invokestatic 17, 3) := by decide +kernel
set_option maxRecDepth 100000 in
theorem dX4_times_50 : decode cX4_times 50 = .ok (.lload_n 2, 1) := by decide +kernel
set_option maxRecDepth 100000 in
theorem dX4_times_51 : decode cX4_times 51 = .ok (.invokestatic 17, 3) := by decide +kernel
set_option maxRecDepth 100000 in
theorem dX4_times_54 : decode cX4_times 54 = .ok (.lmul, 1) := by decide +kernel
set_option maxRecDepth 100000 in
theorem dX4_times_55 : decode cX4_times 55 = .ok (.lload_n 0, 1) := by decide +kernel
set_option maxRecDepth 100000 in
theorem dX4_times_56 : decode cX4_times 56 = .ok (.invokestatic 21, 3) := by decide +kernel
set_option maxRecDepth 100000 in
theorem dX4_times_59 : decode cX4_times 59 = .ok (.lload_n 2, 1) := by decide +kernel
set_option maxRecDepth 100000 in
theorem dX4_times_60 : decode cX4_times 60 = .ok (.invokestatic 21, 3) := by decide +kernel
set_option maxRecDepth 100000 in
theorem dX4_times_63 : decode cX4_times 63 = .ok (.lmul, 1) := by decide +kernel
set_option maxRecDepth 100000 in
theorem dX4_times_64 : decode cX4_times 64 = .ok (.invokestatic 24, 3) := by decide +kernel
set_option maxRecDepth 100000 in
theorem dX4_times_67 : decode cX4_times 67 = .ok (.invokestatic 34, 3) := by decide +kernel
set_option maxRecDepth 100000 in
theorem dX4_times_70 : decode cX4_times 70 = .ok (.lreturn, 1) := by decide +kernel
set_option maxRecDepth 100000 in
theorem dX4_over_0 : decode cX4_over 0 = .ok (.lload_n 0, 1) := by decide +kernel
set_option maxRecDepth 100000 in
theorem dX4_over_1 : decode cX4_over 1 = .ok (.invokestatic 28, 3) := by decide +kernel
set_option maxRecDepth 100000 in
theorem dX4_over_4 : decode cX4_over 4 = .ok (.ifCond .eq 23, 3) := by decide +kernel
set_option maxRecDepth 100000 in
theorem dX4_over_7 : decode cX4_over 7 = .ok (.lload_n 0, 1) := by decide +kernel
set_option maxRecDepth 100000 in
theorem dX4_over_8 : decode cX4_over 8 = .ok (.invokestatic 17, 3) := by decide +kernel
set_option maxRecDepth 100000 in
theorem dX4_over_11 : decode cX4_over 11 = .ok (.lload_n 0, 1) := by decide +kernel
set_option maxRecDepth 100000 in
theorem dX4_over_12 : decode cX4_over 12 = .ok (.invokestatic 21, 3) := by decide +kernel
set_option maxRecDepth 100000 in
theorem dX4_over_15 : decode cX4_over 15 = .ok (.iload_n 2, 1) := by decide +kernel
set_option maxRecDepth 100000 in
theorem dX4_over_16 : decode cX4_over 16 = .ok (.i2l, 1) := by decide +kernel
set_option maxRecDepth 100000 in
theorem dX4_over_17 : decode cX4_over 17 = .ok (.lmul, 1) := by decide +kernel
set_option maxRecDepth 100000 in
theorem dX4_over_18 : decode cX4_over 18 = .ok (.invokestatic 24, 3) := by decide +kernel
set_option maxRecDepth 100000 in
theorem dX4_over_21 : decode cX4_over 21 = .ok (.invokestatic 34, 3) := by decide +kernel
set_option maxRecDepth 100000 in
theorem dX4_over_24 : decode cX4_over 24 = .ok (.goto 4, 3) := by decide +kernel
set_option maxRecDepth 100000 in
theorem dX4_over_27 : decode cX4_over 27 = .ok (.lload_n 0, 1) := by decide +kernel
set_option maxRecDepth 100000 in
theorem dX4_over_28 : decode cX4_over 28 = .ok (.lreturn, 1) := by decide +kernel
set_option maxRecDepth 100000 in
theorem dX4_onTheWay_0 : decode cX4_onTheWay 0 = .ok (.lload_n 0, 1) := by decide +kernel
set_option maxRecDepth 100000 in
theorem dX4_onTheWay_1 : decode cX4_onTheWay 1 = .ok (.ldc2_w 11, 3) := by decide +kernel
set_option maxRecDepth 100000 in
theorem dX4_onTheWay_4 : decode cX4_onTheWay 4 = .ok (.lcmp, 1) := by decide +kernel
set_option maxRecDepth 100000 in
theorem dX4_onTheWay_5 : decode cX4_onTheWay 5 = .ok (.ifCond .ne 9, 3) := by decide +kernel
set_option maxRecDepth 100000 in
theorem dX4_onTheWay_8 : decode cX4_onTheWay 8 = .ok (.ldc2_w 32, 3) := by decide +kernel
set_option maxRecDepth 100000 in
theorem dX4_onTheWay_11 : decode cX4_onTheWay 11 = .ok (.goto 4, 3) := by decide +kernel
set_option maxRecDepth 100000 in
theorem dX4_onTheWay_14 : decode cX4_onTheWay 14 = .ok (.lload_n 0, 1) := by decide +kernel
set_option maxRecDepth 100000 in
theorem dX4_onTheWay_15 : decode cX4_onTheWay 15 = .ok (.lreturn, 1) := by decide +kernel
set_option maxRecDepth 100000 in
theorem dX4_ended_0 : decode cX4_ended 0 = .ok (.lload_n 0, 1) := by decide +kernel
set_option maxRecDepth 100000 in
theorem dX4_ended_1 : decode cX4_ended 1 = .ok (.ldc2_w 32, 3) := by decide +kernel
set_option maxRecDepth 100000 in
theorem dX4_ended_4 : decode cX4_ended 4 = .ok (.lcmp, 1) := by decide +kernel
set_option maxRecDepth 100000 in
theorem dX4_ended_5 : decode cX4_ended 5 = .ok (.ifCond .ne 9, 3) := by decide +kernel
set_option maxRecDepth 100000 in
theorem dX4_ended_8 : decode cX4_ended 8 = .ok (.ldc2_w 11, 3) := by decide +kernel
set_option maxRecDepth 100000 in
theorem dX4_ended_11 : decode cX4_ended 11 = .ok (.goto 4, 3) := by decide +kernel
set_option maxRecDepth 100000 in
theorem dX4_ended_14 : decode cX4_ended 14 = .ok (.lload_n 0, 1) := by decide +kernel
set_option maxRecDepth 100000 in
theorem dX4_ended_15 : decode cX4_ended 15 = .ok (.lreturn, 1) := by decide +kernel
set_option maxRecDepth 100000 in
theorem dX4_cap_0 : decode cX4_cap 0 = .ok (.lload_n 0, 1) := by decide +kernel
set_option maxRecDepth 100000 in
theorem dX4_cap_1 : decode cX4_cap 1 = .ok (.iload_n 2, 1) := by decide +kernel
set_option maxRecDepth 100000 in
theorem dX4_cap_2 : decode cX4_cap 2 = .ok (.invokestatic 37, 3) := by decide +kernel
set_option maxRecDepth 100000 in
theorem dX4_cap_5 : decode cX4_cap 5 = .ok (.ifCond .eq 10, 3) := by decide +kernel
set_option maxRecDepth 100000 in
theorem dX4_cap_8 : decode cX4_cap 8 = .ok (.iload_n 2, 1) := by decide +kernel
set_option maxRecDepth 100000 in
theorem dX4_cap_9 : decode cX4_cap 9 = .ok (.invokestatic 41, 3) := by decide +kernel
set_option maxRecDepth 100000 in
theorem dX4_cap_12 : decode cX4_cap 12 = .ok (.goto 4, 3) := by decide +kernel
set_option maxRecDepth 100000 in
theorem dX4_cap_15 : decode cX4_cap 15 = .ok (.lload_n 0, 1) := by decide +kernel
set_option maxRecDepth 100000 in
theorem dX4_cap_16 : decode cX4_cap 16 = .ok (.lreturn, 1) := by decide +kernel
set_option maxRecDepth 100000 in
theorem dX4_pass_0 : decode cX4_pass 0 = .ok (.lload_n 0, 1) := by decide +kernel
set_option maxRecDepth 100000 in
theorem dX4_pass_1 : decode cX4_pass 1 = .ok (.invokestatic 28, 3) := by decide +kernel
set_option maxRecDepth 100000 in
theorem dX4_pass_4 : decode cX4_pass 4 = .ok (.ifCond .eq 22, 3) := by decide +kernel
set_option maxRecDepth 100000 in
theorem dX4_pass_7 : decode cX4_pass 7 = .ok (.lload_n 0, 1) := by decide +kernel
set_option maxRecDepth 100000 in
theorem dX4_pass_8 : decode cX4_pass 8 = .ok (.iload_n 2, 1) := by decide +kernel
set_option maxRecDepth 100000 in
theorem dX4_pass_9 : decode cX4_pass 9 = .ok (.invokestatic 37, 3) := by decide +kernel
set_option maxRecDepth 100000 in
theorem dX4_pass_12 : decode cX4_pass 12 = .ok (.ifCond .eq 7, 3) := by decide +kernel
set_option maxRecDepth 100000 in
theorem dX4_pass_15 : decode cX4_pass 15 = .ok (.iconst 1, 1) := by decide +kernel
set_option maxRecDepth 100000 in
theorem dX4_pass_16 : decode cX4_pass 16 = .ok (.goto 4, 3) := by decide +kernel
set_option maxRecDepth 100000 in
theorem dX4_pass_19 : decode cX4_pass 19 = .ok (.iconst 0, 1) := by decide +kernel
set_option maxRecDepth 100000 in
theorem dX4_pass_20 : decode cX4_pass 20 = .ok (.invokestatic 41, 3) := by decide +kernel
set_option maxRecDepth 100000 in
theorem dX4_pass_23 : decode cX4_pass 23 = .ok (.goto 4, 3) := by decide +kernel
set_option maxRecDepth 100000 in
theorem dX4_pass_26 : decode cX4_pass 26 = .ok (.lload_n 0, 1) := by decide +kernel
set_option maxRecDepth 100000 in
theorem dX4_pass_27 : decode cX4_pass 27 = .ok (.lreturn, 1) := by decide +kernel
set_option maxRecDepth 100000 in
theorem dX4_isLess_0 : decode cX4_isLess 0 = .ok (.lload_n 0, 1) := by decide +kernel
set_option maxRecDepth 100000 in
theorem dX4_isLess_1 : decode cX4_isLess 1 = .ok (.invokestatic 28, 3) := by decide +kernel
set_option maxRecDepth 100000 in
theorem dX4_isLess_4 : decode cX4_isLess 4 = .ok (.ifCond .eq 36, 3) := by decide +kernel
set_option maxRecDepth 100000 in
theorem dX4_isLess_7 : decode cX4_isLess 7 = .ok (.lload_n 2, 1) := by decide +kernel
set_option maxRecDepth 100000 in
theorem dX4_isLess_8 : decode cX4_isLess 8 = .ok (.invokestatic 28, 3) := by decide +kernel
set_option maxRecDepth 100000 in
theorem dX4_isLess_11 : decode cX4_isLess 11 = .ok (.ifCond .eq 29, 3) := by decide +kernel
set_option maxRecDepth 100000 in
theorem dX4_isLess_14 : decode cX4_isLess 14 = .ok (.lload_n 0, 1) := by decide +kernel
set_option maxRecDepth 100000 in
theorem dX4_isLess_15 : decode cX4_isLess 15 = .ok (.invokestatic 17, 3) := by decide +kernel
set_option maxRecDepth 100000 in
theorem dX4_isLess_18 : decode cX4_isLess 18 = .ok (.lload_n 2, 1) := by decide +kernel
set_option maxRecDepth 100000 in
theorem dX4_isLess_19 : decode cX4_isLess 19 = .ok (.invokestatic 21, 3) := by decide +kernel
set_option maxRecDepth 100000 in
theorem dX4_isLess_22 : decode cX4_isLess 22 = .ok (.lmul, 1) := by decide +kernel
set_option maxRecDepth 100000 in
theorem dX4_isLess_23 : decode cX4_isLess 23 = .ok (.lload_n 2, 1) := by decide +kernel
set_option maxRecDepth 100000 in
theorem dX4_isLess_24 : decode cX4_isLess 24 = .ok (.invokestatic 17, 3) := by decide +kernel
set_option maxRecDepth 100000 in
theorem dX4_isLess_27 : decode cX4_isLess 27 = .ok (.lload_n 0, 1) := by decide +kernel
set_option maxRecDepth 100000 in
theorem dX4_isLess_28 : decode cX4_isLess 28 = .ok (.invokestatic 21, 3) := by decide +kernel
set_option maxRecDepth 100000 in
theorem dX4_isLess_31 : decode cX4_isLess 31 = .ok (.lmul, 1) := by decide +kernel
set_option maxRecDepth 100000 in
theorem dX4_isLess_32 : decode cX4_isLess 32 = .ok (.lcmp, 1) := by decide +kernel
set_option maxRecDepth 100000 in
theorem dX4_isLess_33 : decode cX4_isLess 33 = .ok (.ifCond .ge 7, 3) := by decide +kernel
set_option maxRecDepth 100000 in
theorem dX4_isLess_36 : decode cX4_isLess 36 = .ok (.iconst 1, 1) := by decide +kernel
set_option maxRecDepth 100000 in
theorem dX4_isLess_37 : decode cX4_isLess 37 = .ok (.goto 4, 3) := by decide +kernel
set_option maxRecDepth 100000 in
theorem dX4_isLess_40 : decode cX4_isLess 40 = .ok (.iconst 0, 1) := by decide +kernel
set_option maxRecDepth 100000 in
theorem dX4_isLess_41 : decode cX4_isLess 41 = .ok (.ireturn, 1) := by decide +kernel
set_option maxRecDepth 100000 in
theorem dX4_isAtLeast_0 : decode cX4_isAtLeast 0 = .ok (.lload_n 0, 1) := by decide +kernel
set_option maxRecDepth 100000 in
theorem dX4_isAtLeast_1 : decode cX4_isAtLeast 1 = .ok (.invokestatic 28, 3) := by decide +kernel
set_option maxRecDepth 100000 in
theorem dX4_isAtLeast_4 : decode cX4_isAtLeast 4 = .ok (.ifCond .eq 22, 3) := by decide +kernel
set_option maxRecDepth 100000 in
theorem dX4_isAtLeast_7 : decode cX4_isAtLeast 7 = .ok (.lload_n 0, 1) := by decide +kernel
set_option maxRecDepth 100000 in
theorem dX4_isAtLeast_8 : decode cX4_isAtLeast 8 = .ok (.invokestatic 17, 3) := by decide +kernel
set_option maxRecDepth 100000 in
theorem dX4_isAtLeast_11 : decode cX4_isAtLeast 11 = .ok (.iload_n 2, 1) := by decide +kernel
set_option maxRecDepth 100000 in
theorem dX4_isAtLeast_12 : decode cX4_isAtLeast 12 = .ok (.i2l, 1) := by decide +kernel
set_option maxRecDepth 100000 in
theorem dX4_isAtLeast_13 : decode cX4_isAtLeast 13 = .ok (.lload_n 0, 1) := by decide +kernel
set_option maxRecDepth 100000 in
theorem dX4_isAtLeast_14 : decode cX4_isAtLeast 14 = .ok (.invokestatic 21, 3) := by decide +kernel
set_option maxRecDepth 100000 in
theorem dX4_isAtLeast_17 : decode cX4_isAtLeast 17 = .ok (.lmul, 1) := by decide +kernel
set_option maxRecDepth 100000 in
theorem dX4_isAtLeast_18 : decode cX4_isAtLeast 18 = .ok (.lcmp, 1) := by decide +kernel
set_option maxRecDepth 100000 in
theorem dX4_isAtLeast_19 : decode cX4_isAtLeast 19 = .ok (.ifCond .lt 7, 3) := by decide +kernel
set_option maxRecDepth 100000 in
theorem dX4_isAtLeast_22 : decode cX4_isAtLeast 22 = .ok (.iconst 1, 1) := by decide +kernel
set_option maxRecDepth 100000 in
theorem dX4_isAtLeast_23 : decode cX4_isAtLeast 23 = .ok (.goto 4, 3) := by decide +kernel
set_option maxRecDepth 100000 in
theorem dX4_isAtLeast_26 : decode cX4_isAtLeast 26 = .ok (.iconst 0, 1) := by decide +kernel
set_option maxRecDepth 100000 in
theorem dX4_isAtLeast_27 : decode cX4_isAtLeast 27 = .ok (.ireturn, 1) := by decide +kernel
set_option maxRecDepth 100000 in
theorem dX5_init_0 : decode cX5_init 0 = .ok (.aload_n 0, 1) := by decide +kernel
set_option maxRecDepth 100000 in
theorem dX5_init_1 : decode cX5_init 1 = .ok (.invokespecial 3, 3) := by decide +kernel
set_option maxRecDepth 100000 in
theorem dX5_init_4 : decode cX5_init 4 = .ok (.aload_n 0, 1) := by decide +kernel
set_option maxRecDepth 100000 in
theorem dX5_init_5 : decode cX5_init 5 = .ok (.iconst (-1), 1) := by decide +kernel
set_option maxRecDepth 100000 in
theorem dX5_init_6 : decode cX5_init 6 = .ok (.putfield 9, 3) := by decide +kernel
set_option maxRecDepth 100000 in
theorem dX5_init_9 : decode cX5_init 9 = .ok (.return_, 1) := by decide +kernel
set_option maxRecDepth 100000 in
theorem dJ6_bitCount_0f7a4_0 : decode cJ6_bitCount_0f7a4 0 = .ok (.iload_n 0, 1) := by decide +kernel
set_option maxRecDepth 100000 in
theorem dJ6_bitCount_0f7a4_1 : decode cJ6_bitCount_0f7a4 1 = .ok (.iload_n 0, 1) := by decide +kernel
set_option maxRecDepth 100000 in
theorem dJ6_bitCount_0f7a4_2 : decode cJ6_bitCount_0f7a4 2 = .ok (.iconst 1, 1) := by decide +kernel
set_option maxRecDepth 100000 in
theorem dJ6_bitCount_0f7a4_3 : decode cJ6_bitCount_0f7a4 3 = .ok (.iushr, 1) := by decide +kernel
set_option maxRecDepth 100000 in
theorem dJ6_bitCount_0f7a4_4 : decode cJ6_bitCount_0f7a4 4 = .ok (.ldc_w 265, 3) := by decide +kernel
set_option maxRecDepth 100000 in
theorem dJ6_bitCount_0f7a4_7 : decode cJ6_bitCount_0f7a4 7 = .ok (.iand, 1) := by decide +kernel
set_option maxRecDepth 100000 in
theorem dJ6_bitCount_0f7a4_8 : decode cJ6_bitCount_0f7a4 8 = .ok (.isub, 1) := by decide +kernel
set_option maxRecDepth 100000 in
theorem dJ6_bitCount_0f7a4_9 : decode cJ6_bitCount_0f7a4 9 = .ok (.istore_n 0, 1) := by decide +kernel
set_option maxRecDepth 100000 in
theorem dJ6_bitCount_0f7a4_10 : decode cJ6_bitCount_0f7a4 10 = .ok (.iload_n 0, 1) := by decide +kernel
set_option maxRecDepth 100000 in
theorem dJ6_bitCount_0f7a4_11 : decode cJ6_bitCount_0f7a4 11 = .ok (.ldc_w 266, 3) := by decide +kernel
set_option maxRecDepth 100000 in
theorem dJ6_bitCount_0f7a4_14 : decode cJ6_bitCount_0f7a4 14 = .ok (.iand, 1) := by decide +kernel
set_option maxRecDepth 100000 in
theorem dJ6_bitCount_0f7a4_15 : decode cJ6_bitCount_0f7a4 15 = .ok (.iload_n 0, 1) := by decide +kernel
set_option maxRecDepth 100000 in
theorem dJ6_bitCount_0f7a4_16 : decode cJ6_bitCount_0f7a4 16 = .ok (.iconst 2, 1) := by decide +kernel
set_option maxRecDepth 100000 in
theorem dJ6_bitCount_0f7a4_17 : decode cJ6_bitCount_0f7a4 17 = .ok (.iushr, 1) := by decide +kernel
set_option maxRecDepth 100000 in
theorem dJ6_bitCount_0f7a4_18 : decode cJ6_bitCount_0f7a4 18 = .ok (.ldc_w 266, 3) := by decide +kernel
set_option maxRecDepth 100000 in
theorem dJ6_bitCount_0f7a4_21 : decode cJ6_bitCount_0f7a4 21 = .ok (.iand, 1) := by decide +kernel
set_option maxRecDepth 100000 in
theorem dJ6_bitCount_0f7a4_22 : decode cJ6_bitCount_0f7a4 22 = .ok (.iadd, 1) := by decide +kernel
set_option maxRecDepth 100000 in
theorem dJ6_bitCount_0f7a4_23 : decode cJ6_bitCount_0f7a4 23 = .ok (.istore_n 0, 1) := by decide +kernel
set_option maxRecDepth 100000 in
theorem dJ6_bitCount_0f7a4_24 : decode cJ6_bitCount_0f7a4 24 = .ok (.iload_n 0, 1) := by decide +kernel
set_option maxRecDepth 100000 in
theorem dJ6_bitCount_0f7a4_25 : decode cJ6_bitCount_0f7a4 25 = .ok (.iload_n 0, 1) := by decide +kernel
set_option maxRecDepth 100000 in
theorem dJ6_bitCount_0f7a4_26 : decode cJ6_bitCount_0f7a4 26 = .ok (.iconst 4, 1) := by decide +kernel
set_option maxRecDepth 100000 in
theorem dJ6_bitCount_0f7a4_27 : decode cJ6_bitCount_0f7a4 27 = .ok (.iushr, 1) := by decide +kernel
set_option maxRecDepth 100000 in
theorem dJ6_bitCount_0f7a4_28 : decode cJ6_bitCount_0f7a4 28 = .ok (.iadd, 1) := by decide +kernel
set_option maxRecDepth 100000 in
theorem dJ6_bitCount_0f7a4_29 : decode cJ6_bitCount_0f7a4 29 = .ok (.ldc_w 267, 3) := by decide +kernel
set_option maxRecDepth 100000 in
theorem dJ6_bitCount_0f7a4_32 : decode cJ6_bitCount_0f7a4 32 = .ok (.iand, 1) := by decide +kernel
set_option maxRecDepth 100000 in
theorem dJ6_bitCount_0f7a4_33 : decode cJ6_bitCount_0f7a4 33 = .ok (.istore_n 0, 1) := by decide +kernel
set_option maxRecDepth 100000 in
theorem dJ6_bitCount_0f7a4_34 : decode cJ6_bitCount_0f7a4 34 = .ok (.iload_n 0, 1) := by decide +kernel
set_option maxRecDepth 100000 in
theorem dJ6_bitCount_0f7a4_35 : decode cJ6_bitCount_0f7a4 35 = .ok (.iload_n 0, 1) := by decide +kernel
set_option maxRecDepth 100000 in
theorem dJ6_bitCount_0f7a4_36 : decode cJ6_bitCount_0f7a4 36 = .ok (.bipush 8, 2) := by decide +kernel
set_option maxRecDepth 100000 in
theorem dJ6_bitCount_0f7a4_38 : decode cJ6_bitCount_0f7a4 38 = .ok (.iushr, 1) := by decide +kernel
set_option maxRecDepth 100000 in
theorem dJ6_bitCount_0f7a4_39 : decode cJ6_bitCount_0f7a4 39 = .ok (.iadd, 1) := by decide +kernel
set_option maxRecDepth 100000 in
theorem dJ6_bitCount_0f7a4_40 : decode cJ6_bitCount_0f7a4 40 = .ok (.istore_n 0, 1) := by decide +kernel
set_option maxRecDepth 100000 in
theorem dJ6_bitCount_0f7a4_41 : decode cJ6_bitCount_0f7a4 41 = .ok (.iload_n 0, 1) := by decide +kernel
set_option maxRecDepth 100000 in
theorem dJ6_bitCount_0f7a4_42 : decode cJ6_bitCount_0f7a4 42 = .ok (.iload_n 0, 1) := by decide +kernel
set_option maxRecDepth 100000 in
theorem dJ6_bitCount_0f7a4_43 : decode cJ6_bitCount_0f7a4 43 = .ok (.bipush 16, 2) := by decide +kernel
set_option maxRecDepth 100000 in
theorem dJ6_bitCount_0f7a4_45 : decode cJ6_bitCount_0f7a4 45 = .ok (.iushr, 1) := by decide +kernel
set_option maxRecDepth 100000 in
theorem dJ6_bitCount_0f7a4_46 : decode cJ6_bitCount_0f7a4 46 = .ok (.iadd, 1) := by decide +kernel
set_option maxRecDepth 100000 in
theorem dJ6_bitCount_0f7a4_47 : decode cJ6_bitCount_0f7a4 47 = .ok (.istore_n 0, 1) := by decide +kernel
set_option maxRecDepth 100000 in
theorem dJ6_bitCount_0f7a4_48 : decode cJ6_bitCount_0f7a4 48 = .ok (.iload_n 0, 1) := by decide +kernel
set_option maxRecDepth 100000 in
theorem dJ6_bitCount_0f7a4_49 : decode cJ6_bitCount_0f7a4 49 = .ok (.bipush 63, 2) := by decide +kernel
set_option maxRecDepth 100000 in
theorem dJ6_bitCount_0f7a4_51 : decode cJ6_bitCount_0f7a4 51 = .ok (.iand, 1) := by decide +kernel
set_option maxRecDepth 100000 in
theorem dJ6_bitCount_0f7a4_52 : decode cJ6_bitCount_0f7a4 52 = .ok (.ireturn, 1) := by decide +kernel
set_option maxRecDepth 100000 in
theorem dJ9_abs_067f4_0 : decode cJ9_abs_067f4 0 = .ok (.lload_n 0, 1) := by decide +kernel
set_option maxRecDepth 100000 in
theorem dJ9_abs_067f4_1 : decode cJ9_abs_067f4 1 = .ok (.lconst 0, 1) := by decide +kernel
set_option maxRecDepth 100000 in
theorem dJ9_abs_067f4_2 : decode cJ9_abs_067f4 2 = .ok (.lcmp, 1) := by decide +kernel
set_option maxRecDepth 100000 in
theorem dJ9_abs_067f4_3 : decode cJ9_abs_067f4 3 = .ok (.ifCond .ge 8, 3) := by decide +kernel
set_option maxRecDepth 100000 in
theorem dJ9_abs_067f4_6 : decode cJ9_abs_067f4 6 = .ok (.lload_n 0, 1) := by decide +kernel
set_option maxRecDepth 100000 in
theorem dJ9_abs_067f4_7 : decode cJ9_abs_067f4 7 = .ok (.lneg, 1) := by decide +kernel
set_option maxRecDepth 100000 in
theorem dJ9_abs_067f4_8 : decode cJ9_abs_067f4 8 = .ok (.goto 4, 3) := by decide +kernel
set_option maxRecDepth 100000 in
theorem dJ9_abs_067f4_11 : decode cJ9_abs_067f4 11 = .ok (.lload_n 0, 1) := by decide +kernel
set_option maxRecDepth 100000 in
theorem dJ9_abs_067f4_12 : decode cJ9_abs_067f4 12 = .ok (.lreturn, 1) := by decide +kernel
set_option maxRecDepth 100000 in
theorem dJ9_max_7cf53_0 : decode cJ9_max_7cf53 0 = .ok (.iload_n 0, 1) := by decide +kernel
set_option maxRecDepth 100000 in
theorem dJ9_max_7cf53_1 : decode cJ9_max_7cf53 1 = .ok (.iload_n 1, 1) := by decide +kernel
set_option maxRecDepth 100000 in
theorem dJ9_max_7cf53_2 : decode cJ9_max_7cf53 2 = .ok (.if_icmp .lt 7, 3) := by decide +kernel
set_option maxRecDepth 100000 in
theorem dJ9_max_7cf53_5 : decode cJ9_max_7cf53 5 = .ok (.iload_n 0, 1) := by decide +kernel
set_option maxRecDepth 100000 in
theorem dJ9_max_7cf53_6 : decode cJ9_max_7cf53 6 = .ok (.goto 4, 3) := by decide +kernel
set_option maxRecDepth 100000 in
theorem dJ9_max_7cf53_9 : decode cJ9_max_7cf53 9 = .ok (.iload_n 1, 1) := by decide +kernel
set_option maxRecDepth 100000 in
theorem dJ9_max_7cf53_10 : decode cJ9_max_7cf53 10 = .ok (.ireturn, 1) := by decide +kernel
set_option maxRecDepth 100000 in
theorem dJ9_max_f86c9_0 : decode cJ9_max_f86c9 0 = .ok (.lload_n 0, 1) := by decide +kernel
set_option maxRecDepth 100000 in
theorem dJ9_max_f86c9_1 : decode cJ9_max_f86c9 1 = .ok (.lload_n 2, 1) := by decide +kernel
set_option maxRecDepth 100000 in
theorem dJ9_max_f86c9_2 : decode cJ9_max_f86c9 2 = .ok (.lcmp, 1) := by decide +kernel
set_option maxRecDepth 100000 in
theorem dJ9_max_f86c9_3 : decode cJ9_max_f86c9 3 = .ok (.ifCond .lt 7, 3) := by decide +kernel
set_option maxRecDepth 100000 in
theorem dJ9_max_f86c9_6 : decode cJ9_max_f86c9 6 = .ok (.lload_n 0, 1) := by decide +kernel
set_option maxRecDepth 100000 in
theorem dJ9_max_f86c9_7 : decode cJ9_max_f86c9 7 = .ok (.goto 4, 3) := by decide +kernel
set_option maxRecDepth 100000 in
theorem dJ9_max_f86c9_10 : decode cJ9_max_f86c9 10 = .ok (.lload_n 2, 1) := by decide +kernel
set_option maxRecDepth 100000 in
theorem dJ9_max_f86c9_11 : decode cJ9_max_f86c9 11 = .ok (.lreturn, 1) := by decide +kernel
set_option maxRecDepth 100000 in
theorem dJ9_min_7cf53_0 : decode cJ9_min_7cf53 0 = .ok (.iload_n 0, 1) := by decide +kernel
set_option maxRecDepth 100000 in
theorem dJ9_min_7cf53_1 : decode cJ9_min_7cf53 1 = .ok (.iload_n 1, 1) := by decide +kernel
set_option maxRecDepth 100000 in
theorem dJ9_min_7cf53_2 : decode cJ9_min_7cf53 2 = .ok (.if_icmp .gt 7, 3) := by decide +kernel
set_option maxRecDepth 100000 in
theorem dJ9_min_7cf53_5 : decode cJ9_min_7cf53 5 = .ok (.iload_n 0, 1) := by decide +kernel
set_option maxRecDepth 100000 in
theorem dJ9_min_7cf53_6 : decode cJ9_min_7cf53 6 = .ok (.goto 4, 3) := by decide +kernel
set_option maxRecDepth 100000 in
theorem dJ9_min_7cf53_9 : decode cJ9_min_7cf53 9 = .ok (.iload_n 1, 1) := by decide +kernel
set_option maxRecDepth 100000 in
theorem dJ9_min_7cf53_10 : decode cJ9_min_7cf53 10 = .ok (.ireturn, 1) := by decide +kernel
set_option maxRecDepth 100000 in
theorem dJ7_fill_53178_0 : decode cJ7_fill_53178 0 = .ok (.iconst 0, 1) := by decide +kernel
set_option maxRecDepth 100000 in
theorem dJ7_fill_53178_1 : decode cJ7_fill_53178 1 = .ok (.istore_n 2, 1) := by decide +kernel
set_option maxRecDepth 100000 in
theorem dJ7_fill_53178_2 : decode cJ7_fill_53178 2 = .ok (.aload_n 0, 1) := by decide +kernel
set_option maxRecDepth 100000 in
theorem dJ7_fill_53178_3 : decode cJ7_fill_53178 3 = .ok (.arraylength, 1) := by decide +kernel
set_option maxRecDepth 100000 in
theorem dJ7_fill_53178_4 : decode cJ7_fill_53178 4 = .ok (.istore_n 3, 1) := by decide +kernel
set_option maxRecDepth 100000 in
theorem dJ7_fill_53178_5 : decode cJ7_fill_53178 5 = .ok (.iload_n 2, 1) := by decide +kernel
set_option maxRecDepth 100000 in
theorem dJ7_fill_53178_6 : decode cJ7_fill_53178 6 = .ok (.iload_n 3, 1) := by decide +kernel
set_option maxRecDepth 100000 in
theorem dJ7_fill_53178_7 : decode cJ7_fill_53178 7 = .ok (.if_icmp .ge 13, 3) := by decide +kernel
set_option maxRecDepth 100000 in
theorem dJ7_fill_53178_10 : decode cJ7_fill_53178 10 = .ok (.aload_n 0, 1) := by decide +kernel
set_option maxRecDepth 100000 in
theorem dJ7_fill_53178_11 : decode cJ7_fill_53178 11 = .ok (.iload_n 2, 1) := by decide +kernel
set_option maxRecDepth 100000 in
theorem dJ7_fill_53178_12 : decode cJ7_fill_53178 12 = .ok (.iload_n 1, 1) := by decide +kernel
set_option maxRecDepth 100000 in
theorem dJ7_fill_53178_13 : decode cJ7_fill_53178 13 = .ok (.iastore, 1) := by decide +kernel
set_option maxRecDepth 100000 in
theorem dJ7_fill_53178_14 : decode cJ7_fill_53178 14 = .ok (.iinc 2 1, 3) := by decide +kernel
set_option maxRecDepth 100000 in
theorem dJ7_fill_53178_17 : decode cJ7_fill_53178 17 = .ok (.goto (-12), 3) := by decide +kernel
set_option maxRecDepth 100000 in
theorem dJ7_fill_53178_20 : decode cJ7_fill_53178 20 = .ok (.return_, 1) := by decide +kernel
