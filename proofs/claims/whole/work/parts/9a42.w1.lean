section
/-! THE LAW: its instructions -/
theorem dW_0 : decode code 0 = .ok (.new 7, 3) := by decide +kernel
theorem dW_3 : decode code 3 = .ok (.dup, 1) := by decide +kernel
theorem dW_4 : decode code 4 = .ok (.invokespecial 9, 3) := by decide +kernel
theorem dW_7 : decode code 7 = .ok (.astore_n 1, 1) := by decide +kernel
theorem dW_8 : decode code 8 = .ok (.new 10, 3) := by decide +kernel
theorem dW_11 : decode code 11 = .ok (.dup, 1) := by decide +kernel
theorem dW_12 : decode code 12 = .ok (.invokespecial 12, 3) := by decide +kernel
theorem dW_15 : decode code 15 = .ok (.astore_n 2, 1) := by decide +kernel
theorem dW_16 : decode code 16 = .ok (.iconst 0, 1) := by decide +kernel
theorem dW_17 : decode code 17 = .ok (.istore_n 3, 1) := by decide +kernel
theorem dW_18 : decode code 18 = .ok (.iload_n 3, 1) := by decide +kernel
theorem dW_19 : decode code 19 = .ok (.aload_n 0, 1) := by decide +kernel
theorem dW_20 : decode code 20 = .ok (.arraylength, 1) := by decide +kernel
theorem dW_21 : decode code 21 = .ok (.bipush 6, 2) := by decide +kernel
theorem dW_23 : decode code 23 = .ok (.isub, 1) := by decide +kernel
theorem dW_24 : decode code 24 = .ok (.if_icmp .gt 1006, 3) := by decide +kernel
theorem dW_27 : decode code 27 = .ok (.aload_n 0, 1) := by decide +kernel
theorem dW_28 : decode code 28 = .ok (.iload_n 3, 1) := by decide +kernel
theorem dW_29 : decode code 29 = .ok (.iaload, 1) := by decide +kernel
theorem dW_30 : decode code 30 = .ok (.bipush 31, 2) := by decide +kernel
theorem dW_32 : decode code 32 = .ok (.iand, 1) := by decide +kernel
theorem dW_33 : decode code 33 = .ok (.tableswitch 991 0 21 #[103, 116, 149, 202, 245, 304, 327, 390, 439, 462, 495, 538, 571, 604, 647, 690, 743, 786, 829, 872, 915, 968], 103) := by decide +kernel
theorem dW_136 : decode code 136 = .ok (.aload_n 1, 1) := by decide +kernel
theorem dW_137 : decode code 137 = .ok (.invokevirtual 13, 3) := by decide +kernel
theorem dW_140 : decode code 140 = .ok (.aload_n 2, 1) := by decide +kernel
theorem dW_141 : decode code 141 = .ok (.invokevirtual 17, 3) := by decide +kernel
theorem dW_144 : decode code 144 = .ok (.if_icmp .eq 880, 3) := by decide +kernel
theorem dW_147 : decode code 147 = .ok (.iconst 0, 1) := by decide +kernel
theorem dW_148 : decode code 148 = .ok (.ireturn, 1) := by decide +kernel
theorem dW_149 : decode code 149 = .ok (.aload_n 1, 1) := by decide +kernel
theorem dW_150 : decode code 150 = .ok (.aload_n 0, 1) := by decide +kernel
theorem dW_151 : decode code 151 = .ok (.iload_n 3, 1) := by decide +kernel
theorem dW_152 : decode code 152 = .ok (.iconst 1, 1) := by decide +kernel
theorem dW_153 : decode code 153 = .ok (.iadd, 1) := by decide +kernel
theorem dW_154 : decode code 154 = .ok (.iaload, 1) := by decide +kernel
theorem dW_155 : decode code 155 = .ok (.aload_n 0, 1) := by decide +kernel
theorem dW_156 : decode code 156 = .ok (.iload_n 3, 1) := by decide +kernel
theorem dW_157 : decode code 157 = .ok (.iconst 2, 1) := by decide +kernel
theorem dW_158 : decode code 158 = .ok (.iadd, 1) := by decide +kernel
theorem dW_159 : decode code 159 = .ok (.iaload, 1) := by decide +kernel
theorem dW_160 : decode code 160 = .ok (.invokevirtual 18, 3) := by decide +kernel
theorem dW_163 : decode code 163 = .ok (.aload_n 2, 1) := by decide +kernel
theorem dW_164 : decode code 164 = .ok (.aload_n 0, 1) := by decide +kernel
theorem dW_165 : decode code 165 = .ok (.iload_n 3, 1) := by decide +kernel
theorem dW_166 : decode code 166 = .ok (.iconst 1, 1) := by decide +kernel
theorem dW_167 : decode code 167 = .ok (.iadd, 1) := by decide +kernel
theorem dW_168 : decode code 168 = .ok (.iaload, 1) := by decide +kernel
theorem dW_169 : decode code 169 = .ok (.aload_n 0, 1) := by decide +kernel
theorem dW_170 : decode code 170 = .ok (.iload_n 3, 1) := by decide +kernel
theorem dW_171 : decode code 171 = .ok (.iconst 2, 1) := by decide +kernel
theorem dW_172 : decode code 172 = .ok (.iadd, 1) := by decide +kernel
theorem dW_173 : decode code 173 = .ok (.iaload, 1) := by decide +kernel
theorem dW_174 : decode code 174 = .ok (.invokevirtual 22, 3) := by decide +kernel
theorem dW_177 : decode code 177 = .ok (.if_icmp .eq 847, 3) := by decide +kernel
theorem dW_180 : decode code 180 = .ok (.iconst 0, 1) := by decide +kernel
theorem dW_181 : decode code 181 = .ok (.ireturn, 1) := by decide +kernel
theorem dW_182 : decode code 182 = .ok (.aload_n 1, 1) := by decide +kernel
theorem dW_183 : decode code 183 = .ok (.aload_n 0, 1) := by decide +kernel
theorem dW_184 : decode code 184 = .ok (.iload_n 3, 1) := by decide +kernel
theorem dW_185 : decode code 185 = .ok (.iconst 1, 1) := by decide +kernel
theorem dW_186 : decode code 186 = .ok (.iadd, 1) := by decide +kernel
theorem dW_187 : decode code 187 = .ok (.iaload, 1) := by decide +kernel
theorem dW_188 : decode code 188 = .ok (.aload_n 0, 1) := by decide +kernel
theorem dW_189 : decode code 189 = .ok (.iload_n 3, 1) := by decide +kernel
theorem dW_190 : decode code 190 = .ok (.iconst 2, 1) := by decide +kernel
theorem dW_191 : decode code 191 = .ok (.iadd, 1) := by decide +kernel
theorem dW_192 : decode code 192 = .ok (.iaload, 1) := by decide +kernel
theorem dW_193 : decode code 193 = .ok (.aload_n 0, 1) := by decide +kernel
theorem dW_194 : decode code 194 = .ok (.iload_n 3, 1) := by decide +kernel
theorem dW_195 : decode code 195 = .ok (.iconst 3, 1) := by decide +kernel
theorem dW_196 : decode code 196 = .ok (.iadd, 1) := by decide +kernel
theorem dW_197 : decode code 197 = .ok (.iaload, 1) := by decide +kernel
theorem dW_198 : decode code 198 = .ok (.aload_n 0, 1) := by decide +kernel
theorem dW_199 : decode code 199 = .ok (.iload_n 3, 1) := by decide +kernel
theorem dW_200 : decode code 200 = .ok (.iconst 4, 1) := by decide +kernel
theorem dW_201 : decode code 201 = .ok (.iadd, 1) := by decide +kernel
theorem dW_202 : decode code 202 = .ok (.iaload, 1) := by decide +kernel
theorem dW_203 : decode code 203 = .ok (.invokevirtual 23, 3) := by decide +kernel
theorem dW_206 : decode code 206 = .ok (.aload_n 2, 1) := by decide +kernel
theorem dW_207 : decode code 207 = .ok (.aload_n 0, 1) := by decide +kernel
theorem dW_208 : decode code 208 = .ok (.iload_n 3, 1) := by decide +kernel
theorem dW_209 : decode code 209 = .ok (.iconst 1, 1) := by decide +kernel
theorem dW_210 : decode code 210 = .ok (.iadd, 1) := by decide +kernel
theorem dW_211 : decode code 211 = .ok (.iaload, 1) := by decide +kernel
theorem dW_212 : decode code 212 = .ok (.aload_n 0, 1) := by decide +kernel
theorem dW_213 : decode code 213 = .ok (.iload_n 3, 1) := by decide +kernel
theorem dW_214 : decode code 214 = .ok (.iconst 2, 1) := by decide +kernel
theorem dW_215 : decode code 215 = .ok (.iadd, 1) := by decide +kernel
theorem dW_216 : decode code 216 = .ok (.iaload, 1) := by decide +kernel
theorem dW_217 : decode code 217 = .ok (.aload_n 0, 1) := by decide +kernel
theorem dW_218 : decode code 218 = .ok (.iload_n 3, 1) := by decide +kernel
theorem dW_219 : decode code 219 = .ok (.iconst 3, 1) := by decide +kernel
theorem dW_220 : decode code 220 = .ok (.iadd, 1) := by decide +kernel
theorem dW_221 : decode code 221 = .ok (.iaload, 1) := by decide +kernel
theorem dW_222 : decode code 222 = .ok (.aload_n 0, 1) := by decide +kernel
theorem dW_223 : decode code 223 = .ok (.iload_n 3, 1) := by decide +kernel
theorem dW_224 : decode code 224 = .ok (.iconst 4, 1) := by decide +kernel
theorem dW_225 : decode code 225 = .ok (.iadd, 1) := by decide +kernel
theorem dW_226 : decode code 226 = .ok (.iaload, 1) := by decide +kernel
theorem dW_227 : decode code 227 = .ok (.invokevirtual 27, 3) := by decide +kernel
theorem dW_230 : decode code 230 = .ok (.if_icmp .eq 794, 3) := by decide +kernel
theorem dW_233 : decode code 233 = .ok (.iconst 0, 1) := by decide +kernel
theorem dW_234 : decode code 234 = .ok (.ireturn, 1) := by decide +kernel
theorem dW_235 : decode code 235 = .ok (.aload_n 1, 1) := by decide +kernel
theorem dW_236 : decode code 236 = .ok (.aload_n 0, 1) := by decide +kernel
theorem dW_237 : decode code 237 = .ok (.iload_n 3, 1) := by decide +kernel
theorem dW_238 : decode code 238 = .ok (.iconst 1, 1) := by decide +kernel
theorem dW_239 : decode code 239 = .ok (.iadd, 1) := by decide +kernel
theorem dW_240 : decode code 240 = .ok (.iaload, 1) := by decide +kernel
theorem dW_241 : decode code 241 = .ok (.aload_n 0, 1) := by decide +kernel
theorem dW_242 : decode code 242 = .ok (.iload_n 3, 1) := by decide +kernel
theorem dW_243 : decode code 243 = .ok (.iconst 2, 1) := by decide +kernel
theorem dW_244 : decode code 244 = .ok (.iadd, 1) := by decide +kernel
theorem dW_245 : decode code 245 = .ok (.iaload, 1) := by decide +kernel
theorem dW_246 : decode code 246 = .ok (.aload_n 0, 1) := by decide +kernel
theorem dW_247 : decode code 247 = .ok (.iload_n 3, 1) := by decide +kernel
theorem dW_248 : decode code 248 = .ok (.iconst 3, 1) := by decide +kernel
theorem dW_249 : decode code 249 = .ok (.iadd, 1) := by decide +kernel
theorem dW_250 : decode code 250 = .ok (.iaload, 1) := by decide +kernel
theorem dW_251 : decode code 251 = .ok (.invokevirtual 28, 3) := by decide +kernel
theorem dW_254 : decode code 254 = .ok (.aload_n 2, 1) := by decide +kernel
theorem dW_255 : decode code 255 = .ok (.aload_n 0, 1) := by decide +kernel
theorem dW_256 : decode code 256 = .ok (.iload_n 3, 1) := by decide +kernel
theorem dW_257 : decode code 257 = .ok (.iconst 1, 1) := by decide +kernel
theorem dW_258 : decode code 258 = .ok (.iadd, 1) := by decide +kernel
theorem dW_259 : decode code 259 = .ok (.iaload, 1) := by decide +kernel
theorem dW_260 : decode code 260 = .ok (.aload_n 0, 1) := by decide +kernel
theorem dW_261 : decode code 261 = .ok (.iload_n 3, 1) := by decide +kernel
theorem dW_262 : decode code 262 = .ok (.iconst 2, 1) := by decide +kernel
theorem dW_263 : decode code 263 = .ok (.iadd, 1) := by decide +kernel
theorem dW_264 : decode code 264 = .ok (.iaload, 1) := by decide +kernel
theorem dW_265 : decode code 265 = .ok (.aload_n 0, 1) := by decide +kernel
theorem dW_266 : decode code 266 = .ok (.iload_n 3, 1) := by decide +kernel
theorem dW_267 : decode code 267 = .ok (.iconst 3, 1) := by decide +kernel
theorem dW_268 : decode code 268 = .ok (.iadd, 1) := by decide +kernel
theorem dW_269 : decode code 269 = .ok (.iaload, 1) := by decide +kernel
theorem dW_270 : decode code 270 = .ok (.invokevirtual 32, 3) := by decide +kernel
theorem dW_273 : decode code 273 = .ok (.if_icmp .eq 751, 3) := by decide +kernel
theorem dW_276 : decode code 276 = .ok (.iconst 0, 1) := by decide +kernel
theorem dW_277 : decode code 277 = .ok (.ireturn, 1) := by decide +kernel
theorem dW_278 : decode code 278 = .ok (.aload_n 1, 1) := by decide +kernel
theorem dW_279 : decode code 279 = .ok (.aload_n 0, 1) := by decide +kernel
theorem dW_280 : decode code 280 = .ok (.iload_n 3, 1) := by decide +kernel
theorem dW_281 : decode code 281 = .ok (.iconst 1, 1) := by decide +kernel
theorem dW_282 : decode code 282 = .ok (.iadd, 1) := by decide +kernel
theorem dW_283 : decode code 283 = .ok (.iaload, 1) := by decide +kernel
theorem dW_284 : decode code 284 = .ok (.aload_n 0, 1) := by decide +kernel
theorem dW_285 : decode code 285 = .ok (.iload_n 3, 1) := by decide +kernel
theorem dW_286 : decode code 286 = .ok (.iconst 2, 1) := by decide +kernel
theorem dW_287 : decode code 287 = .ok (.iadd, 1) := by decide +kernel
theorem dW_288 : decode code 288 = .ok (.iaload, 1) := by decide +kernel
theorem dW_289 : decode code 289 = .ok (.aload_n 0, 1) := by decide +kernel
theorem dW_290 : decode code 290 = .ok (.iload_n 3, 1) := by decide +kernel
theorem dW_291 : decode code 291 = .ok (.iconst 3, 1) := by decide +kernel
theorem dW_292 : decode code 292 = .ok (.iadd, 1) := by decide +kernel
theorem dW_293 : decode code 293 = .ok (.iaload, 1) := by decide +kernel
theorem dW_294 : decode code 294 = .ok (.ifCond .eq 7, 3) := by decide +kernel
theorem dW_297 : decode code 297 = .ok (.iconst 1, 1) := by decide +kernel
theorem dW_298 : decode code 298 = .ok (.goto (4), 3) := by decide +kernel
theorem dW_301 : decode code 301 = .ok (.iconst 0, 1) := by decide +kernel
theorem dW_302 : decode code 302 = .ok (.invokevirtual 33, 3) := by decide +kernel
theorem dW_305 : decode code 305 = .ok (.aload_n 2, 1) := by decide +kernel
theorem dW_306 : decode code 306 = .ok (.aload_n 0, 1) := by decide +kernel
theorem dW_307 : decode code 307 = .ok (.iload_n 3, 1) := by decide +kernel
theorem dW_308 : decode code 308 = .ok (.iconst 1, 1) := by decide +kernel
theorem dW_309 : decode code 309 = .ok (.iadd, 1) := by decide +kernel
theorem dW_310 : decode code 310 = .ok (.iaload, 1) := by decide +kernel
theorem dW_311 : decode code 311 = .ok (.aload_n 0, 1) := by decide +kernel
theorem dW_312 : decode code 312 = .ok (.iload_n 3, 1) := by decide +kernel
theorem dW_313 : decode code 313 = .ok (.iconst 2, 1) := by decide +kernel
theorem dW_314 : decode code 314 = .ok (.iadd, 1) := by decide +kernel
theorem dW_315 : decode code 315 = .ok (.iaload, 1) := by decide +kernel
theorem dW_316 : decode code 316 = .ok (.aload_n 0, 1) := by decide +kernel
theorem dW_317 : decode code 317 = .ok (.iload_n 3, 1) := by decide +kernel
theorem dW_318 : decode code 318 = .ok (.iconst 3, 1) := by decide +kernel
theorem dW_319 : decode code 319 = .ok (.iadd, 1) := by decide +kernel
theorem dW_320 : decode code 320 = .ok (.iaload, 1) := by decide +kernel
theorem dW_321 : decode code 321 = .ok (.ifCond .eq 7, 3) := by decide +kernel
theorem dW_324 : decode code 324 = .ok (.iconst 1, 1) := by decide +kernel
theorem dW_325 : decode code 325 = .ok (.goto (4), 3) := by decide +kernel
theorem dW_328 : decode code 328 = .ok (.iconst 0, 1) := by decide +kernel
theorem dW_329 : decode code 329 = .ok (.invokevirtual 37, 3) := by decide +kernel
theorem dW_332 : decode code 332 = .ok (.if_icmp .eq 692, 3) := by decide +kernel
theorem dW_335 : decode code 335 = .ok (.iconst 0, 1) := by decide +kernel
theorem dW_336 : decode code 336 = .ok (.ireturn, 1) := by decide +kernel
theorem dW_337 : decode code 337 = .ok (.aload_n 1, 1) := by decide +kernel
theorem dW_338 : decode code 338 = .ok (.aload_n 0, 1) := by decide +kernel
theorem dW_339 : decode code 339 = .ok (.iload_n 3, 1) := by decide +kernel
theorem dW_340 : decode code 340 = .ok (.iconst 1, 1) := by decide +kernel
theorem dW_341 : decode code 341 = .ok (.iadd, 1) := by decide +kernel
theorem dW_342 : decode code 342 = .ok (.iaload, 1) := by decide +kernel
theorem dW_343 : decode code 343 = .ok (.invokevirtual 38, 3) := by decide +kernel
theorem dW_346 : decode code 346 = .ok (.aload_n 2, 1) := by decide +kernel
theorem dW_347 : decode code 347 = .ok (.aload_n 0, 1) := by decide +kernel
theorem dW_348 : decode code 348 = .ok (.iload_n 3, 1) := by decide +kernel
theorem dW_349 : decode code 349 = .ok (.iconst 1, 1) := by decide +kernel
theorem dW_350 : decode code 350 = .ok (.iadd, 1) := by decide +kernel
theorem dW_351 : decode code 351 = .ok (.iaload, 1) := by decide +kernel
theorem dW_352 : decode code 352 = .ok (.invokevirtual 42, 3) := by decide +kernel
theorem dW_355 : decode code 355 = .ok (.if_icmp .eq 669, 3) := by decide +kernel
theorem dW_358 : decode code 358 = .ok (.iconst 0, 1) := by decide +kernel
theorem dW_359 : decode code 359 = .ok (.ireturn, 1) := by decide +kernel
theorem dW_360 : decode code 360 = .ok (.aload_n 1, 1) := by decide +kernel
theorem dW_361 : decode code 361 = .ok (.aload_n 0, 1) := by decide +kernel
theorem dW_362 : decode code 362 = .ok (.iload_n 3, 1) := by decide +kernel
theorem dW_363 : decode code 363 = .ok (.iconst 1, 1) := by decide +kernel
theorem dW_364 : decode code 364 = .ok (.iadd, 1) := by decide +kernel
theorem dW_365 : decode code 365 = .ok (.iaload, 1) := by decide +kernel
theorem dW_366 : decode code 366 = .ok (.aload_n 0, 1) := by decide +kernel
theorem dW_367 : decode code 367 = .ok (.iload_n 3, 1) := by decide +kernel
theorem dW_368 : decode code 368 = .ok (.iconst 2, 1) := by decide +kernel
theorem dW_369 : decode code 369 = .ok (.iadd, 1) := by decide +kernel
theorem dW_370 : decode code 370 = .ok (.iaload, 1) := by decide +kernel
theorem dW_371 : decode code 371 = .ok (.aload_n 0, 1) := by decide +kernel
theorem dW_372 : decode code 372 = .ok (.iload_n 3, 1) := by decide +kernel
theorem dW_373 : decode code 373 = .ok (.iconst 3, 1) := by decide +kernel
theorem dW_374 : decode code 374 = .ok (.iadd, 1) := by decide +kernel
theorem dW_375 : decode code 375 = .ok (.iaload, 1) := by decide +kernel
theorem dW_376 : decode code 376 = .ok (.aload_n 0, 1) := by decide +kernel
theorem dW_377 : decode code 377 = .ok (.iload_n 3, 1) := by decide +kernel
theorem dW_378 : decode code 378 = .ok (.iconst 4, 1) := by decide +kernel
theorem dW_379 : decode code 379 = .ok (.iadd, 1) := by decide +kernel
theorem dW_380 : decode code 380 = .ok (.iaload, 1) := by decide +kernel
theorem dW_381 : decode code 381 = .ok (.aload_n 0, 1) := by decide +kernel
theorem dW_382 : decode code 382 = .ok (.iload_n 3, 1) := by decide +kernel
theorem dW_383 : decode code 383 = .ok (.iconst 5, 1) := by decide +kernel
theorem dW_384 : decode code 384 = .ok (.iadd, 1) := by decide +kernel
theorem dW_385 : decode code 385 = .ok (.iaload, 1) := by decide +kernel
theorem dW_386 : decode code 386 = .ok (.invokevirtual 43, 3) := by decide +kernel
theorem dW_389 : decode code 389 = .ok (.aload_n 2, 1) := by decide +kernel
theorem dW_390 : decode code 390 = .ok (.aload_n 0, 1) := by decide +kernel
theorem dW_391 : decode code 391 = .ok (.iload_n 3, 1) := by decide +kernel
theorem dW_392 : decode code 392 = .ok (.iconst 1, 1) := by decide +kernel
theorem dW_393 : decode code 393 = .ok (.iadd, 1) := by decide +kernel
theorem dW_394 : decode code 394 = .ok (.iaload, 1) := by decide +kernel
theorem dW_395 : decode code 395 = .ok (.aload_n 0, 1) := by decide +kernel
theorem dW_396 : decode code 396 = .ok (.iload_n 3, 1) := by decide +kernel
theorem dW_397 : decode code 397 = .ok (.iconst 2, 1) := by decide +kernel
theorem dW_398 : decode code 398 = .ok (.iadd, 1) := by decide +kernel
theorem dW_399 : decode code 399 = .ok (.iaload, 1) := by decide +kernel
theorem dW_400 : decode code 400 = .ok (.aload_n 0, 1) := by decide +kernel
theorem dW_401 : decode code 401 = .ok (.iload_n 3, 1) := by decide +kernel
theorem dW_402 : decode code 402 = .ok (.iconst 3, 1) := by decide +kernel
theorem dW_403 : decode code 403 = .ok (.iadd, 1) := by decide +kernel
theorem dW_404 : decode code 404 = .ok (.iaload, 1) := by decide +kernel
theorem dW_405 : decode code 405 = .ok (.aload_n 0, 1) := by decide +kernel
theorem dW_406 : decode code 406 = .ok (.iload_n 3, 1) := by decide +kernel
theorem dW_407 : decode code 407 = .ok (.iconst 4, 1) := by decide +kernel
theorem dW_408 : decode code 408 = .ok (.iadd, 1) := by decide +kernel
theorem dW_409 : decode code 409 = .ok (.iaload, 1) := by decide +kernel
theorem dW_410 : decode code 410 = .ok (.aload_n 0, 1) := by decide +kernel
theorem dW_411 : decode code 411 = .ok (.iload_n 3, 1) := by decide +kernel
theorem dW_412 : decode code 412 = .ok (.iconst 5, 1) := by decide +kernel
theorem dW_413 : decode code 413 = .ok (.iadd, 1) := by decide +kernel
theorem dW_414 : decode code 414 = .ok (.iaload, 1) := by decide +kernel
theorem dW_415 : decode code 415 = .ok (.invokevirtual 47, 3) := by decide +kernel
theorem dW_418 : decode code 418 = .ok (.if_icmp .eq 606, 3) := by decide +kernel
theorem dW_421 : decode code 421 = .ok (.iconst 0, 1) := by decide +kernel
theorem dW_422 : decode code 422 = .ok (.ireturn, 1) := by decide +kernel
theorem dW_423 : decode code 423 = .ok (.aload_n 1, 1) := by decide +kernel
theorem dW_424 : decode code 424 = .ok (.aload_n 0, 1) := by decide +kernel
theorem dW_425 : decode code 425 = .ok (.iload_n 3, 1) := by decide +kernel
theorem dW_426 : decode code 426 = .ok (.iconst 1, 1) := by decide +kernel
theorem dW_427 : decode code 427 = .ok (.iadd, 1) := by decide +kernel
theorem dW_428 : decode code 428 = .ok (.iaload, 1) := by decide +kernel
theorem dW_429 : decode code 429 = .ok (.aload_n 0, 1) := by decide +kernel
theorem dW_430 : decode code 430 = .ok (.iload_n 3, 1) := by decide +kernel
theorem dW_431 : decode code 431 = .ok (.iconst 2, 1) := by decide +kernel
theorem dW_432 : decode code 432 = .ok (.iadd, 1) := by decide +kernel
theorem dW_433 : decode code 433 = .ok (.iaload, 1) := by decide +kernel
theorem dW_434 : decode code 434 = .ok (.ifCond .eq 7, 3) := by decide +kernel
theorem dW_437 : decode code 437 = .ok (.iconst 1, 1) := by decide +kernel
theorem dW_438 : decode code 438 = .ok (.goto (4), 3) := by decide +kernel
theorem dW_441 : decode code 441 = .ok (.iconst 0, 1) := by decide +kernel
theorem dW_442 : decode code 442 = .ok (.invokevirtual 48, 3) := by decide +kernel
theorem dW_445 : decode code 445 = .ok (.aload_n 2, 1) := by decide +kernel
theorem dW_446 : decode code 446 = .ok (.aload_n 0, 1) := by decide +kernel
theorem dW_447 : decode code 447 = .ok (.iload_n 3, 1) := by decide +kernel
theorem dW_448 : decode code 448 = .ok (.iconst 1, 1) := by decide +kernel
theorem dW_449 : decode code 449 = .ok (.iadd, 1) := by decide +kernel
theorem dW_450 : decode code 450 = .ok (.iaload, 1) := by decide +kernel
theorem dW_451 : decode code 451 = .ok (.aload_n 0, 1) := by decide +kernel
theorem dW_452 : decode code 452 = .ok (.iload_n 3, 1) := by decide +kernel
theorem dW_453 : decode code 453 = .ok (.iconst 2, 1) := by decide +kernel
theorem dW_454 : decode code 454 = .ok (.iadd, 1) := by decide +kernel
theorem dW_455 : decode code 455 = .ok (.iaload, 1) := by decide +kernel
theorem dW_456 : decode code 456 = .ok (.ifCond .eq 7, 3) := by decide +kernel
theorem dW_459 : decode code 459 = .ok (.iconst 1, 1) := by decide +kernel
theorem dW_460 : decode code 460 = .ok (.goto (4), 3) := by decide +kernel
theorem dW_463 : decode code 463 = .ok (.iconst 0, 1) := by decide +kernel
theorem dW_464 : decode code 464 = .ok (.invokevirtual 52, 3) := by decide +kernel
theorem dW_467 : decode code 467 = .ok (.if_icmp .eq 557, 3) := by decide +kernel
theorem dW_470 : decode code 470 = .ok (.iconst 0, 1) := by decide +kernel
theorem dW_471 : decode code 471 = .ok (.ireturn, 1) := by decide +kernel
theorem dW_472 : decode code 472 = .ok (.aload_n 1, 1) := by decide +kernel
theorem dW_473 : decode code 473 = .ok (.aload_n 0, 1) := by decide +kernel
theorem dW_474 : decode code 474 = .ok (.iload_n 3, 1) := by decide +kernel
theorem dW_475 : decode code 475 = .ok (.iconst 1, 1) := by decide +kernel
theorem dW_476 : decode code 476 = .ok (.iadd, 1) := by decide +kernel
theorem dW_477 : decode code 477 = .ok (.iaload, 1) := by decide +kernel
theorem dW_478 : decode code 478 = .ok (.invokevirtual 53, 3) := by decide +kernel
theorem dW_481 : decode code 481 = .ok (.aload_n 2, 1) := by decide +kernel
theorem dW_482 : decode code 482 = .ok (.aload_n 0, 1) := by decide +kernel
theorem dW_483 : decode code 483 = .ok (.iload_n 3, 1) := by decide +kernel
theorem dW_484 : decode code 484 = .ok (.iconst 1, 1) := by decide +kernel
theorem dW_485 : decode code 485 = .ok (.iadd, 1) := by decide +kernel
theorem dW_486 : decode code 486 = .ok (.iaload, 1) := by decide +kernel
theorem dW_487 : decode code 487 = .ok (.invokevirtual 56, 3) := by decide +kernel
theorem dW_490 : decode code 490 = .ok (.if_icmp .eq 534, 3) := by decide +kernel
theorem dW_493 : decode code 493 = .ok (.iconst 0, 1) := by decide +kernel
theorem dW_494 : decode code 494 = .ok (.ireturn, 1) := by decide +kernel
theorem dW_495 : decode code 495 = .ok (.aload_n 1, 1) := by decide +kernel
theorem dW_496 : decode code 496 = .ok (.aload_n 0, 1) := by decide +kernel
theorem dW_497 : decode code 497 = .ok (.iload_n 3, 1) := by decide +kernel
theorem dW_498 : decode code 498 = .ok (.iconst 1, 1) := by decide +kernel
theorem dW_499 : decode code 499 = .ok (.iadd, 1) := by decide +kernel
theorem dW_500 : decode code 500 = .ok (.iaload, 1) := by decide +kernel
theorem dW_501 : decode code 501 = .ok (.aload_n 0, 1) := by decide +kernel
theorem dW_502 : decode code 502 = .ok (.iload_n 3, 1) := by decide +kernel
theorem dW_503 : decode code 503 = .ok (.iconst 2, 1) := by decide +kernel
theorem dW_504 : decode code 504 = .ok (.iadd, 1) := by decide +kernel
theorem dW_505 : decode code 505 = .ok (.iaload, 1) := by decide +kernel
theorem dW_506 : decode code 506 = .ok (.invokevirtual 57, 3) := by decide +kernel
theorem dW_509 : decode code 509 = .ok (.aload_n 2, 1) := by decide +kernel
theorem dW_510 : decode code 510 = .ok (.aload_n 0, 1) := by decide +kernel
theorem dW_511 : decode code 511 = .ok (.iload_n 3, 1) := by decide +kernel
theorem dW_512 : decode code 512 = .ok (.iconst 1, 1) := by decide +kernel
theorem dW_513 : decode code 513 = .ok (.iadd, 1) := by decide +kernel
theorem dW_514 : decode code 514 = .ok (.iaload, 1) := by decide +kernel
theorem dW_515 : decode code 515 = .ok (.aload_n 0, 1) := by decide +kernel
theorem dW_516 : decode code 516 = .ok (.iload_n 3, 1) := by decide +kernel
theorem dW_517 : decode code 517 = .ok (.iconst 2, 1) := by decide +kernel
theorem dW_518 : decode code 518 = .ok (.iadd, 1) := by decide +kernel
theorem dW_519 : decode code 519 = .ok (.iaload, 1) := by decide +kernel
theorem dW_520 : decode code 520 = .ok (.invokevirtual 60, 3) := by decide +kernel
theorem dW_523 : decode code 523 = .ok (.if_icmp .eq 501, 3) := by decide +kernel
theorem dW_526 : decode code 526 = .ok (.iconst 0, 1) := by decide +kernel
theorem dW_527 : decode code 527 = .ok (.ireturn, 1) := by decide +kernel
theorem dW_528 : decode code 528 = .ok (.aload_n 1, 1) := by decide +kernel
theorem dW_529 : decode code 529 = .ok (.aload_n 0, 1) := by decide +kernel
theorem dW_530 : decode code 530 = .ok (.iload_n 3, 1) := by decide +kernel
theorem dW_531 : decode code 531 = .ok (.iconst 1, 1) := by decide +kernel
theorem dW_532 : decode code 532 = .ok (.iadd, 1) := by decide +kernel
theorem dW_533 : decode code 533 = .ok (.iaload, 1) := by decide +kernel
theorem dW_534 : decode code 534 = .ok (.aload_n 0, 1) := by decide +kernel
theorem dW_535 : decode code 535 = .ok (.iload_n 3, 1) := by decide +kernel
theorem dW_536 : decode code 536 = .ok (.iconst 2, 1) := by decide +kernel
theorem dW_537 : decode code 537 = .ok (.iadd, 1) := by decide +kernel
theorem dW_538 : decode code 538 = .ok (.iaload, 1) := by decide +kernel
theorem dW_539 : decode code 539 = .ok (.aload_n 0, 1) := by decide +kernel
theorem dW_540 : decode code 540 = .ok (.iload_n 3, 1) := by decide +kernel
theorem dW_541 : decode code 541 = .ok (.iconst 3, 1) := by decide +kernel
theorem dW_542 : decode code 542 = .ok (.iadd, 1) := by decide +kernel
theorem dW_543 : decode code 543 = .ok (.iaload, 1) := by decide +kernel
theorem dW_544 : decode code 544 = .ok (.invokevirtual 61, 3) := by decide +kernel
theorem dW_547 : decode code 547 = .ok (.aload_n 2, 1) := by decide +kernel
theorem dW_548 : decode code 548 = .ok (.aload_n 0, 1) := by decide +kernel
theorem dW_549 : decode code 549 = .ok (.iload_n 3, 1) := by decide +kernel
theorem dW_550 : decode code 550 = .ok (.iconst 1, 1) := by decide +kernel
theorem dW_551 : decode code 551 = .ok (.iadd, 1) := by decide +kernel
theorem dW_552 : decode code 552 = .ok (.iaload, 1) := by decide +kernel
theorem dW_553 : decode code 553 = .ok (.aload_n 0, 1) := by decide +kernel
theorem dW_554 : decode code 554 = .ok (.iload_n 3, 1) := by decide +kernel
theorem dW_555 : decode code 555 = .ok (.iconst 2, 1) := by decide +kernel
theorem dW_556 : decode code 556 = .ok (.iadd, 1) := by decide +kernel
theorem dW_557 : decode code 557 = .ok (.iaload, 1) := by decide +kernel
theorem dW_558 : decode code 558 = .ok (.aload_n 0, 1) := by decide +kernel
theorem dW_559 : decode code 559 = .ok (.iload_n 3, 1) := by decide +kernel
theorem dW_560 : decode code 560 = .ok (.iconst 3, 1) := by decide +kernel
theorem dW_561 : decode code 561 = .ok (.iadd, 1) := by decide +kernel
theorem dW_562 : decode code 562 = .ok (.iaload, 1) := by decide +kernel
theorem dW_563 : decode code 563 = .ok (.invokevirtual 64, 3) := by decide +kernel
theorem dW_566 : decode code 566 = .ok (.if_icmp .eq 458, 3) := by decide +kernel
theorem dW_569 : decode code 569 = .ok (.iconst 0, 1) := by decide +kernel
theorem dW_570 : decode code 570 = .ok (.ireturn, 1) := by decide +kernel
theorem dW_571 : decode code 571 = .ok (.aload_n 1, 1) := by decide +kernel
theorem dW_572 : decode code 572 = .ok (.aload_n 0, 1) := by decide +kernel
theorem dW_573 : decode code 573 = .ok (.iload_n 3, 1) := by decide +kernel
theorem dW_574 : decode code 574 = .ok (.iconst 1, 1) := by decide +kernel
theorem dW_575 : decode code 575 = .ok (.iadd, 1) := by decide +kernel
theorem dW_576 : decode code 576 = .ok (.iaload, 1) := by decide +kernel
theorem dW_577 : decode code 577 = .ok (.aload_n 0, 1) := by decide +kernel
theorem dW_578 : decode code 578 = .ok (.iload_n 3, 1) := by decide +kernel
theorem dW_579 : decode code 579 = .ok (.iconst 2, 1) := by decide +kernel
theorem dW_580 : decode code 580 = .ok (.iadd, 1) := by decide +kernel
theorem dW_581 : decode code 581 = .ok (.iaload, 1) := by decide +kernel
theorem dW_582 : decode code 582 = .ok (.invokevirtual 65, 3) := by decide +kernel
theorem dW_585 : decode code 585 = .ok (.aload_n 2, 1) := by decide +kernel
theorem dW_586 : decode code 586 = .ok (.aload_n 0, 1) := by decide +kernel
theorem dW_587 : decode code 587 = .ok (.iload_n 3, 1) := by decide +kernel
theorem dW_588 : decode code 588 = .ok (.iconst 1, 1) := by decide +kernel
theorem dW_589 : decode code 589 = .ok (.iadd, 1) := by decide +kernel
theorem dW_590 : decode code 590 = .ok (.iaload, 1) := by decide +kernel
theorem dW_591 : decode code 591 = .ok (.aload_n 0, 1) := by decide +kernel
theorem dW_592 : decode code 592 = .ok (.iload_n 3, 1) := by decide +kernel
theorem dW_593 : decode code 593 = .ok (.iconst 2, 1) := by decide +kernel
theorem dW_594 : decode code 594 = .ok (.iadd, 1) := by decide +kernel
theorem dW_595 : decode code 595 = .ok (.iaload, 1) := by decide +kernel
theorem dW_596 : decode code 596 = .ok (.invokevirtual 68, 3) := by decide +kernel
theorem dW_599 : decode code 599 = .ok (.if_icmp .eq 425, 3) := by decide +kernel
theorem dW_602 : decode code 602 = .ok (.iconst 0, 1) := by decide +kernel
theorem dW_603 : decode code 603 = .ok (.ireturn, 1) := by decide +kernel
theorem dW_604 : decode code 604 = .ok (.aload_n 1, 1) := by decide +kernel
theorem dW_605 : decode code 605 = .ok (.aload_n 0, 1) := by decide +kernel
theorem dW_606 : decode code 606 = .ok (.iload_n 3, 1) := by decide +kernel
theorem dW_607 : decode code 607 = .ok (.iconst 1, 1) := by decide +kernel
theorem dW_608 : decode code 608 = .ok (.iadd, 1) := by decide +kernel
theorem dW_609 : decode code 609 = .ok (.iaload, 1) := by decide +kernel
theorem dW_610 : decode code 610 = .ok (.aload_n 0, 1) := by decide +kernel
theorem dW_611 : decode code 611 = .ok (.iload_n 3, 1) := by decide +kernel
theorem dW_612 : decode code 612 = .ok (.iconst 2, 1) := by decide +kernel
theorem dW_613 : decode code 613 = .ok (.iadd, 1) := by decide +kernel
theorem dW_614 : decode code 614 = .ok (.iaload, 1) := by decide +kernel
theorem dW_615 : decode code 615 = .ok (.invokevirtual 69, 3) := by decide +kernel
theorem dW_618 : decode code 618 = .ok (.aload_n 2, 1) := by decide +kernel
theorem dW_619 : decode code 619 = .ok (.aload_n 0, 1) := by decide +kernel
theorem dW_620 : decode code 620 = .ok (.iload_n 3, 1) := by decide +kernel
theorem dW_621 : decode code 621 = .ok (.iconst 1, 1) := by decide +kernel
theorem dW_622 : decode code 622 = .ok (.iadd, 1) := by decide +kernel
theorem dW_623 : decode code 623 = .ok (.iaload, 1) := by decide +kernel
theorem dW_624 : decode code 624 = .ok (.aload_n 0, 1) := by decide +kernel
theorem dW_625 : decode code 625 = .ok (.iload_n 3, 1) := by decide +kernel
theorem dW_626 : decode code 626 = .ok (.iconst 2, 1) := by decide +kernel
theorem dW_627 : decode code 627 = .ok (.iadd, 1) := by decide +kernel
theorem dW_628 : decode code 628 = .ok (.iaload, 1) := by decide +kernel
theorem dW_629 : decode code 629 = .ok (.invokevirtual 72, 3) := by decide +kernel
theorem dW_632 : decode code 632 = .ok (.if_icmp .eq 392, 3) := by decide +kernel
theorem dW_635 : decode code 635 = .ok (.iconst 0, 1) := by decide +kernel
theorem dW_636 : decode code 636 = .ok (.ireturn, 1) := by decide +kernel
theorem dW_637 : decode code 637 = .ok (.aload_n 1, 1) := by decide +kernel
theorem dW_638 : decode code 638 = .ok (.aload_n 0, 1) := by decide +kernel
theorem dW_639 : decode code 639 = .ok (.iload_n 3, 1) := by decide +kernel
theorem dW_640 : decode code 640 = .ok (.iconst 1, 1) := by decide +kernel
theorem dW_641 : decode code 641 = .ok (.iadd, 1) := by decide +kernel
theorem dW_642 : decode code 642 = .ok (.iaload, 1) := by decide +kernel
theorem dW_643 : decode code 643 = .ok (.aload_n 0, 1) := by decide +kernel
theorem dW_644 : decode code 644 = .ok (.iload_n 3, 1) := by decide +kernel
theorem dW_645 : decode code 645 = .ok (.iconst 2, 1) := by decide +kernel
theorem dW_646 : decode code 646 = .ok (.iadd, 1) := by decide +kernel
theorem dW_647 : decode code 647 = .ok (.iaload, 1) := by decide +kernel
theorem dW_648 : decode code 648 = .ok (.aload_n 0, 1) := by decide +kernel
theorem dW_649 : decode code 649 = .ok (.iload_n 3, 1) := by decide +kernel
theorem dW_650 : decode code 650 = .ok (.iconst 3, 1) := by decide +kernel
theorem dW_651 : decode code 651 = .ok (.iadd, 1) := by decide +kernel
theorem dW_652 : decode code 652 = .ok (.iaload, 1) := by decide +kernel
theorem dW_653 : decode code 653 = .ok (.invokevirtual 73, 3) := by decide +kernel
theorem dW_656 : decode code 656 = .ok (.aload_n 2, 1) := by decide +kernel
theorem dW_657 : decode code 657 = .ok (.aload_n 0, 1) := by decide +kernel
theorem dW_658 : decode code 658 = .ok (.iload_n 3, 1) := by decide +kernel
theorem dW_659 : decode code 659 = .ok (.iconst 1, 1) := by decide +kernel
theorem dW_660 : decode code 660 = .ok (.iadd, 1) := by decide +kernel
theorem dW_661 : decode code 661 = .ok (.iaload, 1) := by decide +kernel
theorem dW_662 : decode code 662 = .ok (.aload_n 0, 1) := by decide +kernel
theorem dW_663 : decode code 663 = .ok (.iload_n 3, 1) := by decide +kernel
theorem dW_664 : decode code 664 = .ok (.iconst 2, 1) := by decide +kernel
theorem dW_665 : decode code 665 = .ok (.iadd, 1) := by decide +kernel
theorem dW_666 : decode code 666 = .ok (.iaload, 1) := by decide +kernel
theorem dW_667 : decode code 667 = .ok (.aload_n 0, 1) := by decide +kernel
theorem dW_668 : decode code 668 = .ok (.iload_n 3, 1) := by decide +kernel
theorem dW_669 : decode code 669 = .ok (.iconst 3, 1) := by decide +kernel
theorem dW_670 : decode code 670 = .ok (.iadd, 1) := by decide +kernel
theorem dW_671 : decode code 671 = .ok (.iaload, 1) := by decide +kernel
theorem dW_672 : decode code 672 = .ok (.invokevirtual 76, 3) := by decide +kernel
theorem dW_675 : decode code 675 = .ok (.if_icmp .eq 349, 3) := by decide +kernel
theorem dW_678 : decode code 678 = .ok (.iconst 0, 1) := by decide +kernel
theorem dW_679 : decode code 679 = .ok (.ireturn, 1) := by decide +kernel
theorem dW_680 : decode code 680 = .ok (.aload_n 1, 1) := by decide +kernel
theorem dW_681 : decode code 681 = .ok (.aload_n 0, 1) := by decide +kernel
theorem dW_682 : decode code 682 = .ok (.iload_n 3, 1) := by decide +kernel
theorem dW_683 : decode code 683 = .ok (.iconst 1, 1) := by decide +kernel
theorem dW_684 : decode code 684 = .ok (.iadd, 1) := by decide +kernel
theorem dW_685 : decode code 685 = .ok (.iaload, 1) := by decide +kernel
theorem dW_686 : decode code 686 = .ok (.aload_n 0, 1) := by decide +kernel
theorem dW_687 : decode code 687 = .ok (.iload_n 3, 1) := by decide +kernel
theorem dW_688 : decode code 688 = .ok (.iconst 2, 1) := by decide +kernel
theorem dW_689 : decode code 689 = .ok (.iadd, 1) := by decide +kernel
theorem dW_690 : decode code 690 = .ok (.iaload, 1) := by decide +kernel
theorem dW_691 : decode code 691 = .ok (.aload_n 0, 1) := by decide +kernel
theorem dW_692 : decode code 692 = .ok (.iload_n 3, 1) := by decide +kernel
theorem dW_693 : decode code 693 = .ok (.iconst 3, 1) := by decide +kernel
theorem dW_694 : decode code 694 = .ok (.iadd, 1) := by decide +kernel
theorem dW_695 : decode code 695 = .ok (.iaload, 1) := by decide +kernel
theorem dW_696 : decode code 696 = .ok (.invokevirtual 77, 3) := by decide +kernel
theorem dW_699 : decode code 699 = .ok (.aload_n 2, 1) := by decide +kernel
theorem dW_700 : decode code 700 = .ok (.aload_n 0, 1) := by decide +kernel
theorem dW_701 : decode code 701 = .ok (.iload_n 3, 1) := by decide +kernel
theorem dW_702 : decode code 702 = .ok (.iconst 1, 1) := by decide +kernel
theorem dW_703 : decode code 703 = .ok (.iadd, 1) := by decide +kernel
theorem dW_704 : decode code 704 = .ok (.iaload, 1) := by decide +kernel
theorem dW_705 : decode code 705 = .ok (.aload_n 0, 1) := by decide +kernel
theorem dW_706 : decode code 706 = .ok (.iload_n 3, 1) := by decide +kernel
theorem dW_707 : decode code 707 = .ok (.iconst 2, 1) := by decide +kernel
theorem dW_708 : decode code 708 = .ok (.iadd, 1) := by decide +kernel
theorem dW_709 : decode code 709 = .ok (.iaload, 1) := by decide +kernel
theorem dW_710 : decode code 710 = .ok (.aload_n 0, 1) := by decide +kernel
theorem dW_711 : decode code 711 = .ok (.iload_n 3, 1) := by decide +kernel
theorem dW_712 : decode code 712 = .ok (.iconst 3, 1) := by decide +kernel
theorem dW_713 : decode code 713 = .ok (.iadd, 1) := by decide +kernel
theorem dW_714 : decode code 714 = .ok (.iaload, 1) := by decide +kernel
theorem dW_715 : decode code 715 = .ok (.invokevirtual 80, 3) := by decide +kernel
theorem dW_718 : decode code 718 = .ok (.if_icmp .eq 306, 3) := by decide +kernel
theorem dW_721 : decode code 721 = .ok (.iconst 0, 1) := by decide +kernel
theorem dW_722 : decode code 722 = .ok (.ireturn, 1) := by decide +kernel
theorem dW_723 : decode code 723 = .ok (.aload_n 1, 1) := by decide +kernel
theorem dW_724 : decode code 724 = .ok (.aload_n 0, 1) := by decide +kernel
theorem dW_725 : decode code 725 = .ok (.iload_n 3, 1) := by decide +kernel
theorem dW_726 : decode code 726 = .ok (.iconst 1, 1) := by decide +kernel
theorem dW_727 : decode code 727 = .ok (.iadd, 1) := by decide +kernel
theorem dW_728 : decode code 728 = .ok (.iaload, 1) := by decide +kernel
theorem dW_729 : decode code 729 = .ok (.aload_n 0, 1) := by decide +kernel
theorem dW_730 : decode code 730 = .ok (.iload_n 3, 1) := by decide +kernel
theorem dW_731 : decode code 731 = .ok (.iconst 2, 1) := by decide +kernel
theorem dW_732 : decode code 732 = .ok (.iadd, 1) := by decide +kernel
theorem dW_733 : decode code 733 = .ok (.iaload, 1) := by decide +kernel
theorem dW_734 : decode code 734 = .ok (.aload_n 0, 1) := by decide +kernel
theorem dW_735 : decode code 735 = .ok (.iload_n 3, 1) := by decide +kernel
theorem dW_736 : decode code 736 = .ok (.iconst 3, 1) := by decide +kernel
theorem dW_737 : decode code 737 = .ok (.iadd, 1) := by decide +kernel
theorem dW_738 : decode code 738 = .ok (.iaload, 1) := by decide +kernel
theorem dW_739 : decode code 739 = .ok (.aload_n 0, 1) := by decide +kernel
theorem dW_740 : decode code 740 = .ok (.iload_n 3, 1) := by decide +kernel
theorem dW_741 : decode code 741 = .ok (.iconst 4, 1) := by decide +kernel
theorem dW_742 : decode code 742 = .ok (.iadd, 1) := by decide +kernel
theorem dW_743 : decode code 743 = .ok (.iaload, 1) := by decide +kernel
theorem dW_744 : decode code 744 = .ok (.invokevirtual 81, 3) := by decide +kernel
theorem dW_747 : decode code 747 = .ok (.aload_n 2, 1) := by decide +kernel
theorem dW_748 : decode code 748 = .ok (.aload_n 0, 1) := by decide +kernel
theorem dW_749 : decode code 749 = .ok (.iload_n 3, 1) := by decide +kernel
theorem dW_750 : decode code 750 = .ok (.iconst 1, 1) := by decide +kernel
theorem dW_751 : decode code 751 = .ok (.iadd, 1) := by decide +kernel
theorem dW_752 : decode code 752 = .ok (.iaload, 1) := by decide +kernel
theorem dW_753 : decode code 753 = .ok (.aload_n 0, 1) := by decide +kernel
theorem dW_754 : decode code 754 = .ok (.iload_n 3, 1) := by decide +kernel
theorem dW_755 : decode code 755 = .ok (.iconst 2, 1) := by decide +kernel
theorem dW_756 : decode code 756 = .ok (.iadd, 1) := by decide +kernel
theorem dW_757 : decode code 757 = .ok (.iaload, 1) := by decide +kernel
theorem dW_758 : decode code 758 = .ok (.aload_n 0, 1) := by decide +kernel
theorem dW_759 : decode code 759 = .ok (.iload_n 3, 1) := by decide +kernel
theorem dW_760 : decode code 760 = .ok (.iconst 3, 1) := by decide +kernel
theorem dW_761 : decode code 761 = .ok (.iadd, 1) := by decide +kernel
theorem dW_762 : decode code 762 = .ok (.iaload, 1) := by decide +kernel
theorem dW_763 : decode code 763 = .ok (.aload_n 0, 1) := by decide +kernel
theorem dW_764 : decode code 764 = .ok (.iload_n 3, 1) := by decide +kernel
theorem dW_765 : decode code 765 = .ok (.iconst 4, 1) := by decide +kernel
theorem dW_766 : decode code 766 = .ok (.iadd, 1) := by decide +kernel
theorem dW_767 : decode code 767 = .ok (.iaload, 1) := by decide +kernel
theorem dW_768 : decode code 768 = .ok (.invokevirtual 84, 3) := by decide +kernel
theorem dW_771 : decode code 771 = .ok (.if_icmp .eq 253, 3) := by decide +kernel
theorem dW_774 : decode code 774 = .ok (.iconst 0, 1) := by decide +kernel
theorem dW_775 : decode code 775 = .ok (.ireturn, 1) := by decide +kernel
theorem dW_776 : decode code 776 = .ok (.aload_n 1, 1) := by decide +kernel
theorem dW_777 : decode code 777 = .ok (.aload_n 0, 1) := by decide +kernel
theorem dW_778 : decode code 778 = .ok (.iload_n 3, 1) := by decide +kernel
theorem dW_779 : decode code 779 = .ok (.iconst 1, 1) := by decide +kernel
theorem dW_780 : decode code 780 = .ok (.iadd, 1) := by decide +kernel
theorem dW_781 : decode code 781 = .ok (.iaload, 1) := by decide +kernel
theorem dW_782 : decode code 782 = .ok (.aload_n 0, 1) := by decide +kernel
theorem dW_783 : decode code 783 = .ok (.iload_n 3, 1) := by decide +kernel
theorem dW_784 : decode code 784 = .ok (.iconst 2, 1) := by decide +kernel
theorem dW_785 : decode code 785 = .ok (.iadd, 1) := by decide +kernel
theorem dW_786 : decode code 786 = .ok (.iaload, 1) := by decide +kernel
theorem dW_787 : decode code 787 = .ok (.aload_n 0, 1) := by decide +kernel
theorem dW_788 : decode code 788 = .ok (.iload_n 3, 1) := by decide +kernel
theorem dW_789 : decode code 789 = .ok (.iconst 3, 1) := by decide +kernel
theorem dW_790 : decode code 790 = .ok (.iadd, 1) := by decide +kernel
theorem dW_791 : decode code 791 = .ok (.iaload, 1) := by decide +kernel
theorem dW_792 : decode code 792 = .ok (.invokevirtual 85, 3) := by decide +kernel
theorem dW_795 : decode code 795 = .ok (.aload_n 2, 1) := by decide +kernel
theorem dW_796 : decode code 796 = .ok (.aload_n 0, 1) := by decide +kernel
theorem dW_797 : decode code 797 = .ok (.iload_n 3, 1) := by decide +kernel
theorem dW_798 : decode code 798 = .ok (.iconst 1, 1) := by decide +kernel
theorem dW_799 : decode code 799 = .ok (.iadd, 1) := by decide +kernel
theorem dW_800 : decode code 800 = .ok (.iaload, 1) := by decide +kernel
theorem dW_801 : decode code 801 = .ok (.aload_n 0, 1) := by decide +kernel
theorem dW_802 : decode code 802 = .ok (.iload_n 3, 1) := by decide +kernel
theorem dW_803 : decode code 803 = .ok (.iconst 2, 1) := by decide +kernel
theorem dW_804 : decode code 804 = .ok (.iadd, 1) := by decide +kernel
theorem dW_805 : decode code 805 = .ok (.iaload, 1) := by decide +kernel
theorem dW_806 : decode code 806 = .ok (.aload_n 0, 1) := by decide +kernel
theorem dW_807 : decode code 807 = .ok (.iload_n 3, 1) := by decide +kernel
theorem dW_808 : decode code 808 = .ok (.iconst 3, 1) := by decide +kernel
theorem dW_809 : decode code 809 = .ok (.iadd, 1) := by decide +kernel
theorem dW_810 : decode code 810 = .ok (.iaload, 1) := by decide +kernel
theorem dW_811 : decode code 811 = .ok (.invokevirtual 88, 3) := by decide +kernel
theorem dW_814 : decode code 814 = .ok (.if_icmp .eq 210, 3) := by decide +kernel
theorem dW_817 : decode code 817 = .ok (.iconst 0, 1) := by decide +kernel
theorem dW_818 : decode code 818 = .ok (.ireturn, 1) := by decide +kernel
theorem dW_819 : decode code 819 = .ok (.aload_n 1, 1) := by decide +kernel
theorem dW_820 : decode code 820 = .ok (.aload_n 0, 1) := by decide +kernel
theorem dW_821 : decode code 821 = .ok (.iload_n 3, 1) := by decide +kernel
theorem dW_822 : decode code 822 = .ok (.iconst 1, 1) := by decide +kernel
theorem dW_823 : decode code 823 = .ok (.iadd, 1) := by decide +kernel
theorem dW_824 : decode code 824 = .ok (.iaload, 1) := by decide +kernel
theorem dW_825 : decode code 825 = .ok (.aload_n 0, 1) := by decide +kernel
theorem dW_826 : decode code 826 = .ok (.iload_n 3, 1) := by decide +kernel
theorem dW_827 : decode code 827 = .ok (.iconst 2, 1) := by decide +kernel
theorem dW_828 : decode code 828 = .ok (.iadd, 1) := by decide +kernel
theorem dW_829 : decode code 829 = .ok (.iaload, 1) := by decide +kernel
theorem dW_830 : decode code 830 = .ok (.aload_n 0, 1) := by decide +kernel
theorem dW_831 : decode code 831 = .ok (.iload_n 3, 1) := by decide +kernel
theorem dW_832 : decode code 832 = .ok (.iconst 3, 1) := by decide +kernel
theorem dW_833 : decode code 833 = .ok (.iadd, 1) := by decide +kernel
theorem dW_834 : decode code 834 = .ok (.iaload, 1) := by decide +kernel
theorem dW_835 : decode code 835 = .ok (.invokevirtual 89, 3) := by decide +kernel
theorem dW_838 : decode code 838 = .ok (.aload_n 2, 1) := by decide +kernel
theorem dW_839 : decode code 839 = .ok (.aload_n 0, 1) := by decide +kernel
theorem dW_840 : decode code 840 = .ok (.iload_n 3, 1) := by decide +kernel
theorem dW_841 : decode code 841 = .ok (.iconst 1, 1) := by decide +kernel
theorem dW_842 : decode code 842 = .ok (.iadd, 1) := by decide +kernel
theorem dW_843 : decode code 843 = .ok (.iaload, 1) := by decide +kernel
theorem dW_844 : decode code 844 = .ok (.aload_n 0, 1) := by decide +kernel
theorem dW_845 : decode code 845 = .ok (.iload_n 3, 1) := by decide +kernel
theorem dW_846 : decode code 846 = .ok (.iconst 2, 1) := by decide +kernel
theorem dW_847 : decode code 847 = .ok (.iadd, 1) := by decide +kernel
theorem dW_848 : decode code 848 = .ok (.iaload, 1) := by decide +kernel
theorem dW_849 : decode code 849 = .ok (.aload_n 0, 1) := by decide +kernel
theorem dW_850 : decode code 850 = .ok (.iload_n 3, 1) := by decide +kernel
theorem dW_851 : decode code 851 = .ok (.iconst 3, 1) := by decide +kernel
theorem dW_852 : decode code 852 = .ok (.iadd, 1) := by decide +kernel
theorem dW_853 : decode code 853 = .ok (.iaload, 1) := by decide +kernel
theorem dW_854 : decode code 854 = .ok (.invokevirtual 92, 3) := by decide +kernel
theorem dW_857 : decode code 857 = .ok (.if_icmp .eq 167, 3) := by decide +kernel
theorem dW_860 : decode code 860 = .ok (.iconst 0, 1) := by decide +kernel
theorem dW_861 : decode code 861 = .ok (.ireturn, 1) := by decide +kernel
theorem dW_862 : decode code 862 = .ok (.aload_n 1, 1) := by decide +kernel
theorem dW_863 : decode code 863 = .ok (.aload_n 0, 1) := by decide +kernel
theorem dW_864 : decode code 864 = .ok (.iload_n 3, 1) := by decide +kernel
theorem dW_865 : decode code 865 = .ok (.iconst 1, 1) := by decide +kernel
theorem dW_866 : decode code 866 = .ok (.iadd, 1) := by decide +kernel
theorem dW_867 : decode code 867 = .ok (.iaload, 1) := by decide +kernel
theorem dW_868 : decode code 868 = .ok (.aload_n 0, 1) := by decide +kernel
theorem dW_869 : decode code 869 = .ok (.iload_n 3, 1) := by decide +kernel
theorem dW_870 : decode code 870 = .ok (.iconst 2, 1) := by decide +kernel
theorem dW_871 : decode code 871 = .ok (.iadd, 1) := by decide +kernel
theorem dW_872 : decode code 872 = .ok (.iaload, 1) := by decide +kernel
theorem dW_873 : decode code 873 = .ok (.aload_n 0, 1) := by decide +kernel
theorem dW_874 : decode code 874 = .ok (.iload_n 3, 1) := by decide +kernel
theorem dW_875 : decode code 875 = .ok (.iconst 3, 1) := by decide +kernel
theorem dW_876 : decode code 876 = .ok (.iadd, 1) := by decide +kernel
theorem dW_877 : decode code 877 = .ok (.iaload, 1) := by decide +kernel
theorem dW_878 : decode code 878 = .ok (.invokevirtual 93, 3) := by decide +kernel
theorem dW_881 : decode code 881 = .ok (.aload_n 2, 1) := by decide +kernel
theorem dW_882 : decode code 882 = .ok (.aload_n 0, 1) := by decide +kernel
theorem dW_883 : decode code 883 = .ok (.iload_n 3, 1) := by decide +kernel
theorem dW_884 : decode code 884 = .ok (.iconst 1, 1) := by decide +kernel
theorem dW_885 : decode code 885 = .ok (.iadd, 1) := by decide +kernel
theorem dW_886 : decode code 886 = .ok (.iaload, 1) := by decide +kernel
theorem dW_887 : decode code 887 = .ok (.aload_n 0, 1) := by decide +kernel
theorem dW_888 : decode code 888 = .ok (.iload_n 3, 1) := by decide +kernel
theorem dW_889 : decode code 889 = .ok (.iconst 2, 1) := by decide +kernel
theorem dW_890 : decode code 890 = .ok (.iadd, 1) := by decide +kernel
theorem dW_891 : decode code 891 = .ok (.iaload, 1) := by decide +kernel
theorem dW_892 : decode code 892 = .ok (.aload_n 0, 1) := by decide +kernel
theorem dW_893 : decode code 893 = .ok (.iload_n 3, 1) := by decide +kernel
theorem dW_894 : decode code 894 = .ok (.iconst 3, 1) := by decide +kernel
theorem dW_895 : decode code 895 = .ok (.iadd, 1) := by decide +kernel
theorem dW_896 : decode code 896 = .ok (.iaload, 1) := by decide +kernel
theorem dW_897 : decode code 897 = .ok (.invokevirtual 96, 3) := by decide +kernel
theorem dW_900 : decode code 900 = .ok (.if_icmp .eq 124, 3) := by decide +kernel
theorem dW_903 : decode code 903 = .ok (.iconst 0, 1) := by decide +kernel
theorem dW_904 : decode code 904 = .ok (.ireturn, 1) := by decide +kernel
theorem dW_905 : decode code 905 = .ok (.aload_n 1, 1) := by decide +kernel
theorem dW_906 : decode code 906 = .ok (.aload_n 0, 1) := by decide +kernel
theorem dW_907 : decode code 907 = .ok (.iload_n 3, 1) := by decide +kernel
theorem dW_908 : decode code 908 = .ok (.iconst 1, 1) := by decide +kernel
theorem dW_909 : decode code 909 = .ok (.iadd, 1) := by decide +kernel
theorem dW_910 : decode code 910 = .ok (.iaload, 1) := by decide +kernel
theorem dW_911 : decode code 911 = .ok (.aload_n 0, 1) := by decide +kernel
theorem dW_912 : decode code 912 = .ok (.iload_n 3, 1) := by decide +kernel
theorem dW_913 : decode code 913 = .ok (.iconst 2, 1) := by decide +kernel
theorem dW_914 : decode code 914 = .ok (.iadd, 1) := by decide +kernel
theorem dW_915 : decode code 915 = .ok (.iaload, 1) := by decide +kernel
theorem dW_916 : decode code 916 = .ok (.aload_n 0, 1) := by decide +kernel
theorem dW_917 : decode code 917 = .ok (.iload_n 3, 1) := by decide +kernel
theorem dW_918 : decode code 918 = .ok (.iconst 3, 1) := by decide +kernel
theorem dW_919 : decode code 919 = .ok (.iadd, 1) := by decide +kernel
theorem dW_920 : decode code 920 = .ok (.iaload, 1) := by decide +kernel
theorem dW_921 : decode code 921 = .ok (.invokevirtual 97, 3) := by decide +kernel
theorem dW_924 : decode code 924 = .ok (.aload_n 2, 1) := by decide +kernel
theorem dW_925 : decode code 925 = .ok (.aload_n 0, 1) := by decide +kernel
theorem dW_926 : decode code 926 = .ok (.iload_n 3, 1) := by decide +kernel
theorem dW_927 : decode code 927 = .ok (.iconst 1, 1) := by decide +kernel
theorem dW_928 : decode code 928 = .ok (.iadd, 1) := by decide +kernel
theorem dW_929 : decode code 929 = .ok (.iaload, 1) := by decide +kernel
theorem dW_930 : decode code 930 = .ok (.aload_n 0, 1) := by decide +kernel
theorem dW_931 : decode code 931 = .ok (.iload_n 3, 1) := by decide +kernel
theorem dW_932 : decode code 932 = .ok (.iconst 2, 1) := by decide +kernel
theorem dW_933 : decode code 933 = .ok (.iadd, 1) := by decide +kernel
theorem dW_934 : decode code 934 = .ok (.iaload, 1) := by decide +kernel
theorem dW_935 : decode code 935 = .ok (.aload_n 0, 1) := by decide +kernel
theorem dW_936 : decode code 936 = .ok (.iload_n 3, 1) := by decide +kernel
theorem dW_937 : decode code 937 = .ok (.iconst 3, 1) := by decide +kernel
theorem dW_938 : decode code 938 = .ok (.iadd, 1) := by decide +kernel
theorem dW_939 : decode code 939 = .ok (.iaload, 1) := by decide +kernel
theorem dW_940 : decode code 940 = .ok (.invokevirtual 100, 3) := by decide +kernel
theorem dW_943 : decode code 943 = .ok (.if_icmp .eq 81, 3) := by decide +kernel
theorem dW_946 : decode code 946 = .ok (.iconst 0, 1) := by decide +kernel
theorem dW_947 : decode code 947 = .ok (.ireturn, 1) := by decide +kernel
theorem dW_948 : decode code 948 = .ok (.aload_n 1, 1) := by decide +kernel
theorem dW_949 : decode code 949 = .ok (.aload_n 0, 1) := by decide +kernel
theorem dW_950 : decode code 950 = .ok (.iload_n 3, 1) := by decide +kernel
theorem dW_951 : decode code 951 = .ok (.iconst 1, 1) := by decide +kernel
theorem dW_952 : decode code 952 = .ok (.iadd, 1) := by decide +kernel
theorem dW_953 : decode code 953 = .ok (.iaload, 1) := by decide +kernel
theorem dW_954 : decode code 954 = .ok (.aload_n 0, 1) := by decide +kernel
theorem dW_955 : decode code 955 = .ok (.iload_n 3, 1) := by decide +kernel
theorem dW_956 : decode code 956 = .ok (.iconst 2, 1) := by decide +kernel
theorem dW_957 : decode code 957 = .ok (.iadd, 1) := by decide +kernel
theorem dW_958 : decode code 958 = .ok (.iaload, 1) := by decide +kernel
theorem dW_959 : decode code 959 = .ok (.aload_n 0, 1) := by decide +kernel
theorem dW_960 : decode code 960 = .ok (.iload_n 3, 1) := by decide +kernel
theorem dW_961 : decode code 961 = .ok (.iconst 3, 1) := by decide +kernel
theorem dW_962 : decode code 962 = .ok (.iadd, 1) := by decide +kernel
theorem dW_963 : decode code 963 = .ok (.iaload, 1) := by decide +kernel
theorem dW_964 : decode code 964 = .ok (.aload_n 0, 1) := by decide +kernel
theorem dW_965 : decode code 965 = .ok (.iload_n 3, 1) := by decide +kernel
theorem dW_966 : decode code 966 = .ok (.iconst 4, 1) := by decide +kernel
theorem dW_967 : decode code 967 = .ok (.iadd, 1) := by decide +kernel
theorem dW_968 : decode code 968 = .ok (.iaload, 1) := by decide +kernel
theorem dW_969 : decode code 969 = .ok (.invokevirtual 101, 3) := by decide +kernel
theorem dW_972 : decode code 972 = .ok (.aload_n 2, 1) := by decide +kernel
theorem dW_973 : decode code 973 = .ok (.aload_n 0, 1) := by decide +kernel
theorem dW_974 : decode code 974 = .ok (.iload_n 3, 1) := by decide +kernel
theorem dW_975 : decode code 975 = .ok (.iconst 1, 1) := by decide +kernel
theorem dW_976 : decode code 976 = .ok (.iadd, 1) := by decide +kernel
theorem dW_977 : decode code 977 = .ok (.iaload, 1) := by decide +kernel
theorem dW_978 : decode code 978 = .ok (.aload_n 0, 1) := by decide +kernel
theorem dW_979 : decode code 979 = .ok (.iload_n 3, 1) := by decide +kernel
theorem dW_980 : decode code 980 = .ok (.iconst 2, 1) := by decide +kernel
theorem dW_981 : decode code 981 = .ok (.iadd, 1) := by decide +kernel
theorem dW_982 : decode code 982 = .ok (.iaload, 1) := by decide +kernel
theorem dW_983 : decode code 983 = .ok (.aload_n 0, 1) := by decide +kernel
theorem dW_984 : decode code 984 = .ok (.iload_n 3, 1) := by decide +kernel
theorem dW_985 : decode code 985 = .ok (.iconst 3, 1) := by decide +kernel
theorem dW_986 : decode code 986 = .ok (.iadd, 1) := by decide +kernel
theorem dW_987 : decode code 987 = .ok (.iaload, 1) := by decide +kernel
theorem dW_988 : decode code 988 = .ok (.aload_n 0, 1) := by decide +kernel
theorem dW_989 : decode code 989 = .ok (.iload_n 3, 1) := by decide +kernel
theorem dW_990 : decode code 990 = .ok (.iconst 4, 1) := by decide +kernel
theorem dW_991 : decode code 991 = .ok (.iadd, 1) := by decide +kernel
theorem dW_992 : decode code 992 = .ok (.iaload, 1) := by decide +kernel
theorem dW_993 : decode code 993 = .ok (.invokevirtual 104, 3) := by decide +kernel
theorem dW_996 : decode code 996 = .ok (.if_icmp .eq 28, 3) := by decide +kernel
theorem dW_999 : decode code 999 = .ok (.iconst 0, 1) := by decide +kernel
theorem dW_1000 : decode code 1000 = .ok (.ireturn, 1) := by decide +kernel
theorem dW_1001 : decode code 1001 = .ok (.aload_n 1, 1) := by decide +kernel
theorem dW_1002 : decode code 1002 = .ok (.aload_n 0, 1) := by decide +kernel
theorem dW_1003 : decode code 1003 = .ok (.iload_n 3, 1) := by decide +kernel
theorem dW_1004 : decode code 1004 = .ok (.iconst 1, 1) := by decide +kernel
theorem dW_1005 : decode code 1005 = .ok (.iadd, 1) := by decide +kernel
theorem dW_1006 : decode code 1006 = .ok (.iaload, 1) := by decide +kernel
theorem dW_1007 : decode code 1007 = .ok (.invokevirtual 105, 3) := by decide +kernel
theorem dW_1010 : decode code 1010 = .ok (.aload_n 2, 1) := by decide +kernel
theorem dW_1011 : decode code 1011 = .ok (.aload_n 0, 1) := by decide +kernel
theorem dW_1012 : decode code 1012 = .ok (.iload_n 3, 1) := by decide +kernel
theorem dW_1013 : decode code 1013 = .ok (.iconst 1, 1) := by decide +kernel
theorem dW_1014 : decode code 1014 = .ok (.iadd, 1) := by decide +kernel
theorem dW_1015 : decode code 1015 = .ok (.iaload, 1) := by decide +kernel
theorem dW_1016 : decode code 1016 = .ok (.invokevirtual 108, 3) := by decide +kernel
theorem dW_1019 : decode code 1019 = .ok (.if_icmp .eq 5, 3) := by decide +kernel
theorem dW_1022 : decode code 1022 = .ok (.iconst 0, 1) := by decide +kernel
theorem dW_1023 : decode code 1023 = .ok (.ireturn, 1) := by decide +kernel
theorem dW_1024 : decode code 1024 = .ok (.iinc 3 6, 3) := by decide +kernel
theorem dW_1027 : decode code 1027 = .ok (.goto (-1009), 3) := by decide +kernel
theorem dW_1030 : decode code 1030 = .ok (.iconst 1, 1) := by decide +kernel
theorem dW_1031 : decode code 1031 = .ok (.ireturn, 1) := by decide +kernel
end
