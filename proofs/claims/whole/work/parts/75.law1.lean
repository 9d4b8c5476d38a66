/-! the law's instructions, printed by wip/whole/gen_law.py -/
theorem dlaw_0 : decode code 0 = .ok (.new 7, 3) := by decide +kernel
theorem dlaw_3 : decode code 3 = .ok (.dup, 1) := by decide +kernel
theorem dlaw_4 : decode code 4 = .ok (.invokespecial 9, 3) := by decide +kernel
theorem dlaw_7 : decode code 7 = .ok (.astore_n 1, 1) := by decide +kernel
theorem dlaw_8 : decode code 8 = .ok (.new 10, 3) := by decide +kernel
theorem dlaw_11 : decode code 11 = .ok (.dup, 1) := by decide +kernel
theorem dlaw_12 : decode code 12 = .ok (.invokespecial 12, 3) := by decide +kernel
theorem dlaw_15 : decode code 15 = .ok (.astore_n 2, 1) := by decide +kernel
theorem dlaw_16 : decode code 16 = .ok (.iconst 0, 1) := by decide +kernel
theorem dlaw_17 : decode code 17 = .ok (.istore_n 3, 1) := by decide +kernel
theorem dlaw_18 : decode code 18 = .ok (.iload_n 3, 1) := by decide +kernel
theorem dlaw_19 : decode code 19 = .ok (.aload_n 0, 1) := by decide +kernel
theorem dlaw_20 : decode code 20 = .ok (.arraylength, 1) := by decide +kernel
theorem dlaw_21 : decode code 21 = .ok (.iconst 4, 1) := by decide +kernel
theorem dlaw_22 : decode code 22 = .ok (.isub, 1) := by decide +kernel
theorem dlaw_23 : decode code 23 = .ok (.if_icmp .gt 787, 3) := by decide +kernel
theorem dlaw_26 : decode code 26 = .ok (.aload_n 0, 1) := by decide +kernel
theorem dlaw_27 : decode code 27 = .ok (.iload_n 3, 1) := by decide +kernel
theorem dlaw_28 : decode code 28 = .ok (.iaload, 1) := by decide +kernel
theorem dlaw_29 : decode code 29 = .ok (.bipush 31, 2) := by decide +kernel
theorem dlaw_31 : decode code 31 = .ok (.iand, 1) := by decide +kernel
theorem dlaw_32 : decode code 32 = .ok (.tableswitch 772 0 24 #[116, 139, 152, 185, 208, 231, 264, 297, 320, 353, 386, 419, 442, 465, 488, 511, 554, 597, 641, 654, 677, 690, 723, 736, 749], 116) := by decide +kernel
theorem dlaw_148 : decode code 148 = .ok (.aload_n 1, 1) := by decide +kernel
theorem dlaw_149 : decode code 149 = .ok (.aload_n 0, 1) := by decide +kernel
theorem dlaw_150 : decode code 150 = .ok (.iload_n 3, 1) := by decide +kernel
theorem dlaw_151 : decode code 151 = .ok (.iconst 1, 1) := by decide +kernel
theorem dlaw_152 : decode code 152 = .ok (.iadd, 1) := by decide +kernel
theorem dlaw_153 : decode code 153 = .ok (.iaload, 1) := by decide +kernel
theorem dlaw_154 : decode code 154 = .ok (.invokevirtual 13, 3) := by decide +kernel
theorem dlaw_157 : decode code 157 = .ok (.aload_n 2, 1) := by decide +kernel
theorem dlaw_158 : decode code 158 = .ok (.aload_n 0, 1) := by decide +kernel
theorem dlaw_159 : decode code 159 = .ok (.iload_n 3, 1) := by decide +kernel
theorem dlaw_160 : decode code 160 = .ok (.iconst 1, 1) := by decide +kernel
theorem dlaw_161 : decode code 161 = .ok (.iadd, 1) := by decide +kernel
theorem dlaw_162 : decode code 162 = .ok (.iaload, 1) := by decide +kernel
theorem dlaw_163 : decode code 163 = .ok (.invokevirtual 17, 3) := by decide +kernel
theorem dlaw_166 : decode code 166 = .ok (.if_icmp .eq 638, 3) := by decide +kernel
theorem dlaw_169 : decode code 169 = .ok (.iconst 0, 1) := by decide +kernel
theorem dlaw_170 : decode code 170 = .ok (.ireturn, 1) := by decide +kernel
theorem dlaw_171 : decode code 171 = .ok (.aload_n 1, 1) := by decide +kernel
theorem dlaw_172 : decode code 172 = .ok (.invokevirtual 18, 3) := by decide +kernel
theorem dlaw_175 : decode code 175 = .ok (.aload_n 2, 1) := by decide +kernel
theorem dlaw_176 : decode code 176 = .ok (.invokevirtual 22, 3) := by decide +kernel
theorem dlaw_179 : decode code 179 = .ok (.if_icmp .eq 625, 3) := by decide +kernel
theorem dlaw_182 : decode code 182 = .ok (.iconst 0, 1) := by decide +kernel
theorem dlaw_183 : decode code 183 = .ok (.ireturn, 1) := by decide +kernel
theorem dlaw_184 : decode code 184 = .ok (.aload_n 1, 1) := by decide +kernel
theorem dlaw_185 : decode code 185 = .ok (.aload_n 0, 1) := by decide +kernel
theorem dlaw_186 : decode code 186 = .ok (.iload_n 3, 1) := by decide +kernel
theorem dlaw_187 : decode code 187 = .ok (.iconst 1, 1) := by decide +kernel
theorem dlaw_188 : decode code 188 = .ok (.iadd, 1) := by decide +kernel
theorem dlaw_189 : decode code 189 = .ok (.iaload, 1) := by decide +kernel
theorem dlaw_190 : decode code 190 = .ok (.aload_n 0, 1) := by decide +kernel
theorem dlaw_191 : decode code 191 = .ok (.iload_n 3, 1) := by decide +kernel
theorem dlaw_192 : decode code 192 = .ok (.iconst 2, 1) := by decide +kernel
theorem dlaw_193 : decode code 193 = .ok (.iadd, 1) := by decide +kernel
theorem dlaw_194 : decode code 194 = .ok (.iaload, 1) := by decide +kernel
theorem dlaw_195 : decode code 195 = .ok (.invokevirtual 23, 3) := by decide +kernel
theorem dlaw_198 : decode code 198 = .ok (.aload_n 2, 1) := by decide +kernel
theorem dlaw_199 : decode code 199 = .ok (.aload_n 0, 1) := by decide +kernel
theorem dlaw_200 : decode code 200 = .ok (.iload_n 3, 1) := by decide +kernel
theorem dlaw_201 : decode code 201 = .ok (.iconst 1, 1) := by decide +kernel
theorem dlaw_202 : decode code 202 = .ok (.iadd, 1) := by decide +kernel
theorem dlaw_203 : decode code 203 = .ok (.iaload, 1) := by decide +kernel
theorem dlaw_204 : decode code 204 = .ok (.aload_n 0, 1) := by decide +kernel
theorem dlaw_205 : decode code 205 = .ok (.iload_n 3, 1) := by decide +kernel
theorem dlaw_206 : decode code 206 = .ok (.iconst 2, 1) := by decide +kernel
theorem dlaw_207 : decode code 207 = .ok (.iadd, 1) := by decide +kernel
theorem dlaw_208 : decode code 208 = .ok (.iaload, 1) := by decide +kernel
theorem dlaw_209 : decode code 209 = .ok (.invokevirtual 27, 3) := by decide +kernel
theorem dlaw_212 : decode code 212 = .ok (.if_icmp .eq 592, 3) := by decide +kernel
theorem dlaw_215 : decode code 215 = .ok (.iconst 0, 1) := by decide +kernel
theorem dlaw_216 : decode code 216 = .ok (.ireturn, 1) := by decide +kernel
theorem dlaw_217 : decode code 217 = .ok (.aload_n 1, 1) := by decide +kernel
theorem dlaw_218 : decode code 218 = .ok (.aload_n 0, 1) := by decide +kernel
theorem dlaw_219 : decode code 219 = .ok (.iload_n 3, 1) := by decide +kernel
theorem dlaw_220 : decode code 220 = .ok (.iconst 1, 1) := by decide +kernel
theorem dlaw_221 : decode code 221 = .ok (.iadd, 1) := by decide +kernel
theorem dlaw_222 : decode code 222 = .ok (.iaload, 1) := by decide +kernel
theorem dlaw_223 : decode code 223 = .ok (.invokevirtual 28, 3) := by decide +kernel
theorem dlaw_226 : decode code 226 = .ok (.aload_n 2, 1) := by decide +kernel
theorem dlaw_227 : decode code 227 = .ok (.aload_n 0, 1) := by decide +kernel
theorem dlaw_228 : decode code 228 = .ok (.iload_n 3, 1) := by decide +kernel
theorem dlaw_229 : decode code 229 = .ok (.iconst 1, 1) := by decide +kernel
theorem dlaw_230 : decode code 230 = .ok (.iadd, 1) := by decide +kernel
theorem dlaw_231 : decode code 231 = .ok (.iaload, 1) := by decide +kernel
theorem dlaw_232 : decode code 232 = .ok (.invokevirtual 31, 3) := by decide +kernel
theorem dlaw_235 : decode code 235 = .ok (.if_icmp .eq 569, 3) := by decide +kernel
theorem dlaw_238 : decode code 238 = .ok (.iconst 0, 1) := by decide +kernel
theorem dlaw_239 : decode code 239 = .ok (.ireturn, 1) := by decide +kernel
theorem dlaw_240 : decode code 240 = .ok (.aload_n 1, 1) := by decide +kernel
theorem dlaw_241 : decode code 241 = .ok (.aload_n 0, 1) := by decide +kernel
theorem dlaw_242 : decode code 242 = .ok (.iload_n 3, 1) := by decide +kernel
theorem dlaw_243 : decode code 243 = .ok (.iconst 1, 1) := by decide +kernel
theorem dlaw_244 : decode code 244 = .ok (.iadd, 1) := by decide +kernel
theorem dlaw_245 : decode code 245 = .ok (.iaload, 1) := by decide +kernel
theorem dlaw_246 : decode code 246 = .ok (.invokevirtual 32, 3) := by decide +kernel
theorem dlaw_249 : decode code 249 = .ok (.aload_n 2, 1) := by decide +kernel
theorem dlaw_250 : decode code 250 = .ok (.aload_n 0, 1) := by decide +kernel
theorem dlaw_251 : decode code 251 = .ok (.iload_n 3, 1) := by decide +kernel
theorem dlaw_252 : decode code 252 = .ok (.iconst 1, 1) := by decide +kernel
theorem dlaw_253 : decode code 253 = .ok (.iadd, 1) := by decide +kernel
theorem dlaw_254 : decode code 254 = .ok (.iaload, 1) := by decide +kernel
theorem dlaw_255 : decode code 255 = .ok (.invokevirtual 35, 3) := by decide +kernel
theorem dlaw_258 : decode code 258 = .ok (.if_icmp .eq 546, 3) := by decide +kernel
theorem dlaw_261 : decode code 261 = .ok (.iconst 0, 1) := by decide +kernel
theorem dlaw_262 : decode code 262 = .ok (.ireturn, 1) := by decide +kernel
theorem dlaw_263 : decode code 263 = .ok (.aload_n 1, 1) := by decide +kernel
theorem dlaw_264 : decode code 264 = .ok (.aload_n 0, 1) := by decide +kernel
theorem dlaw_265 : decode code 265 = .ok (.iload_n 3, 1) := by decide +kernel
theorem dlaw_266 : decode code 266 = .ok (.iconst 1, 1) := by decide +kernel
theorem dlaw_267 : decode code 267 = .ok (.iadd, 1) := by decide +kernel
theorem dlaw_268 : decode code 268 = .ok (.iaload, 1) := by decide +kernel
theorem dlaw_269 : decode code 269 = .ok (.aload_n 0, 1) := by decide +kernel
theorem dlaw_270 : decode code 270 = .ok (.iload_n 3, 1) := by decide +kernel
theorem dlaw_271 : decode code 271 = .ok (.iconst 2, 1) := by decide +kernel
theorem dlaw_272 : decode code 272 = .ok (.iadd, 1) := by decide +kernel
theorem dlaw_273 : decode code 273 = .ok (.iaload, 1) := by decide +kernel
theorem dlaw_274 : decode code 274 = .ok (.invokevirtual 36, 3) := by decide +kernel
theorem dlaw_277 : decode code 277 = .ok (.aload_n 2, 1) := by decide +kernel
theorem dlaw_278 : decode code 278 = .ok (.aload_n 0, 1) := by decide +kernel
theorem dlaw_279 : decode code 279 = .ok (.iload_n 3, 1) := by decide +kernel
theorem dlaw_280 : decode code 280 = .ok (.iconst 1, 1) := by decide +kernel
theorem dlaw_281 : decode code 281 = .ok (.iadd, 1) := by decide +kernel
theorem dlaw_282 : decode code 282 = .ok (.iaload, 1) := by decide +kernel
theorem dlaw_283 : decode code 283 = .ok (.aload_n 0, 1) := by decide +kernel
theorem dlaw_284 : decode code 284 = .ok (.iload_n 3, 1) := by decide +kernel
theorem dlaw_285 : decode code 285 = .ok (.iconst 2, 1) := by decide +kernel
theorem dlaw_286 : decode code 286 = .ok (.iadd, 1) := by decide +kernel
theorem dlaw_287 : decode code 287 = .ok (.iaload, 1) := by decide +kernel
theorem dlaw_288 : decode code 288 = .ok (.invokevirtual 39, 3) := by decide +kernel
theorem dlaw_291 : decode code 291 = .ok (.if_icmp .eq 513, 3) := by decide +kernel
theorem dlaw_294 : decode code 294 = .ok (.iconst 0, 1) := by decide +kernel
theorem dlaw_295 : decode code 295 = .ok (.ireturn, 1) := by decide +kernel
theorem dlaw_296 : decode code 296 = .ok (.aload_n 1, 1) := by decide +kernel
theorem dlaw_297 : decode code 297 = .ok (.aload_n 0, 1) := by decide +kernel
theorem dlaw_298 : decode code 298 = .ok (.iload_n 3, 1) := by decide +kernel
theorem dlaw_299 : decode code 299 = .ok (.iconst 1, 1) := by decide +kernel
theorem dlaw_300 : decode code 300 = .ok (.iadd, 1) := by decide +kernel
theorem dlaw_301 : decode code 301 = .ok (.iaload, 1) := by decide +kernel
theorem dlaw_302 : decode code 302 = .ok (.aload_n 0, 1) := by decide +kernel
theorem dlaw_303 : decode code 303 = .ok (.iload_n 3, 1) := by decide +kernel
theorem dlaw_304 : decode code 304 = .ok (.iconst 2, 1) := by decide +kernel
theorem dlaw_305 : decode code 305 = .ok (.iadd, 1) := by decide +kernel
theorem dlaw_306 : decode code 306 = .ok (.iaload, 1) := by decide +kernel
theorem dlaw_307 : decode code 307 = .ok (.invokevirtual 40, 3) := by decide +kernel
theorem dlaw_310 : decode code 310 = .ok (.aload_n 2, 1) := by decide +kernel
theorem dlaw_311 : decode code 311 = .ok (.aload_n 0, 1) := by decide +kernel
theorem dlaw_312 : decode code 312 = .ok (.iload_n 3, 1) := by decide +kernel
theorem dlaw_313 : decode code 313 = .ok (.iconst 1, 1) := by decide +kernel
theorem dlaw_314 : decode code 314 = .ok (.iadd, 1) := by decide +kernel
theorem dlaw_315 : decode code 315 = .ok (.iaload, 1) := by decide +kernel
theorem dlaw_316 : decode code 316 = .ok (.aload_n 0, 1) := by decide +kernel
theorem dlaw_317 : decode code 317 = .ok (.iload_n 3, 1) := by decide +kernel
theorem dlaw_318 : decode code 318 = .ok (.iconst 2, 1) := by decide +kernel
theorem dlaw_319 : decode code 319 = .ok (.iadd, 1) := by decide +kernel
theorem dlaw_320 : decode code 320 = .ok (.iaload, 1) := by decide +kernel
theorem dlaw_321 : decode code 321 = .ok (.invokevirtual 43, 3) := by decide +kernel
theorem dlaw_324 : decode code 324 = .ok (.if_icmp .eq 480, 3) := by decide +kernel
theorem dlaw_327 : decode code 327 = .ok (.iconst 0, 1) := by decide +kernel
theorem dlaw_328 : decode code 328 = .ok (.ireturn, 1) := by decide +kernel
theorem dlaw_329 : decode code 329 = .ok (.aload_n 1, 1) := by decide +kernel
theorem dlaw_330 : decode code 330 = .ok (.aload_n 0, 1) := by decide +kernel
theorem dlaw_331 : decode code 331 = .ok (.iload_n 3, 1) := by decide +kernel
theorem dlaw_332 : decode code 332 = .ok (.iconst 1, 1) := by decide +kernel
theorem dlaw_333 : decode code 333 = .ok (.iadd, 1) := by decide +kernel
theorem dlaw_334 : decode code 334 = .ok (.iaload, 1) := by decide +kernel
theorem dlaw_335 : decode code 335 = .ok (.invokevirtual 44, 3) := by decide +kernel
theorem dlaw_338 : decode code 338 = .ok (.aload_n 2, 1) := by decide +kernel
theorem dlaw_339 : decode code 339 = .ok (.aload_n 0, 1) := by decide +kernel
theorem dlaw_340 : decode code 340 = .ok (.iload_n 3, 1) := by decide +kernel
theorem dlaw_341 : decode code 341 = .ok (.iconst 1, 1) := by decide +kernel
theorem dlaw_342 : decode code 342 = .ok (.iadd, 1) := by decide +kernel
theorem dlaw_343 : decode code 343 = .ok (.iaload, 1) := by decide +kernel
theorem dlaw_344 : decode code 344 = .ok (.invokevirtual 47, 3) := by decide +kernel
theorem dlaw_347 : decode code 347 = .ok (.if_icmp .eq 457, 3) := by decide +kernel
theorem dlaw_350 : decode code 350 = .ok (.iconst 0, 1) := by decide +kernel
theorem dlaw_351 : decode code 351 = .ok (.ireturn, 1) := by decide +kernel
theorem dlaw_352 : decode code 352 = .ok (.aload_n 1, 1) := by decide +kernel
theorem dlaw_353 : decode code 353 = .ok (.aload_n 0, 1) := by decide +kernel
theorem dlaw_354 : decode code 354 = .ok (.iload_n 3, 1) := by decide +kernel
theorem dlaw_355 : decode code 355 = .ok (.iconst 1, 1) := by decide +kernel
theorem dlaw_356 : decode code 356 = .ok (.iadd, 1) := by decide +kernel
theorem dlaw_357 : decode code 357 = .ok (.iaload, 1) := by decide +kernel
theorem dlaw_358 : decode code 358 = .ok (.aload_n 0, 1) := by decide +kernel
theorem dlaw_359 : decode code 359 = .ok (.iload_n 3, 1) := by decide +kernel
theorem dlaw_360 : decode code 360 = .ok (.iconst 2, 1) := by decide +kernel
theorem dlaw_361 : decode code 361 = .ok (.iadd, 1) := by decide +kernel
theorem dlaw_362 : decode code 362 = .ok (.iaload, 1) := by decide +kernel
theorem dlaw_363 : decode code 363 = .ok (.invokevirtual 48, 3) := by decide +kernel
theorem dlaw_366 : decode code 366 = .ok (.aload_n 2, 1) := by decide +kernel
theorem dlaw_367 : decode code 367 = .ok (.aload_n 0, 1) := by decide +kernel
theorem dlaw_368 : decode code 368 = .ok (.iload_n 3, 1) := by decide +kernel
theorem dlaw_369 : decode code 369 = .ok (.iconst 1, 1) := by decide +kernel
theorem dlaw_370 : decode code 370 = .ok (.iadd, 1) := by decide +kernel
theorem dlaw_371 : decode code 371 = .ok (.iaload, 1) := by decide +kernel
theorem dlaw_372 : decode code 372 = .ok (.aload_n 0, 1) := by decide +kernel
theorem dlaw_373 : decode code 373 = .ok (.iload_n 3, 1) := by decide +kernel
theorem dlaw_374 : decode code 374 = .ok (.iconst 2, 1) := by decide +kernel
theorem dlaw_375 : decode code 375 = .ok (.iadd, 1) := by decide +kernel
theorem dlaw_376 : decode code 376 = .ok (.iaload, 1) := by decide +kernel
theorem dlaw_377 : decode code 377 = .ok (.invokevirtual 51, 3) := by decide +kernel
theorem dlaw_380 : decode code 380 = .ok (.if_icmp .eq 424, 3) := by decide +kernel
theorem dlaw_383 : decode code 383 = .ok (.iconst 0, 1) := by decide +kernel
theorem dlaw_384 : decode code 384 = .ok (.ireturn, 1) := by decide +kernel
theorem dlaw_385 : decode code 385 = .ok (.aload_n 1, 1) := by decide +kernel
theorem dlaw_386 : decode code 386 = .ok (.aload_n 0, 1) := by decide +kernel
theorem dlaw_387 : decode code 387 = .ok (.iload_n 3, 1) := by decide +kernel
theorem dlaw_388 : decode code 388 = .ok (.iconst 1, 1) := by decide +kernel
theorem dlaw_389 : decode code 389 = .ok (.iadd, 1) := by decide +kernel
theorem dlaw_390 : decode code 390 = .ok (.iaload, 1) := by decide +kernel
theorem dlaw_391 : decode code 391 = .ok (.aload_n 0, 1) := by decide +kernel
theorem dlaw_392 : decode code 392 = .ok (.iload_n 3, 1) := by decide +kernel
theorem dlaw_393 : decode code 393 = .ok (.iconst 2, 1) := by decide +kernel
theorem dlaw_394 : decode code 394 = .ok (.iadd, 1) := by decide +kernel
theorem dlaw_395 : decode code 395 = .ok (.iaload, 1) := by decide +kernel
theorem dlaw_396 : decode code 396 = .ok (.invokevirtual 52, 3) := by decide +kernel
theorem dlaw_399 : decode code 399 = .ok (.aload_n 2, 1) := by decide +kernel
theorem dlaw_400 : decode code 400 = .ok (.aload_n 0, 1) := by decide +kernel
theorem dlaw_401 : decode code 401 = .ok (.iload_n 3, 1) := by decide +kernel
theorem dlaw_402 : decode code 402 = .ok (.iconst 1, 1) := by decide +kernel
theorem dlaw_403 : decode code 403 = .ok (.iadd, 1) := by decide +kernel
theorem dlaw_404 : decode code 404 = .ok (.iaload, 1) := by decide +kernel
theorem dlaw_405 : decode code 405 = .ok (.aload_n 0, 1) := by decide +kernel
theorem dlaw_406 : decode code 406 = .ok (.iload_n 3, 1) := by decide +kernel
theorem dlaw_407 : decode code 407 = .ok (.iconst 2, 1) := by decide +kernel
theorem dlaw_408 : decode code 408 = .ok (.iadd, 1) := by decide +kernel
theorem dlaw_409 : decode code 409 = .ok (.iaload, 1) := by decide +kernel
theorem dlaw_410 : decode code 410 = .ok (.invokevirtual 55, 3) := by decide +kernel
theorem dlaw_413 : decode code 413 = .ok (.if_icmp .eq 391, 3) := by decide +kernel
theorem dlaw_416 : decode code 416 = .ok (.iconst 0, 1) := by decide +kernel
theorem dlaw_417 : decode code 417 = .ok (.ireturn, 1) := by decide +kernel
theorem dlaw_418 : decode code 418 = .ok (.aload_n 1, 1) := by decide +kernel
theorem dlaw_419 : decode code 419 = .ok (.aload_n 0, 1) := by decide +kernel
theorem dlaw_420 : decode code 420 = .ok (.iload_n 3, 1) := by decide +kernel
theorem dlaw_421 : decode code 421 = .ok (.iconst 1, 1) := by decide +kernel
theorem dlaw_422 : decode code 422 = .ok (.iadd, 1) := by decide +kernel
theorem dlaw_423 : decode code 423 = .ok (.iaload, 1) := by decide +kernel
theorem dlaw_424 : decode code 424 = .ok (.aload_n 0, 1) := by decide +kernel
theorem dlaw_425 : decode code 425 = .ok (.iload_n 3, 1) := by decide +kernel
theorem dlaw_426 : decode code 426 = .ok (.iconst 2, 1) := by decide +kernel
theorem dlaw_427 : decode code 427 = .ok (.iadd, 1) := by decide +kernel
theorem dlaw_428 : decode code 428 = .ok (.iaload, 1) := by decide +kernel
theorem dlaw_429 : decode code 429 = .ok (.invokevirtual 56, 3) := by decide +kernel
theorem dlaw_432 : decode code 432 = .ok (.aload_n 2, 1) := by decide +kernel
theorem dlaw_433 : decode code 433 = .ok (.aload_n 0, 1) := by decide +kernel
theorem dlaw_434 : decode code 434 = .ok (.iload_n 3, 1) := by decide +kernel
theorem dlaw_435 : decode code 435 = .ok (.iconst 1, 1) := by decide +kernel
theorem dlaw_436 : decode code 436 = .ok (.iadd, 1) := by decide +kernel
theorem dlaw_437 : decode code 437 = .ok (.iaload, 1) := by decide +kernel
theorem dlaw_438 : decode code 438 = .ok (.aload_n 0, 1) := by decide +kernel
theorem dlaw_439 : decode code 439 = .ok (.iload_n 3, 1) := by decide +kernel
theorem dlaw_440 : decode code 440 = .ok (.iconst 2, 1) := by decide +kernel
theorem dlaw_441 : decode code 441 = .ok (.iadd, 1) := by decide +kernel
theorem dlaw_442 : decode code 442 = .ok (.iaload, 1) := by decide +kernel
theorem dlaw_443 : decode code 443 = .ok (.invokevirtual 59, 3) := by decide +kernel
theorem dlaw_446 : decode code 446 = .ok (.if_icmp .eq 358, 3) := by decide +kernel
theorem dlaw_449 : decode code 449 = .ok (.iconst 0, 1) := by decide +kernel
theorem dlaw_450 : decode code 450 = .ok (.ireturn, 1) := by decide +kernel
theorem dlaw_451 : decode code 451 = .ok (.aload_n 1, 1) := by decide +kernel
theorem dlaw_452 : decode code 452 = .ok (.aload_n 0, 1) := by decide +kernel
theorem dlaw_453 : decode code 453 = .ok (.iload_n 3, 1) := by decide +kernel
theorem dlaw_454 : decode code 454 = .ok (.iconst 1, 1) := by decide +kernel
theorem dlaw_455 : decode code 455 = .ok (.iadd, 1) := by decide +kernel
theorem dlaw_456 : decode code 456 = .ok (.iaload, 1) := by decide +kernel
theorem dlaw_457 : decode code 457 = .ok (.invokevirtual 60, 3) := by decide +kernel
theorem dlaw_460 : decode code 460 = .ok (.aload_n 2, 1) := by decide +kernel
theorem dlaw_461 : decode code 461 = .ok (.aload_n 0, 1) := by decide +kernel
theorem dlaw_462 : decode code 462 = .ok (.iload_n 3, 1) := by decide +kernel
theorem dlaw_463 : decode code 463 = .ok (.iconst 1, 1) := by decide +kernel
theorem dlaw_464 : decode code 464 = .ok (.iadd, 1) := by decide +kernel
theorem dlaw_465 : decode code 465 = .ok (.iaload, 1) := by decide +kernel
theorem dlaw_466 : decode code 466 = .ok (.invokevirtual 63, 3) := by decide +kernel
theorem dlaw_469 : decode code 469 = .ok (.if_icmp .eq 335, 3) := by decide +kernel
theorem dlaw_472 : decode code 472 = .ok (.iconst 0, 1) := by decide +kernel
theorem dlaw_473 : decode code 473 = .ok (.ireturn, 1) := by decide +kernel
theorem dlaw_474 : decode code 474 = .ok (.aload_n 1, 1) := by decide +kernel
theorem dlaw_475 : decode code 475 = .ok (.aload_n 0, 1) := by decide +kernel
theorem dlaw_476 : decode code 476 = .ok (.iload_n 3, 1) := by decide +kernel
theorem dlaw_477 : decode code 477 = .ok (.iconst 1, 1) := by decide +kernel
theorem dlaw_478 : decode code 478 = .ok (.iadd, 1) := by decide +kernel
theorem dlaw_479 : decode code 479 = .ok (.iaload, 1) := by decide +kernel
theorem dlaw_480 : decode code 480 = .ok (.invokevirtual 64, 3) := by decide +kernel
theorem dlaw_483 : decode code 483 = .ok (.aload_n 2, 1) := by decide +kernel
theorem dlaw_484 : decode code 484 = .ok (.aload_n 0, 1) := by decide +kernel
theorem dlaw_485 : decode code 485 = .ok (.iload_n 3, 1) := by decide +kernel
theorem dlaw_486 : decode code 486 = .ok (.iconst 1, 1) := by decide +kernel
theorem dlaw_487 : decode code 487 = .ok (.iadd, 1) := by decide +kernel
theorem dlaw_488 : decode code 488 = .ok (.iaload, 1) := by decide +kernel
theorem dlaw_489 : decode code 489 = .ok (.invokevirtual 67, 3) := by decide +kernel
theorem dlaw_492 : decode code 492 = .ok (.if_icmp .eq 312, 3) := by decide +kernel
theorem dlaw_495 : decode code 495 = .ok (.iconst 0, 1) := by decide +kernel
theorem dlaw_496 : decode code 496 = .ok (.ireturn, 1) := by decide +kernel
theorem dlaw_497 : decode code 497 = .ok (.aload_n 1, 1) := by decide +kernel
theorem dlaw_498 : decode code 498 = .ok (.aload_n 0, 1) := by decide +kernel
theorem dlaw_499 : decode code 499 = .ok (.iload_n 3, 1) := by decide +kernel
theorem dlaw_500 : decode code 500 = .ok (.iconst 1, 1) := by decide +kernel
theorem dlaw_501 : decode code 501 = .ok (.iadd, 1) := by decide +kernel
theorem dlaw_502 : decode code 502 = .ok (.iaload, 1) := by decide +kernel
theorem dlaw_503 : decode code 503 = .ok (.invokevirtual 68, 3) := by decide +kernel
theorem dlaw_506 : decode code 506 = .ok (.aload_n 2, 1) := by decide +kernel
theorem dlaw_507 : decode code 507 = .ok (.aload_n 0, 1) := by decide +kernel
theorem dlaw_508 : decode code 508 = .ok (.iload_n 3, 1) := by decide +kernel
theorem dlaw_509 : decode code 509 = .ok (.iconst 1, 1) := by decide +kernel
theorem dlaw_510 : decode code 510 = .ok (.iadd, 1) := by decide +kernel
theorem dlaw_511 : decode code 511 = .ok (.iaload, 1) := by decide +kernel
theorem dlaw_512 : decode code 512 = .ok (.invokevirtual 71, 3) := by decide +kernel
theorem dlaw_515 : decode code 515 = .ok (.if_icmp .eq 289, 3) := by decide +kernel
theorem dlaw_518 : decode code 518 = .ok (.iconst 0, 1) := by decide +kernel
theorem dlaw_519 : decode code 519 = .ok (.ireturn, 1) := by decide +kernel
theorem dlaw_520 : decode code 520 = .ok (.aload_n 1, 1) := by decide +kernel
theorem dlaw_521 : decode code 521 = .ok (.aload_n 0, 1) := by decide +kernel
theorem dlaw_522 : decode code 522 = .ok (.iload_n 3, 1) := by decide +kernel
theorem dlaw_523 : decode code 523 = .ok (.iconst 1, 1) := by decide +kernel
theorem dlaw_524 : decode code 524 = .ok (.iadd, 1) := by decide +kernel
theorem dlaw_525 : decode code 525 = .ok (.iaload, 1) := by decide +kernel
theorem dlaw_526 : decode code 526 = .ok (.invokevirtual 72, 3) := by decide +kernel
theorem dlaw_529 : decode code 529 = .ok (.aload_n 2, 1) := by decide +kernel
theorem dlaw_530 : decode code 530 = .ok (.aload_n 0, 1) := by decide +kernel
theorem dlaw_531 : decode code 531 = .ok (.iload_n 3, 1) := by decide +kernel
theorem dlaw_532 : decode code 532 = .ok (.iconst 1, 1) := by decide +kernel
theorem dlaw_533 : decode code 533 = .ok (.iadd, 1) := by decide +kernel
theorem dlaw_534 : decode code 534 = .ok (.iaload, 1) := by decide +kernel
theorem dlaw_535 : decode code 535 = .ok (.invokevirtual 75, 3) := by decide +kernel
theorem dlaw_538 : decode code 538 = .ok (.if_icmp .eq 266, 3) := by decide +kernel
theorem dlaw_541 : decode code 541 = .ok (.iconst 0, 1) := by decide +kernel
theorem dlaw_542 : decode code 542 = .ok (.ireturn, 1) := by decide +kernel
theorem dlaw_543 : decode code 543 = .ok (.aload_n 1, 1) := by decide +kernel
theorem dlaw_544 : decode code 544 = .ok (.aload_n 0, 1) := by decide +kernel
theorem dlaw_545 : decode code 545 = .ok (.iload_n 3, 1) := by decide +kernel
theorem dlaw_546 : decode code 546 = .ok (.iconst 1, 1) := by decide +kernel
theorem dlaw_547 : decode code 547 = .ok (.iadd, 1) := by decide +kernel
theorem dlaw_548 : decode code 548 = .ok (.iaload, 1) := by decide +kernel
theorem dlaw_549 : decode code 549 = .ok (.aload_n 0, 1) := by decide +kernel
theorem dlaw_550 : decode code 550 = .ok (.iload_n 3, 1) := by decide +kernel
theorem dlaw_551 : decode code 551 = .ok (.iconst 2, 1) := by decide +kernel
theorem dlaw_552 : decode code 552 = .ok (.iadd, 1) := by decide +kernel
theorem dlaw_553 : decode code 553 = .ok (.iaload, 1) := by decide +kernel
theorem dlaw_554 : decode code 554 = .ok (.aload_n 0, 1) := by decide +kernel
theorem dlaw_555 : decode code 555 = .ok (.iload_n 3, 1) := by decide +kernel
theorem dlaw_556 : decode code 556 = .ok (.iconst 3, 1) := by decide +kernel
theorem dlaw_557 : decode code 557 = .ok (.iadd, 1) := by decide +kernel
theorem dlaw_558 : decode code 558 = .ok (.iaload, 1) := by decide +kernel
theorem dlaw_559 : decode code 559 = .ok (.invokevirtual 76, 3) := by decide +kernel
theorem dlaw_562 : decode code 562 = .ok (.aload_n 2, 1) := by decide +kernel
theorem dlaw_563 : decode code 563 = .ok (.aload_n 0, 1) := by decide +kernel
theorem dlaw_564 : decode code 564 = .ok (.iload_n 3, 1) := by decide +kernel
theorem dlaw_565 : decode code 565 = .ok (.iconst 1, 1) := by decide +kernel
theorem dlaw_566 : decode code 566 = .ok (.iadd, 1) := by decide +kernel
theorem dlaw_567 : decode code 567 = .ok (.iaload, 1) := by decide +kernel
theorem dlaw_568 : decode code 568 = .ok (.aload_n 0, 1) := by decide +kernel
theorem dlaw_569 : decode code 569 = .ok (.iload_n 3, 1) := by decide +kernel
theorem dlaw_570 : decode code 570 = .ok (.iconst 2, 1) := by decide +kernel
theorem dlaw_571 : decode code 571 = .ok (.iadd, 1) := by decide +kernel
theorem dlaw_572 : decode code 572 = .ok (.iaload, 1) := by decide +kernel
theorem dlaw_573 : decode code 573 = .ok (.aload_n 0, 1) := by decide +kernel
theorem dlaw_574 : decode code 574 = .ok (.iload_n 3, 1) := by decide +kernel
theorem dlaw_575 : decode code 575 = .ok (.iconst 3, 1) := by decide +kernel
theorem dlaw_576 : decode code 576 = .ok (.iadd, 1) := by decide +kernel
theorem dlaw_577 : decode code 577 = .ok (.iaload, 1) := by decide +kernel
theorem dlaw_578 : decode code 578 = .ok (.invokevirtual 80, 3) := by decide +kernel
theorem dlaw_581 : decode code 581 = .ok (.if_icmp .eq 223, 3) := by decide +kernel
theorem dlaw_584 : decode code 584 = .ok (.iconst 0, 1) := by decide +kernel
theorem dlaw_585 : decode code 585 = .ok (.ireturn, 1) := by decide +kernel
theorem dlaw_586 : decode code 586 = .ok (.aload_n 1, 1) := by decide +kernel
theorem dlaw_587 : decode code 587 = .ok (.aload_n 0, 1) := by decide +kernel
theorem dlaw_588 : decode code 588 = .ok (.iload_n 3, 1) := by decide +kernel
theorem dlaw_589 : decode code 589 = .ok (.iconst 1, 1) := by decide +kernel
theorem dlaw_590 : decode code 590 = .ok (.iadd, 1) := by decide +kernel
theorem dlaw_591 : decode code 591 = .ok (.iaload, 1) := by decide +kernel
theorem dlaw_592 : decode code 592 = .ok (.aload_n 0, 1) := by decide +kernel
theorem dlaw_593 : decode code 593 = .ok (.iload_n 3, 1) := by decide +kernel
theorem dlaw_594 : decode code 594 = .ok (.iconst 2, 1) := by decide +kernel
theorem dlaw_595 : decode code 595 = .ok (.iadd, 1) := by decide +kernel
theorem dlaw_596 : decode code 596 = .ok (.iaload, 1) := by decide +kernel
theorem dlaw_597 : decode code 597 = .ok (.aload_n 0, 1) := by decide +kernel
theorem dlaw_598 : decode code 598 = .ok (.iload_n 3, 1) := by decide +kernel
theorem dlaw_599 : decode code 599 = .ok (.iconst 3, 1) := by decide +kernel
theorem dlaw_600 : decode code 600 = .ok (.iadd, 1) := by decide +kernel
theorem dlaw_601 : decode code 601 = .ok (.iaload, 1) := by decide +kernel
theorem dlaw_602 : decode code 602 = .ok (.invokevirtual 81, 3) := by decide +kernel
theorem dlaw_605 : decode code 605 = .ok (.aload_n 2, 1) := by decide +kernel
theorem dlaw_606 : decode code 606 = .ok (.aload_n 0, 1) := by decide +kernel
theorem dlaw_607 : decode code 607 = .ok (.iload_n 3, 1) := by decide +kernel
theorem dlaw_608 : decode code 608 = .ok (.iconst 1, 1) := by decide +kernel
theorem dlaw_609 : decode code 609 = .ok (.iadd, 1) := by decide +kernel
theorem dlaw_610 : decode code 610 = .ok (.iaload, 1) := by decide +kernel
theorem dlaw_611 : decode code 611 = .ok (.aload_n 0, 1) := by decide +kernel
theorem dlaw_612 : decode code 612 = .ok (.iload_n 3, 1) := by decide +kernel
theorem dlaw_613 : decode code 613 = .ok (.iconst 2, 1) := by decide +kernel
theorem dlaw_614 : decode code 614 = .ok (.iadd, 1) := by decide +kernel
theorem dlaw_615 : decode code 615 = .ok (.iaload, 1) := by decide +kernel
theorem dlaw_616 : decode code 616 = .ok (.aload_n 0, 1) := by decide +kernel
theorem dlaw_617 : decode code 617 = .ok (.iload_n 3, 1) := by decide +kernel
theorem dlaw_618 : decode code 618 = .ok (.iconst 3, 1) := by decide +kernel
theorem dlaw_619 : decode code 619 = .ok (.iadd, 1) := by decide +kernel
theorem dlaw_620 : decode code 620 = .ok (.iaload, 1) := by decide +kernel
theorem dlaw_621 : decode code 621 = .ok (.invokevirtual 84, 3) := by decide +kernel
theorem dlaw_624 : decode code 624 = .ok (.if_icmp .eq 180, 3) := by decide +kernel
theorem dlaw_627 : decode code 627 = .ok (.iconst 0, 1) := by decide +kernel
theorem dlaw_628 : decode code 628 = .ok (.ireturn, 1) := by decide +kernel
theorem dlaw_629 : decode code 629 = .ok (.aload_n 1, 1) := by decide +kernel
theorem dlaw_630 : decode code 630 = .ok (.aload_n 0, 1) := by decide +kernel
theorem dlaw_631 : decode code 631 = .ok (.iload_n 3, 1) := by decide +kernel
theorem dlaw_632 : decode code 632 = .ok (.iconst 1, 1) := by decide +kernel
theorem dlaw_633 : decode code 633 = .ok (.iadd, 1) := by decide +kernel
theorem dlaw_634 : decode code 634 = .ok (.iaload, 1) := by decide +kernel
theorem dlaw_635 : decode code 635 = .ok (.aload_n 0, 1) := by decide +kernel
theorem dlaw_636 : decode code 636 = .ok (.iload_n 3, 1) := by decide +kernel
theorem dlaw_637 : decode code 637 = .ok (.iconst 2, 1) := by decide +kernel
theorem dlaw_638 : decode code 638 = .ok (.iadd, 1) := by decide +kernel
theorem dlaw_639 : decode code 639 = .ok (.iaload, 1) := by decide +kernel
theorem dlaw_640 : decode code 640 = .ok (.aload_n 0, 1) := by decide +kernel
theorem dlaw_641 : decode code 641 = .ok (.iload_n 3, 1) := by decide +kernel
theorem dlaw_642 : decode code 642 = .ok (.iconst 3, 1) := by decide +kernel
theorem dlaw_643 : decode code 643 = .ok (.iadd, 1) := by decide +kernel
theorem dlaw_644 : decode code 644 = .ok (.iaload, 1) := by decide +kernel
theorem dlaw_645 : decode code 645 = .ok (.invokevirtual 85, 3) := by decide +kernel
theorem dlaw_648 : decode code 648 = .ok (.aload_n 2, 1) := by decide +kernel
theorem dlaw_649 : decode code 649 = .ok (.aload_n 0, 1) := by decide +kernel
theorem dlaw_650 : decode code 650 = .ok (.iload_n 3, 1) := by decide +kernel
theorem dlaw_651 : decode code 651 = .ok (.iconst 1, 1) := by decide +kernel
theorem dlaw_652 : decode code 652 = .ok (.iadd, 1) := by decide +kernel
theorem dlaw_653 : decode code 653 = .ok (.iaload, 1) := by decide +kernel
theorem dlaw_654 : decode code 654 = .ok (.aload_n 0, 1) := by decide +kernel
theorem dlaw_655 : decode code 655 = .ok (.iload_n 3, 1) := by decide +kernel
theorem dlaw_656 : decode code 656 = .ok (.iconst 2, 1) := by decide +kernel
theorem dlaw_657 : decode code 657 = .ok (.iadd, 1) := by decide +kernel
theorem dlaw_658 : decode code 658 = .ok (.iaload, 1) := by decide +kernel
theorem dlaw_659 : decode code 659 = .ok (.aload_n 0, 1) := by decide +kernel
theorem dlaw_660 : decode code 660 = .ok (.iload_n 3, 1) := by decide +kernel
theorem dlaw_661 : decode code 661 = .ok (.iconst 3, 1) := by decide +kernel
theorem dlaw_662 : decode code 662 = .ok (.iadd, 1) := by decide +kernel
theorem dlaw_663 : decode code 663 = .ok (.iaload, 1) := by decide +kernel
theorem dlaw_664 : decode code 664 = .ok (.invokevirtual 89, 3) := by decide +kernel
theorem dlaw_667 : decode code 667 = .ok (.lcmp, 1) := by decide +kernel
theorem dlaw_668 : decode code 668 = .ok (.ifCond .eq 136, 3) := by decide +kernel
theorem dlaw_671 : decode code 671 = .ok (.iconst 0, 1) := by decide +kernel
theorem dlaw_672 : decode code 672 = .ok (.ireturn, 1) := by decide +kernel
theorem dlaw_673 : decode code 673 = .ok (.aload_n 1, 1) := by decide +kernel
theorem dlaw_674 : decode code 674 = .ok (.invokevirtual 90, 3) := by decide +kernel
theorem dlaw_677 : decode code 677 = .ok (.aload_n 2, 1) := by decide +kernel
theorem dlaw_678 : decode code 678 = .ok (.invokevirtual 93, 3) := by decide +kernel
theorem dlaw_681 : decode code 681 = .ok (.if_icmp .eq 123, 3) := by decide +kernel
theorem dlaw_684 : decode code 684 = .ok (.iconst 0, 1) := by decide +kernel
theorem dlaw_685 : decode code 685 = .ok (.ireturn, 1) := by decide +kernel
theorem dlaw_686 : decode code 686 = .ok (.aload_n 1, 1) := by decide +kernel
theorem dlaw_687 : decode code 687 = .ok (.aload_n 0, 1) := by decide +kernel
theorem dlaw_688 : decode code 688 = .ok (.iload_n 3, 1) := by decide +kernel
theorem dlaw_689 : decode code 689 = .ok (.iconst 1, 1) := by decide +kernel
theorem dlaw_690 : decode code 690 = .ok (.iadd, 1) := by decide +kernel
theorem dlaw_691 : decode code 691 = .ok (.iaload, 1) := by decide +kernel
theorem dlaw_692 : decode code 692 = .ok (.invokevirtual 94, 3) := by decide +kernel
theorem dlaw_695 : decode code 695 = .ok (.aload_n 2, 1) := by decide +kernel
theorem dlaw_696 : decode code 696 = .ok (.aload_n 0, 1) := by decide +kernel
theorem dlaw_697 : decode code 697 = .ok (.iload_n 3, 1) := by decide +kernel
theorem dlaw_698 : decode code 698 = .ok (.iconst 1, 1) := by decide +kernel
theorem dlaw_699 : decode code 699 = .ok (.iadd, 1) := by decide +kernel
theorem dlaw_700 : decode code 700 = .ok (.iaload, 1) := by decide +kernel
theorem dlaw_701 : decode code 701 = .ok (.invokevirtual 97, 3) := by decide +kernel
theorem dlaw_704 : decode code 704 = .ok (.if_icmp .eq 100, 3) := by decide +kernel
theorem dlaw_707 : decode code 707 = .ok (.iconst 0, 1) := by decide +kernel
theorem dlaw_708 : decode code 708 = .ok (.ireturn, 1) := by decide +kernel
theorem dlaw_709 : decode code 709 = .ok (.aload_n 1, 1) := by decide +kernel
theorem dlaw_710 : decode code 710 = .ok (.invokevirtual 98, 3) := by decide +kernel
theorem dlaw_713 : decode code 713 = .ok (.aload_n 2, 1) := by decide +kernel
theorem dlaw_714 : decode code 714 = .ok (.invokevirtual 101, 3) := by decide +kernel
theorem dlaw_717 : decode code 717 = .ok (.if_icmp .eq 87, 3) := by decide +kernel
theorem dlaw_720 : decode code 720 = .ok (.iconst 0, 1) := by decide +kernel
theorem dlaw_721 : decode code 721 = .ok (.ireturn, 1) := by decide +kernel
theorem dlaw_722 : decode code 722 = .ok (.aload_n 1, 1) := by decide +kernel
theorem dlaw_723 : decode code 723 = .ok (.aload_n 0, 1) := by decide +kernel
theorem dlaw_724 : decode code 724 = .ok (.iload_n 3, 1) := by decide +kernel
theorem dlaw_725 : decode code 725 = .ok (.iconst 1, 1) := by decide +kernel
theorem dlaw_726 : decode code 726 = .ok (.iadd, 1) := by decide +kernel
theorem dlaw_727 : decode code 727 = .ok (.iaload, 1) := by decide +kernel
theorem dlaw_728 : decode code 728 = .ok (.aload_n 0, 1) := by decide +kernel
theorem dlaw_729 : decode code 729 = .ok (.iload_n 3, 1) := by decide +kernel
theorem dlaw_730 : decode code 730 = .ok (.iconst 2, 1) := by decide +kernel
theorem dlaw_731 : decode code 731 = .ok (.iadd, 1) := by decide +kernel
theorem dlaw_732 : decode code 732 = .ok (.iaload, 1) := by decide +kernel
theorem dlaw_733 : decode code 733 = .ok (.invokevirtual 102, 3) := by decide +kernel
theorem dlaw_736 : decode code 736 = .ok (.aload_n 2, 1) := by decide +kernel
theorem dlaw_737 : decode code 737 = .ok (.aload_n 0, 1) := by decide +kernel
theorem dlaw_738 : decode code 738 = .ok (.iload_n 3, 1) := by decide +kernel
theorem dlaw_739 : decode code 739 = .ok (.iconst 1, 1) := by decide +kernel
theorem dlaw_740 : decode code 740 = .ok (.iadd, 1) := by decide +kernel
theorem dlaw_741 : decode code 741 = .ok (.iaload, 1) := by decide +kernel
theorem dlaw_742 : decode code 742 = .ok (.aload_n 0, 1) := by decide +kernel
theorem dlaw_743 : decode code 743 = .ok (.iload_n 3, 1) := by decide +kernel
theorem dlaw_744 : decode code 744 = .ok (.iconst 2, 1) := by decide +kernel
theorem dlaw_745 : decode code 745 = .ok (.iadd, 1) := by decide +kernel
theorem dlaw_746 : decode code 746 = .ok (.iaload, 1) := by decide +kernel
theorem dlaw_747 : decode code 747 = .ok (.invokevirtual 105, 3) := by decide +kernel
theorem dlaw_750 : decode code 750 = .ok (.if_icmp .eq 54, 3) := by decide +kernel
theorem dlaw_753 : decode code 753 = .ok (.iconst 0, 1) := by decide +kernel
theorem dlaw_754 : decode code 754 = .ok (.ireturn, 1) := by decide +kernel
theorem dlaw_755 : decode code 755 = .ok (.aload_n 1, 1) := by decide +kernel
theorem dlaw_756 : decode code 756 = .ok (.invokevirtual 106, 3) := by decide +kernel
theorem dlaw_759 : decode code 759 = .ok (.aload_n 2, 1) := by decide +kernel
theorem dlaw_760 : decode code 760 = .ok (.invokevirtual 109, 3) := by decide +kernel
theorem dlaw_763 : decode code 763 = .ok (.if_icmp .eq 41, 3) := by decide +kernel
theorem dlaw_766 : decode code 766 = .ok (.iconst 0, 1) := by decide +kernel
theorem dlaw_767 : decode code 767 = .ok (.ireturn, 1) := by decide +kernel
theorem dlaw_768 : decode code 768 = .ok (.aload_n 1, 1) := by decide +kernel
theorem dlaw_769 : decode code 769 = .ok (.invokevirtual 110, 3) := by decide +kernel
theorem dlaw_772 : decode code 772 = .ok (.aload_n 2, 1) := by decide +kernel
theorem dlaw_773 : decode code 773 = .ok (.invokevirtual 113, 3) := by decide +kernel
theorem dlaw_776 : decode code 776 = .ok (.if_icmp .eq 28, 3) := by decide +kernel
theorem dlaw_779 : decode code 779 = .ok (.iconst 0, 1) := by decide +kernel
theorem dlaw_780 : decode code 780 = .ok (.ireturn, 1) := by decide +kernel
theorem dlaw_781 : decode code 781 = .ok (.aload_n 1, 1) := by decide +kernel
theorem dlaw_782 : decode code 782 = .ok (.aload_n 0, 1) := by decide +kernel
theorem dlaw_783 : decode code 783 = .ok (.iload_n 3, 1) := by decide +kernel
theorem dlaw_784 : decode code 784 = .ok (.iconst 1, 1) := by decide +kernel
theorem dlaw_785 : decode code 785 = .ok (.iadd, 1) := by decide +kernel
theorem dlaw_786 : decode code 786 = .ok (.iaload, 1) := by decide +kernel
theorem dlaw_787 : decode code 787 = .ok (.invokevirtual 114, 3) := by decide +kernel
theorem dlaw_790 : decode code 790 = .ok (.aload_n 2, 1) := by decide +kernel
theorem dlaw_791 : decode code 791 = .ok (.aload_n 0, 1) := by decide +kernel
theorem dlaw_792 : decode code 792 = .ok (.iload_n 3, 1) := by decide +kernel
theorem dlaw_793 : decode code 793 = .ok (.iconst 1, 1) := by decide +kernel
theorem dlaw_794 : decode code 794 = .ok (.iadd, 1) := by decide +kernel
theorem dlaw_795 : decode code 795 = .ok (.iaload, 1) := by decide +kernel
theorem dlaw_796 : decode code 796 = .ok (.invokevirtual 117, 3) := by decide +kernel
theorem dlaw_799 : decode code 799 = .ok (.if_icmp .eq 5, 3) := by decide +kernel
theorem dlaw_802 : decode code 802 = .ok (.iconst 0, 1) := by decide +kernel
theorem dlaw_803 : decode code 803 = .ok (.ireturn, 1) := by decide +kernel
theorem dlaw_804 : decode code 804 = .ok (.iinc 3 4, 3) := by decide +kernel
theorem dlaw_807 : decode code 807 = .ok (.goto (-789), 3) := by decide +kernel
theorem dlaw_810 : decode code 810 = .ok (.iconst 1, 1) := by decide +kernel
theorem dlaw_811 : decode code 811 = .ok (.ireturn, 1) := by decide +kernel
