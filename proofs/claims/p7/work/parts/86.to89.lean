section
theorem dL_law_0 : decode cL_law 0 = .ok (.new 7, 3) := by decide +kernel
theorem dL_law_3 : decode cL_law 3 = .ok (.dup, 1) := by decide +kernel
theorem dL_law_4 : decode cL_law 4 = .ok (.invokespecial 9, 3) := by decide +kernel
theorem dL_law_7 : decode cL_law 7 = .ok (.astore_n 1, 1) := by decide +kernel
theorem dL_law_8 : decode cL_law 8 = .ok (.new 10, 3) := by decide +kernel
theorem dL_law_11 : decode cL_law 11 = .ok (.dup, 1) := by decide +kernel
theorem dL_law_12 : decode cL_law 12 = .ok (.invokespecial 12, 3) := by decide +kernel
theorem dL_law_15 : decode cL_law 15 = .ok (.astore_n 2, 1) := by decide +kernel
theorem dL_law_16 : decode cL_law 16 = .ok (.iconst 0, 1) := by decide +kernel
theorem dL_law_17 : decode cL_law 17 = .ok (.istore_n 3, 1) := by decide +kernel
theorem dL_law_18 : decode cL_law 18 = .ok (.iload_n 3, 1) := by decide +kernel
theorem dL_law_19 : decode cL_law 19 = .ok (.aload_n 0, 1) := by decide +kernel
theorem dL_law_20 : decode cL_law 20 = .ok (.arraylength, 1) := by decide +kernel
theorem dL_law_21 : decode cL_law 21 = .ok (.iconst 5, 1) := by decide +kernel
theorem dL_law_22 : decode cL_law 22 = .ok (.isub, 1) := by decide +kernel
theorem dL_law_23 : decode cL_law 23 = .ok (.if_icmp .gt 682, 3) := by decide +kernel
theorem dL_law_26 : decode cL_law 26 = .ok (.aload_n 0, 1) := by decide +kernel
theorem dL_law_27 : decode cL_law 27 = .ok (.iload_n 3, 1) := by decide +kernel
theorem dL_law_28 : decode cL_law 28 = .ok (.iaload, 1) := by decide +kernel
theorem dL_law_29 : decode cL_law 29 = .ok (.bipush 31, 2) := by decide +kernel
theorem dL_law_31 : decode cL_law 31 = .ok (.iand, 1) := by decide +kernel
theorem dL_law_32 : decode cL_law 32 = .ok (.tableswitch 667 0 22 #[108, 131, 144, 167, 180, 233, 256, 289, 302, 325, 358, 381, 414, 447, 470, 483, 516, 539, 562, 575, 598, 611, 624], 108) := by decide +kernel
theorem dL_law_140 : decode cL_law 140 = .ok (.aload_n 1, 1) := by decide +kernel
theorem dL_law_141 : decode cL_law 141 = .ok (.aload_n 0, 1) := by decide +kernel
theorem dL_law_142 : decode cL_law 142 = .ok (.iload_n 3, 1) := by decide +kernel
theorem dL_law_143 : decode cL_law 143 = .ok (.iconst 1, 1) := by decide +kernel
theorem dL_law_144 : decode cL_law 144 = .ok (.iadd, 1) := by decide +kernel
theorem dL_law_145 : decode cL_law 145 = .ok (.iaload, 1) := by decide +kernel
theorem dL_law_146 : decode cL_law 146 = .ok (.invokevirtual 13, 3) := by decide +kernel
theorem dL_law_149 : decode cL_law 149 = .ok (.pop, 1) := by decide +kernel
theorem dL_law_150 : decode cL_law 150 = .ok (.aload_n 2, 1) := by decide +kernel
theorem dL_law_151 : decode cL_law 151 = .ok (.aload_n 0, 1) := by decide +kernel
theorem dL_law_152 : decode cL_law 152 = .ok (.iload_n 3, 1) := by decide +kernel
theorem dL_law_153 : decode cL_law 153 = .ok (.iconst 1, 1) := by decide +kernel
theorem dL_law_154 : decode cL_law 154 = .ok (.iadd, 1) := by decide +kernel
theorem dL_law_155 : decode cL_law 155 = .ok (.iaload, 1) := by decide +kernel
theorem dL_law_156 : decode cL_law 156 = .ok (.invokevirtual 17, 3) := by decide +kernel
theorem dL_law_159 : decode cL_law 159 = .ok (.pop, 1) := by decide +kernel
theorem dL_law_160 : decode cL_law 160 = .ok (.goto 539, 3) := by decide +kernel
theorem dL_law_163 : decode cL_law 163 = .ok (.aload_n 1, 1) := by decide +kernel
theorem dL_law_164 : decode cL_law 164 = .ok (.invokevirtual 18, 3) := by decide +kernel
theorem dL_law_167 : decode cL_law 167 = .ok (.pop, 1) := by decide +kernel
theorem dL_law_168 : decode cL_law 168 = .ok (.aload_n 2, 1) := by decide +kernel
theorem dL_law_169 : decode cL_law 169 = .ok (.invokevirtual 22, 3) := by decide +kernel
theorem dL_law_172 : decode cL_law 172 = .ok (.pop, 1) := by decide +kernel
theorem dL_law_173 : decode cL_law 173 = .ok (.goto 526, 3) := by decide +kernel
theorem dL_law_176 : decode cL_law 176 = .ok (.aload_n 1, 1) := by decide +kernel
theorem dL_law_177 : decode cL_law 177 = .ok (.aload_n 0, 1) := by decide +kernel
theorem dL_law_178 : decode cL_law 178 = .ok (.iload_n 3, 1) := by decide +kernel
theorem dL_law_179 : decode cL_law 179 = .ok (.iconst 1, 1) := by decide +kernel
theorem dL_law_180 : decode cL_law 180 = .ok (.iadd, 1) := by decide +kernel
theorem dL_law_181 : decode cL_law 181 = .ok (.iaload, 1) := by decide +kernel
theorem dL_law_182 : decode cL_law 182 = .ok (.invokevirtual 23, 3) := by decide +kernel
theorem dL_law_185 : decode cL_law 185 = .ok (.pop, 1) := by decide +kernel
theorem dL_law_186 : decode cL_law 186 = .ok (.aload_n 2, 1) := by decide +kernel
theorem dL_law_187 : decode cL_law 187 = .ok (.aload_n 0, 1) := by decide +kernel
theorem dL_law_188 : decode cL_law 188 = .ok (.iload_n 3, 1) := by decide +kernel
theorem dL_law_189 : decode cL_law 189 = .ok (.iconst 1, 1) := by decide +kernel
theorem dL_law_190 : decode cL_law 190 = .ok (.iadd, 1) := by decide +kernel
theorem dL_law_191 : decode cL_law 191 = .ok (.iaload, 1) := by decide +kernel
theorem dL_law_192 : decode cL_law 192 = .ok (.invokevirtual 26, 3) := by decide +kernel
theorem dL_law_195 : decode cL_law 195 = .ok (.pop, 1) := by decide +kernel
theorem dL_law_196 : decode cL_law 196 = .ok (.goto 503, 3) := by decide +kernel
theorem dL_law_199 : decode cL_law 199 = .ok (.aload_n 1, 1) := by decide +kernel
theorem dL_law_200 : decode cL_law 200 = .ok (.invokevirtual 27, 3) := by decide +kernel
theorem dL_law_203 : decode cL_law 203 = .ok (.pop, 1) := by decide +kernel
theorem dL_law_204 : decode cL_law 204 = .ok (.aload_n 2, 1) := by decide +kernel
theorem dL_law_205 : decode cL_law 205 = .ok (.invokevirtual 30, 3) := by decide +kernel
theorem dL_law_208 : decode cL_law 208 = .ok (.pop, 1) := by decide +kernel
theorem dL_law_209 : decode cL_law 209 = .ok (.goto 490, 3) := by decide +kernel
theorem dL_law_212 : decode cL_law 212 = .ok (.aload_n 1, 1) := by decide +kernel
theorem dL_law_213 : decode cL_law 213 = .ok (.aload_n 0, 1) := by decide +kernel
theorem dL_law_214 : decode cL_law 214 = .ok (.iload_n 3, 1) := by decide +kernel
theorem dL_law_215 : decode cL_law 215 = .ok (.iconst 1, 1) := by decide +kernel
theorem dL_law_216 : decode cL_law 216 = .ok (.iadd, 1) := by decide +kernel
theorem dL_law_217 : decode cL_law 217 = .ok (.iaload, 1) := by decide +kernel
theorem dL_law_218 : decode cL_law 218 = .ok (.aload_n 0, 1) := by decide +kernel
theorem dL_law_219 : decode cL_law 219 = .ok (.iload_n 3, 1) := by decide +kernel
theorem dL_law_220 : decode cL_law 220 = .ok (.iconst 2, 1) := by decide +kernel
theorem dL_law_221 : decode cL_law 221 = .ok (.iadd, 1) := by decide +kernel
theorem dL_law_222 : decode cL_law 222 = .ok (.iaload, 1) := by decide +kernel
theorem dL_law_223 : decode cL_law 223 = .ok (.aload_n 0, 1) := by decide +kernel
theorem dL_law_224 : decode cL_law 224 = .ok (.iload_n 3, 1) := by decide +kernel
theorem dL_law_225 : decode cL_law 225 = .ok (.iconst 3, 1) := by decide +kernel
theorem dL_law_226 : decode cL_law 226 = .ok (.iadd, 1) := by decide +kernel
theorem dL_law_227 : decode cL_law 227 = .ok (.iaload, 1) := by decide +kernel
theorem dL_law_228 : decode cL_law 228 = .ok (.aload_n 0, 1) := by decide +kernel
theorem dL_law_229 : decode cL_law 229 = .ok (.iload_n 3, 1) := by decide +kernel
theorem dL_law_230 : decode cL_law 230 = .ok (.iconst 4, 1) := by decide +kernel
theorem dL_law_231 : decode cL_law 231 = .ok (.iadd, 1) := by decide +kernel
theorem dL_law_232 : decode cL_law 232 = .ok (.iaload, 1) := by decide +kernel
theorem dL_law_233 : decode cL_law 233 = .ok (.invokevirtual 31, 3) := by decide +kernel
theorem dL_law_236 : decode cL_law 236 = .ok (.pop, 1) := by decide +kernel
theorem dL_law_237 : decode cL_law 237 = .ok (.aload_n 2, 1) := by decide +kernel
theorem dL_law_238 : decode cL_law 238 = .ok (.aload_n 0, 1) := by decide +kernel
theorem dL_law_239 : decode cL_law 239 = .ok (.iload_n 3, 1) := by decide +kernel
theorem dL_law_240 : decode cL_law 240 = .ok (.iconst 1, 1) := by decide +kernel
theorem dL_law_241 : decode cL_law 241 = .ok (.iadd, 1) := by decide +kernel
theorem dL_law_242 : decode cL_law 242 = .ok (.iaload, 1) := by decide +kernel
theorem dL_law_243 : decode cL_law 243 = .ok (.aload_n 0, 1) := by decide +kernel
theorem dL_law_244 : decode cL_law 244 = .ok (.iload_n 3, 1) := by decide +kernel
theorem dL_law_245 : decode cL_law 245 = .ok (.iconst 2, 1) := by decide +kernel
theorem dL_law_246 : decode cL_law 246 = .ok (.iadd, 1) := by decide +kernel
theorem dL_law_247 : decode cL_law 247 = .ok (.iaload, 1) := by decide +kernel
theorem dL_law_248 : decode cL_law 248 = .ok (.aload_n 0, 1) := by decide +kernel
theorem dL_law_249 : decode cL_law 249 = .ok (.iload_n 3, 1) := by decide +kernel
theorem dL_law_250 : decode cL_law 250 = .ok (.iconst 3, 1) := by decide +kernel
theorem dL_law_251 : decode cL_law 251 = .ok (.iadd, 1) := by decide +kernel
theorem dL_law_252 : decode cL_law 252 = .ok (.iaload, 1) := by decide +kernel
theorem dL_law_253 : decode cL_law 253 = .ok (.aload_n 0, 1) := by decide +kernel
theorem dL_law_254 : decode cL_law 254 = .ok (.iload_n 3, 1) := by decide +kernel
theorem dL_law_255 : decode cL_law 255 = .ok (.iconst 4, 1) := by decide +kernel
theorem dL_law_256 : decode cL_law 256 = .ok (.iadd, 1) := by decide +kernel
theorem dL_law_257 : decode cL_law 257 = .ok (.iaload, 1) := by decide +kernel
theorem dL_law_258 : decode cL_law 258 = .ok (.invokevirtual 35, 3) := by decide +kernel
theorem dL_law_261 : decode cL_law 261 = .ok (.pop, 1) := by decide +kernel
theorem dL_law_262 : decode cL_law 262 = .ok (.goto 437, 3) := by decide +kernel
theorem dL_law_265 : decode cL_law 265 = .ok (.aload_n 1, 1) := by decide +kernel
theorem dL_law_266 : decode cL_law 266 = .ok (.aload_n 0, 1) := by decide +kernel
theorem dL_law_267 : decode cL_law 267 = .ok (.iload_n 3, 1) := by decide +kernel
theorem dL_law_268 : decode cL_law 268 = .ok (.iconst 1, 1) := by decide +kernel
theorem dL_law_269 : decode cL_law 269 = .ok (.iadd, 1) := by decide +kernel
theorem dL_law_270 : decode cL_law 270 = .ok (.iaload, 1) := by decide +kernel
theorem dL_law_271 : decode cL_law 271 = .ok (.invokevirtual 36, 3) := by decide +kernel
theorem dL_law_274 : decode cL_law 274 = .ok (.aload_n 2, 1) := by decide +kernel
theorem dL_law_275 : decode cL_law 275 = .ok (.aload_n 0, 1) := by decide +kernel
theorem dL_law_276 : decode cL_law 276 = .ok (.iload_n 3, 1) := by decide +kernel
theorem dL_law_277 : decode cL_law 277 = .ok (.iconst 1, 1) := by decide +kernel
theorem dL_law_278 : decode cL_law 278 = .ok (.iadd, 1) := by decide +kernel
theorem dL_law_279 : decode cL_law 279 = .ok (.iaload, 1) := by decide +kernel
theorem dL_law_280 : decode cL_law 280 = .ok (.invokevirtual 39, 3) := by decide +kernel
theorem dL_law_283 : decode cL_law 283 = .ok (.if_icmp .eq 416, 3) := by decide +kernel
theorem dL_law_286 : decode cL_law 286 = .ok (.iconst 0, 1) := by decide +kernel
theorem dL_law_287 : decode cL_law 287 = .ok (.ireturn, 1) := by decide +kernel
theorem dL_law_288 : decode cL_law 288 = .ok (.aload_n 1, 1) := by decide +kernel
theorem dL_law_289 : decode cL_law 289 = .ok (.aload_n 0, 1) := by decide +kernel
theorem dL_law_290 : decode cL_law 290 = .ok (.iload_n 3, 1) := by decide +kernel
theorem dL_law_291 : decode cL_law 291 = .ok (.iconst 1, 1) := by decide +kernel
theorem dL_law_292 : decode cL_law 292 = .ok (.iadd, 1) := by decide +kernel
theorem dL_law_293 : decode cL_law 293 = .ok (.iaload, 1) := by decide +kernel
theorem dL_law_294 : decode cL_law 294 = .ok (.aload_n 0, 1) := by decide +kernel
theorem dL_law_295 : decode cL_law 295 = .ok (.iload_n 3, 1) := by decide +kernel
theorem dL_law_296 : decode cL_law 296 = .ok (.iconst 2, 1) := by decide +kernel
theorem dL_law_297 : decode cL_law 297 = .ok (.iadd, 1) := by decide +kernel
theorem dL_law_298 : decode cL_law 298 = .ok (.iaload, 1) := by decide +kernel
theorem dL_law_299 : decode cL_law 299 = .ok (.invokevirtual 40, 3) := by decide +kernel
theorem dL_law_302 : decode cL_law 302 = .ok (.pop, 1) := by decide +kernel
theorem dL_law_303 : decode cL_law 303 = .ok (.aload_n 2, 1) := by decide +kernel
theorem dL_law_304 : decode cL_law 304 = .ok (.aload_n 0, 1) := by decide +kernel
theorem dL_law_305 : decode cL_law 305 = .ok (.iload_n 3, 1) := by decide +kernel
theorem dL_law_306 : decode cL_law 306 = .ok (.iconst 1, 1) := by decide +kernel
theorem dL_law_307 : decode cL_law 307 = .ok (.iadd, 1) := by decide +kernel
theorem dL_law_308 : decode cL_law 308 = .ok (.iaload, 1) := by decide +kernel
theorem dL_law_309 : decode cL_law 309 = .ok (.aload_n 0, 1) := by decide +kernel
theorem dL_law_310 : decode cL_law 310 = .ok (.iload_n 3, 1) := by decide +kernel
theorem dL_law_311 : decode cL_law 311 = .ok (.iconst 2, 1) := by decide +kernel
theorem dL_law_312 : decode cL_law 312 = .ok (.iadd, 1) := by decide +kernel
theorem dL_law_313 : decode cL_law 313 = .ok (.iaload, 1) := by decide +kernel
theorem dL_law_314 : decode cL_law 314 = .ok (.invokevirtual 44, 3) := by decide +kernel
theorem dL_law_317 : decode cL_law 317 = .ok (.pop, 1) := by decide +kernel
theorem dL_law_318 : decode cL_law 318 = .ok (.goto 381, 3) := by decide +kernel
theorem dL_law_321 : decode cL_law 321 = .ok (.aload_n 1, 1) := by decide +kernel
theorem dL_law_322 : decode cL_law 322 = .ok (.invokevirtual 45, 3) := by decide +kernel
theorem dL_law_325 : decode cL_law 325 = .ok (.pop, 1) := by decide +kernel
theorem dL_law_326 : decode cL_law 326 = .ok (.aload_n 2, 1) := by decide +kernel
theorem dL_law_327 : decode cL_law 327 = .ok (.invokevirtual 48, 3) := by decide +kernel
theorem dL_law_330 : decode cL_law 330 = .ok (.pop, 1) := by decide +kernel
theorem dL_law_331 : decode cL_law 331 = .ok (.goto 368, 3) := by decide +kernel
theorem dL_law_334 : decode cL_law 334 = .ok (.aload_n 1, 1) := by decide +kernel
theorem dL_law_335 : decode cL_law 335 = .ok (.aload_n 0, 1) := by decide +kernel
theorem dL_law_336 : decode cL_law 336 = .ok (.iload_n 3, 1) := by decide +kernel
theorem dL_law_337 : decode cL_law 337 = .ok (.iconst 1, 1) := by decide +kernel
theorem dL_law_338 : decode cL_law 338 = .ok (.iadd, 1) := by decide +kernel
theorem dL_law_339 : decode cL_law 339 = .ok (.iaload, 1) := by decide +kernel
theorem dL_law_340 : decode cL_law 340 = .ok (.invokevirtual 49, 3) := by decide +kernel
theorem dL_law_343 : decode cL_law 343 = .ok (.pop, 1) := by decide +kernel
theorem dL_law_344 : decode cL_law 344 = .ok (.aload_n 2, 1) := by decide +kernel
theorem dL_law_345 : decode cL_law 345 = .ok (.aload_n 0, 1) := by decide +kernel
theorem dL_law_346 : decode cL_law 346 = .ok (.iload_n 3, 1) := by decide +kernel
theorem dL_law_347 : decode cL_law 347 = .ok (.iconst 1, 1) := by decide +kernel
theorem dL_law_348 : decode cL_law 348 = .ok (.iadd, 1) := by decide +kernel
theorem dL_law_349 : decode cL_law 349 = .ok (.iaload, 1) := by decide +kernel
theorem dL_law_350 : decode cL_law 350 = .ok (.invokevirtual 52, 3) := by decide +kernel
theorem dL_law_353 : decode cL_law 353 = .ok (.pop, 1) := by decide +kernel
theorem dL_law_354 : decode cL_law 354 = .ok (.goto 345, 3) := by decide +kernel
theorem dL_law_357 : decode cL_law 357 = .ok (.aload_n 1, 1) := by decide +kernel
theorem dL_law_358 : decode cL_law 358 = .ok (.aload_n 0, 1) := by decide +kernel
theorem dL_law_359 : decode cL_law 359 = .ok (.iload_n 3, 1) := by decide +kernel
theorem dL_law_360 : decode cL_law 360 = .ok (.iconst 1, 1) := by decide +kernel
theorem dL_law_361 : decode cL_law 361 = .ok (.iadd, 1) := by decide +kernel
theorem dL_law_362 : decode cL_law 362 = .ok (.iaload, 1) := by decide +kernel
theorem dL_law_363 : decode cL_law 363 = .ok (.aload_n 0, 1) := by decide +kernel
theorem dL_law_364 : decode cL_law 364 = .ok (.iload_n 3, 1) := by decide +kernel
theorem dL_law_365 : decode cL_law 365 = .ok (.iconst 2, 1) := by decide +kernel
theorem dL_law_366 : decode cL_law 366 = .ok (.iadd, 1) := by decide +kernel
theorem dL_law_367 : decode cL_law 367 = .ok (.iaload, 1) := by decide +kernel
theorem dL_law_368 : decode cL_law 368 = .ok (.invokevirtual 53, 3) := by decide +kernel
theorem dL_law_371 : decode cL_law 371 = .ok (.pop, 1) := by decide +kernel
theorem dL_law_372 : decode cL_law 372 = .ok (.aload_n 2, 1) := by decide +kernel
theorem dL_law_373 : decode cL_law 373 = .ok (.aload_n 0, 1) := by decide +kernel
theorem dL_law_374 : decode cL_law 374 = .ok (.iload_n 3, 1) := by decide +kernel
theorem dL_law_375 : decode cL_law 375 = .ok (.iconst 1, 1) := by decide +kernel
theorem dL_law_376 : decode cL_law 376 = .ok (.iadd, 1) := by decide +kernel
theorem dL_law_377 : decode cL_law 377 = .ok (.iaload, 1) := by decide +kernel
theorem dL_law_378 : decode cL_law 378 = .ok (.aload_n 0, 1) := by decide +kernel
theorem dL_law_379 : decode cL_law 379 = .ok (.iload_n 3, 1) := by decide +kernel
theorem dL_law_380 : decode cL_law 380 = .ok (.iconst 2, 1) := by decide +kernel
theorem dL_law_381 : decode cL_law 381 = .ok (.iadd, 1) := by decide +kernel
theorem dL_law_382 : decode cL_law 382 = .ok (.iaload, 1) := by decide +kernel
theorem dL_law_383 : decode cL_law 383 = .ok (.invokevirtual 56, 3) := by decide +kernel
theorem dL_law_386 : decode cL_law 386 = .ok (.pop, 1) := by decide +kernel
theorem dL_law_387 : decode cL_law 387 = .ok (.goto 312, 3) := by decide +kernel
theorem dL_law_390 : decode cL_law 390 = .ok (.aload_n 1, 1) := by decide +kernel
theorem dL_law_391 : decode cL_law 391 = .ok (.aload_n 0, 1) := by decide +kernel
theorem dL_law_392 : decode cL_law 392 = .ok (.iload_n 3, 1) := by decide +kernel
theorem dL_law_393 : decode cL_law 393 = .ok (.iconst 1, 1) := by decide +kernel
theorem dL_law_394 : decode cL_law 394 = .ok (.iadd, 1) := by decide +kernel
theorem dL_law_395 : decode cL_law 395 = .ok (.iaload, 1) := by decide +kernel
theorem dL_law_396 : decode cL_law 396 = .ok (.invokevirtual 57, 3) := by decide +kernel
theorem dL_law_399 : decode cL_law 399 = .ok (.pop, 1) := by decide +kernel
theorem dL_law_400 : decode cL_law 400 = .ok (.aload_n 2, 1) := by decide +kernel
theorem dL_law_401 : decode cL_law 401 = .ok (.aload_n 0, 1) := by decide +kernel
theorem dL_law_402 : decode cL_law 402 = .ok (.iload_n 3, 1) := by decide +kernel
theorem dL_law_403 : decode cL_law 403 = .ok (.iconst 1, 1) := by decide +kernel
theorem dL_law_404 : decode cL_law 404 = .ok (.iadd, 1) := by decide +kernel
theorem dL_law_405 : decode cL_law 405 = .ok (.iaload, 1) := by decide +kernel
theorem dL_law_406 : decode cL_law 406 = .ok (.invokevirtual 60, 3) := by decide +kernel
theorem dL_law_409 : decode cL_law 409 = .ok (.pop, 1) := by decide +kernel
theorem dL_law_410 : decode cL_law 410 = .ok (.goto 289, 3) := by decide +kernel
theorem dL_law_413 : decode cL_law 413 = .ok (.aload_n 1, 1) := by decide +kernel
theorem dL_law_414 : decode cL_law 414 = .ok (.aload_n 0, 1) := by decide +kernel
theorem dL_law_415 : decode cL_law 415 = .ok (.iload_n 3, 1) := by decide +kernel
theorem dL_law_416 : decode cL_law 416 = .ok (.iconst 1, 1) := by decide +kernel
theorem dL_law_417 : decode cL_law 417 = .ok (.iadd, 1) := by decide +kernel
theorem dL_law_418 : decode cL_law 418 = .ok (.iaload, 1) := by decide +kernel
theorem dL_law_419 : decode cL_law 419 = .ok (.aload_n 0, 1) := by decide +kernel
theorem dL_law_420 : decode cL_law 420 = .ok (.iload_n 3, 1) := by decide +kernel
theorem dL_law_421 : decode cL_law 421 = .ok (.iconst 2, 1) := by decide +kernel
theorem dL_law_422 : decode cL_law 422 = .ok (.iadd, 1) := by decide +kernel
theorem dL_law_423 : decode cL_law 423 = .ok (.iaload, 1) := by decide +kernel
theorem dL_law_424 : decode cL_law 424 = .ok (.invokevirtual 61, 3) := by decide +kernel
theorem dL_law_427 : decode cL_law 427 = .ok (.pop, 1) := by decide +kernel
theorem dL_law_428 : decode cL_law 428 = .ok (.aload_n 2, 1) := by decide +kernel
theorem dL_law_429 : decode cL_law 429 = .ok (.aload_n 0, 1) := by decide +kernel
theorem dL_law_430 : decode cL_law 430 = .ok (.iload_n 3, 1) := by decide +kernel
theorem dL_law_431 : decode cL_law 431 = .ok (.iconst 1, 1) := by decide +kernel
theorem dL_law_432 : decode cL_law 432 = .ok (.iadd, 1) := by decide +kernel
theorem dL_law_433 : decode cL_law 433 = .ok (.iaload, 1) := by decide +kernel
theorem dL_law_434 : decode cL_law 434 = .ok (.aload_n 0, 1) := by decide +kernel
theorem dL_law_435 : decode cL_law 435 = .ok (.iload_n 3, 1) := by decide +kernel
theorem dL_law_436 : decode cL_law 436 = .ok (.iconst 2, 1) := by decide +kernel
theorem dL_law_437 : decode cL_law 437 = .ok (.iadd, 1) := by decide +kernel
theorem dL_law_438 : decode cL_law 438 = .ok (.iaload, 1) := by decide +kernel
theorem dL_law_439 : decode cL_law 439 = .ok (.invokevirtual 64, 3) := by decide +kernel
theorem dL_law_442 : decode cL_law 442 = .ok (.pop, 1) := by decide +kernel
theorem dL_law_443 : decode cL_law 443 = .ok (.goto 256, 3) := by decide +kernel
theorem dL_law_446 : decode cL_law 446 = .ok (.aload_n 1, 1) := by decide +kernel
theorem dL_law_447 : decode cL_law 447 = .ok (.aload_n 0, 1) := by decide +kernel
theorem dL_law_448 : decode cL_law 448 = .ok (.iload_n 3, 1) := by decide +kernel
theorem dL_law_449 : decode cL_law 449 = .ok (.iconst 1, 1) := by decide +kernel
theorem dL_law_450 : decode cL_law 450 = .ok (.iadd, 1) := by decide +kernel
theorem dL_law_451 : decode cL_law 451 = .ok (.iaload, 1) := by decide +kernel
theorem dL_law_452 : decode cL_law 452 = .ok (.aload_n 0, 1) := by decide +kernel
theorem dL_law_453 : decode cL_law 453 = .ok (.iload_n 3, 1) := by decide +kernel
theorem dL_law_454 : decode cL_law 454 = .ok (.iconst 2, 1) := by decide +kernel
theorem dL_law_455 : decode cL_law 455 = .ok (.iadd, 1) := by decide +kernel
theorem dL_law_456 : decode cL_law 456 = .ok (.iaload, 1) := by decide +kernel
theorem dL_law_457 : decode cL_law 457 = .ok (.invokevirtual 65, 3) := by decide +kernel
theorem dL_law_460 : decode cL_law 460 = .ok (.pop, 1) := by decide +kernel
theorem dL_law_461 : decode cL_law 461 = .ok (.aload_n 2, 1) := by decide +kernel
theorem dL_law_462 : decode cL_law 462 = .ok (.aload_n 0, 1) := by decide +kernel
theorem dL_law_463 : decode cL_law 463 = .ok (.iload_n 3, 1) := by decide +kernel
theorem dL_law_464 : decode cL_law 464 = .ok (.iconst 1, 1) := by decide +kernel
theorem dL_law_465 : decode cL_law 465 = .ok (.iadd, 1) := by decide +kernel
theorem dL_law_466 : decode cL_law 466 = .ok (.iaload, 1) := by decide +kernel
theorem dL_law_467 : decode cL_law 467 = .ok (.aload_n 0, 1) := by decide +kernel
theorem dL_law_468 : decode cL_law 468 = .ok (.iload_n 3, 1) := by decide +kernel
theorem dL_law_469 : decode cL_law 469 = .ok (.iconst 2, 1) := by decide +kernel
theorem dL_law_470 : decode cL_law 470 = .ok (.iadd, 1) := by decide +kernel
theorem dL_law_471 : decode cL_law 471 = .ok (.iaload, 1) := by decide +kernel
theorem dL_law_472 : decode cL_law 472 = .ok (.invokevirtual 68, 3) := by decide +kernel
theorem dL_law_475 : decode cL_law 475 = .ok (.pop, 1) := by decide +kernel
theorem dL_law_476 : decode cL_law 476 = .ok (.goto 223, 3) := by decide +kernel
theorem dL_law_479 : decode cL_law 479 = .ok (.aload_n 1, 1) := by decide +kernel
theorem dL_law_480 : decode cL_law 480 = .ok (.aload_n 0, 1) := by decide +kernel
theorem dL_law_481 : decode cL_law 481 = .ok (.iload_n 3, 1) := by decide +kernel
theorem dL_law_482 : decode cL_law 482 = .ok (.iconst 1, 1) := by decide +kernel
theorem dL_law_483 : decode cL_law 483 = .ok (.iadd, 1) := by decide +kernel
theorem dL_law_484 : decode cL_law 484 = .ok (.iaload, 1) := by decide +kernel
theorem dL_law_485 : decode cL_law 485 = .ok (.invokevirtual 69, 3) := by decide +kernel
theorem dL_law_488 : decode cL_law 488 = .ok (.pop, 1) := by decide +kernel
theorem dL_law_489 : decode cL_law 489 = .ok (.aload_n 2, 1) := by decide +kernel
theorem dL_law_490 : decode cL_law 490 = .ok (.aload_n 0, 1) := by decide +kernel
theorem dL_law_491 : decode cL_law 491 = .ok (.iload_n 3, 1) := by decide +kernel
theorem dL_law_492 : decode cL_law 492 = .ok (.iconst 1, 1) := by decide +kernel
theorem dL_law_493 : decode cL_law 493 = .ok (.iadd, 1) := by decide +kernel
theorem dL_law_494 : decode cL_law 494 = .ok (.iaload, 1) := by decide +kernel
theorem dL_law_495 : decode cL_law 495 = .ok (.invokevirtual 72, 3) := by decide +kernel
theorem dL_law_498 : decode cL_law 498 = .ok (.pop, 1) := by decide +kernel
theorem dL_law_499 : decode cL_law 499 = .ok (.goto 200, 3) := by decide +kernel
theorem dL_law_502 : decode cL_law 502 = .ok (.aload_n 1, 1) := by decide +kernel
theorem dL_law_503 : decode cL_law 503 = .ok (.invokevirtual 73, 3) := by decide +kernel
theorem dL_law_506 : decode cL_law 506 = .ok (.pop, 1) := by decide +kernel
theorem dL_law_507 : decode cL_law 507 = .ok (.aload_n 2, 1) := by decide +kernel
theorem dL_law_508 : decode cL_law 508 = .ok (.invokevirtual 76, 3) := by decide +kernel
theorem dL_law_511 : decode cL_law 511 = .ok (.pop, 1) := by decide +kernel
theorem dL_law_512 : decode cL_law 512 = .ok (.goto 187, 3) := by decide +kernel
theorem dL_law_515 : decode cL_law 515 = .ok (.aload_n 1, 1) := by decide +kernel
theorem dL_law_516 : decode cL_law 516 = .ok (.aload_n 0, 1) := by decide +kernel
theorem dL_law_517 : decode cL_law 517 = .ok (.iload_n 3, 1) := by decide +kernel
theorem dL_law_518 : decode cL_law 518 = .ok (.iconst 1, 1) := by decide +kernel
theorem dL_law_519 : decode cL_law 519 = .ok (.iadd, 1) := by decide +kernel
theorem dL_law_520 : decode cL_law 520 = .ok (.iaload, 1) := by decide +kernel
theorem dL_law_521 : decode cL_law 521 = .ok (.aload_n 0, 1) := by decide +kernel
theorem dL_law_522 : decode cL_law 522 = .ok (.iload_n 3, 1) := by decide +kernel
theorem dL_law_523 : decode cL_law 523 = .ok (.iconst 2, 1) := by decide +kernel
theorem dL_law_524 : decode cL_law 524 = .ok (.iadd, 1) := by decide +kernel
theorem dL_law_525 : decode cL_law 525 = .ok (.iaload, 1) := by decide +kernel
theorem dL_law_526 : decode cL_law 526 = .ok (.invokevirtual 77, 3) := by decide +kernel
theorem dL_law_529 : decode cL_law 529 = .ok (.pop, 1) := by decide +kernel
theorem dL_law_530 : decode cL_law 530 = .ok (.aload_n 2, 1) := by decide +kernel
theorem dL_law_531 : decode cL_law 531 = .ok (.aload_n 0, 1) := by decide +kernel
theorem dL_law_532 : decode cL_law 532 = .ok (.iload_n 3, 1) := by decide +kernel
theorem dL_law_533 : decode cL_law 533 = .ok (.iconst 1, 1) := by decide +kernel
theorem dL_law_534 : decode cL_law 534 = .ok (.iadd, 1) := by decide +kernel
theorem dL_law_535 : decode cL_law 535 = .ok (.iaload, 1) := by decide +kernel
theorem dL_law_536 : decode cL_law 536 = .ok (.aload_n 0, 1) := by decide +kernel
theorem dL_law_537 : decode cL_law 537 = .ok (.iload_n 3, 1) := by decide +kernel
theorem dL_law_538 : decode cL_law 538 = .ok (.iconst 2, 1) := by decide +kernel
theorem dL_law_539 : decode cL_law 539 = .ok (.iadd, 1) := by decide +kernel
theorem dL_law_540 : decode cL_law 540 = .ok (.iaload, 1) := by decide +kernel
theorem dL_law_541 : decode cL_law 541 = .ok (.invokevirtual 80, 3) := by decide +kernel
theorem dL_law_544 : decode cL_law 544 = .ok (.pop, 1) := by decide +kernel
theorem dL_law_545 : decode cL_law 545 = .ok (.goto 154, 3) := by decide +kernel
theorem dL_law_548 : decode cL_law 548 = .ok (.aload_n 1, 1) := by decide +kernel
theorem dL_law_549 : decode cL_law 549 = .ok (.aload_n 0, 1) := by decide +kernel
theorem dL_law_550 : decode cL_law 550 = .ok (.iload_n 3, 1) := by decide +kernel
theorem dL_law_551 : decode cL_law 551 = .ok (.iconst 1, 1) := by decide +kernel
theorem dL_law_552 : decode cL_law 552 = .ok (.iadd, 1) := by decide +kernel
theorem dL_law_553 : decode cL_law 553 = .ok (.iaload, 1) := by decide +kernel
theorem dL_law_554 : decode cL_law 554 = .ok (.invokevirtual 81, 3) := by decide +kernel
theorem dL_law_557 : decode cL_law 557 = .ok (.pop, 1) := by decide +kernel
theorem dL_law_558 : decode cL_law 558 = .ok (.aload_n 2, 1) := by decide +kernel
theorem dL_law_559 : decode cL_law 559 = .ok (.aload_n 0, 1) := by decide +kernel
theorem dL_law_560 : decode cL_law 560 = .ok (.iload_n 3, 1) := by decide +kernel
theorem dL_law_561 : decode cL_law 561 = .ok (.iconst 1, 1) := by decide +kernel
theorem dL_law_562 : decode cL_law 562 = .ok (.iadd, 1) := by decide +kernel
theorem dL_law_563 : decode cL_law 563 = .ok (.iaload, 1) := by decide +kernel
theorem dL_law_564 : decode cL_law 564 = .ok (.invokevirtual 84, 3) := by decide +kernel
theorem dL_law_567 : decode cL_law 567 = .ok (.pop, 1) := by decide +kernel
theorem dL_law_568 : decode cL_law 568 = .ok (.goto 131, 3) := by decide +kernel
theorem dL_law_571 : decode cL_law 571 = .ok (.aload_n 1, 1) := by decide +kernel
theorem dL_law_572 : decode cL_law 572 = .ok (.aload_n 0, 1) := by decide +kernel
theorem dL_law_573 : decode cL_law 573 = .ok (.iload_n 3, 1) := by decide +kernel
theorem dL_law_574 : decode cL_law 574 = .ok (.iconst 1, 1) := by decide +kernel
theorem dL_law_575 : decode cL_law 575 = .ok (.iadd, 1) := by decide +kernel
theorem dL_law_576 : decode cL_law 576 = .ok (.iaload, 1) := by decide +kernel
theorem dL_law_577 : decode cL_law 577 = .ok (.invokevirtual 85, 3) := by decide +kernel
theorem dL_law_580 : decode cL_law 580 = .ok (.pop, 1) := by decide +kernel
theorem dL_law_581 : decode cL_law 581 = .ok (.aload_n 2, 1) := by decide +kernel
theorem dL_law_582 : decode cL_law 582 = .ok (.aload_n 0, 1) := by decide +kernel
theorem dL_law_583 : decode cL_law 583 = .ok (.iload_n 3, 1) := by decide +kernel
theorem dL_law_584 : decode cL_law 584 = .ok (.iconst 1, 1) := by decide +kernel
theorem dL_law_585 : decode cL_law 585 = .ok (.iadd, 1) := by decide +kernel
theorem dL_law_586 : decode cL_law 586 = .ok (.iaload, 1) := by decide +kernel
theorem dL_law_587 : decode cL_law 587 = .ok (.invokevirtual 88, 3) := by decide +kernel
theorem dL_law_590 : decode cL_law 590 = .ok (.pop, 1) := by decide +kernel
theorem dL_law_591 : decode cL_law 591 = .ok (.goto 108, 3) := by decide +kernel
theorem dL_law_594 : decode cL_law 594 = .ok (.aload_n 1, 1) := by decide +kernel
theorem dL_law_595 : decode cL_law 595 = .ok (.invokevirtual 89, 3) := by decide +kernel
theorem dL_law_598 : decode cL_law 598 = .ok (.pop, 1) := by decide +kernel
theorem dL_law_599 : decode cL_law 599 = .ok (.aload_n 2, 1) := by decide +kernel
theorem dL_law_600 : decode cL_law 600 = .ok (.invokevirtual 92, 3) := by decide +kernel
theorem dL_law_603 : decode cL_law 603 = .ok (.pop, 1) := by decide +kernel
theorem dL_law_604 : decode cL_law 604 = .ok (.goto 95, 3) := by decide +kernel
theorem dL_law_607 : decode cL_law 607 = .ok (.aload_n 1, 1) := by decide +kernel
theorem dL_law_608 : decode cL_law 608 = .ok (.aload_n 0, 1) := by decide +kernel
theorem dL_law_609 : decode cL_law 609 = .ok (.iload_n 3, 1) := by decide +kernel
theorem dL_law_610 : decode cL_law 610 = .ok (.iconst 1, 1) := by decide +kernel
theorem dL_law_611 : decode cL_law 611 = .ok (.iadd, 1) := by decide +kernel
theorem dL_law_612 : decode cL_law 612 = .ok (.iaload, 1) := by decide +kernel
theorem dL_law_613 : decode cL_law 613 = .ok (.invokevirtual 93, 3) := by decide +kernel
theorem dL_law_616 : decode cL_law 616 = .ok (.pop, 1) := by decide +kernel
theorem dL_law_617 : decode cL_law 617 = .ok (.aload_n 2, 1) := by decide +kernel
theorem dL_law_618 : decode cL_law 618 = .ok (.aload_n 0, 1) := by decide +kernel
theorem dL_law_619 : decode cL_law 619 = .ok (.iload_n 3, 1) := by decide +kernel
theorem dL_law_620 : decode cL_law 620 = .ok (.iconst 1, 1) := by decide +kernel
theorem dL_law_621 : decode cL_law 621 = .ok (.iadd, 1) := by decide +kernel
theorem dL_law_622 : decode cL_law 622 = .ok (.iaload, 1) := by decide +kernel
theorem dL_law_623 : decode cL_law 623 = .ok (.invokevirtual 96, 3) := by decide +kernel
theorem dL_law_626 : decode cL_law 626 = .ok (.pop, 1) := by decide +kernel
theorem dL_law_627 : decode cL_law 627 = .ok (.goto 72, 3) := by decide +kernel
theorem dL_law_630 : decode cL_law 630 = .ok (.aload_n 1, 1) := by decide +kernel
theorem dL_law_631 : decode cL_law 631 = .ok (.invokevirtual 97, 3) := by decide +kernel
theorem dL_law_634 : decode cL_law 634 = .ok (.pop, 1) := by decide +kernel
theorem dL_law_635 : decode cL_law 635 = .ok (.aload_n 2, 1) := by decide +kernel
theorem dL_law_636 : decode cL_law 636 = .ok (.invokevirtual 100, 3) := by decide +kernel
theorem dL_law_639 : decode cL_law 639 = .ok (.pop, 1) := by decide +kernel
theorem dL_law_640 : decode cL_law 640 = .ok (.goto 59, 3) := by decide +kernel
theorem dL_law_643 : decode cL_law 643 = .ok (.aload_n 1, 1) := by decide +kernel
theorem dL_law_644 : decode cL_law 644 = .ok (.invokevirtual 101, 3) := by decide +kernel
theorem dL_law_647 : decode cL_law 647 = .ok (.pop, 1) := by decide +kernel
theorem dL_law_648 : decode cL_law 648 = .ok (.aload_n 2, 1) := by decide +kernel
theorem dL_law_649 : decode cL_law 649 = .ok (.invokevirtual 104, 3) := by decide +kernel
theorem dL_law_652 : decode cL_law 652 = .ok (.pop, 1) := by decide +kernel
theorem dL_law_653 : decode cL_law 653 = .ok (.goto 46, 3) := by decide +kernel
theorem dL_law_656 : decode cL_law 656 = .ok (.aload_n 1, 1) := by decide +kernel
theorem dL_law_657 : decode cL_law 657 = .ok (.aload_n 0, 1) := by decide +kernel
theorem dL_law_658 : decode cL_law 658 = .ok (.iload_n 3, 1) := by decide +kernel
theorem dL_law_659 : decode cL_law 659 = .ok (.iconst 1, 1) := by decide +kernel
theorem dL_law_660 : decode cL_law 660 = .ok (.iadd, 1) := by decide +kernel
theorem dL_law_661 : decode cL_law 661 = .ok (.iaload, 1) := by decide +kernel
theorem dL_law_662 : decode cL_law 662 = .ok (.aload_n 0, 1) := by decide +kernel
theorem dL_law_663 : decode cL_law 663 = .ok (.iload_n 3, 1) := by decide +kernel
theorem dL_law_664 : decode cL_law 664 = .ok (.iconst 2, 1) := by decide +kernel
theorem dL_law_665 : decode cL_law 665 = .ok (.iadd, 1) := by decide +kernel
theorem dL_law_666 : decode cL_law 666 = .ok (.iaload, 1) := by decide +kernel
theorem dL_law_667 : decode cL_law 667 = .ok (.aload_n 0, 1) := by decide +kernel
theorem dL_law_668 : decode cL_law 668 = .ok (.iload_n 3, 1) := by decide +kernel
theorem dL_law_669 : decode cL_law 669 = .ok (.iconst 3, 1) := by decide +kernel
theorem dL_law_670 : decode cL_law 670 = .ok (.iadd, 1) := by decide +kernel
theorem dL_law_671 : decode cL_law 671 = .ok (.iaload, 1) := by decide +kernel
theorem dL_law_672 : decode cL_law 672 = .ok (.invokevirtual 105, 3) := by decide +kernel
theorem dL_law_675 : decode cL_law 675 = .ok (.pop, 1) := by decide +kernel
theorem dL_law_676 : decode cL_law 676 = .ok (.aload_n 2, 1) := by decide +kernel
theorem dL_law_677 : decode cL_law 677 = .ok (.aload_n 0, 1) := by decide +kernel
theorem dL_law_678 : decode cL_law 678 = .ok (.iload_n 3, 1) := by decide +kernel
theorem dL_law_679 : decode cL_law 679 = .ok (.iconst 1, 1) := by decide +kernel
theorem dL_law_680 : decode cL_law 680 = .ok (.iadd, 1) := by decide +kernel
theorem dL_law_681 : decode cL_law 681 = .ok (.iaload, 1) := by decide +kernel
theorem dL_law_682 : decode cL_law 682 = .ok (.aload_n 0, 1) := by decide +kernel
theorem dL_law_683 : decode cL_law 683 = .ok (.iload_n 3, 1) := by decide +kernel
theorem dL_law_684 : decode cL_law 684 = .ok (.iconst 2, 1) := by decide +kernel
theorem dL_law_685 : decode cL_law 685 = .ok (.iadd, 1) := by decide +kernel
theorem dL_law_686 : decode cL_law 686 = .ok (.iaload, 1) := by decide +kernel
theorem dL_law_687 : decode cL_law 687 = .ok (.aload_n 0, 1) := by decide +kernel
theorem dL_law_688 : decode cL_law 688 = .ok (.iload_n 3, 1) := by decide +kernel
theorem dL_law_689 : decode cL_law 689 = .ok (.iconst 3, 1) := by decide +kernel
theorem dL_law_690 : decode cL_law 690 = .ok (.iadd, 1) := by decide +kernel
theorem dL_law_691 : decode cL_law 691 = .ok (.iaload, 1) := by decide +kernel
theorem dL_law_692 : decode cL_law 692 = .ok (.invokevirtual 109, 3) := by decide +kernel
theorem dL_law_695 : decode cL_law 695 = .ok (.pop, 1) := by decide +kernel
theorem dL_law_696 : decode cL_law 696 = .ok (.goto 3, 3) := by decide +kernel
theorem dL_law_699 : decode cL_law 699 = .ok (.iinc 3 5, 3) := by decide +kernel
theorem dL_law_702 : decode cL_law 702 = .ok (.goto (-684), 3) := by decide +kernel
theorem dL_law_705 : decode cL_law 705 = .ok (.iconst 1, 1) := by decide +kernel
theorem dL_law_706 : decode cL_law 706 = .ok (.ireturn, 1) := by decide +kernel
end
section
theorem k_tbl_1 : ∀ w ∈ tables_1_1, w ∈ lw_tbl := fun w h => List.mem_append_right _ (List.mem_append_left _ h)
theorem k_tbl_2 : ∀ w ∈ tables_1_2, w ∈ lw_tbl := fun w h => List.mem_append_right _ (List.mem_append_right _ (List.mem_append_left _ h))
theorem k_tbl_3 : ∀ w ∈ tables_1_3, w ∈ lw_tbl := fun w h => List.mem_append_right _ (List.mem_append_right _ (List.mem_append_right _ (List.mem_append_left _ h)))
theorem k_tbl_4 : ∀ w ∈ tables_1_4, w ∈ lw_tbl := fun w h => List.mem_append_right _ (List.mem_append_right _ (List.mem_append_right _ (List.mem_append_right _ (List.mem_append_left _ h))))
theorem k_tbl_5 : ∀ w ∈ tables_1_5, w ∈ lw_tbl := fun w h => List.mem_append_right _ (List.mem_append_right _ (List.mem_append_right _ (List.mem_append_right _ (List.mem_append_right _ (List.mem_append_left _ h)))))
theorem k_tbl_6 : ∀ w ∈ tables_1_6, w ∈ lw_tbl := fun w h => List.mem_append_right _ (List.mem_append_right _ (List.mem_append_right _ (List.mem_append_right _ (List.mem_append_right _ (List.mem_append_right _ h)))))
set_option maxRecDepth 20000 in
theorem lwi_wsL_law_r1 : ∀ w ∈ wsL_law_r1, w ∈ lw_tbl := List.forall_mem_cons.mpr ⟨(k_tbl_1 _ (List.mem_of_getElem? (i := 19) rfl)), List.forall_mem_cons.mpr ⟨(k_tbl_1 _ (List.mem_of_getElem? (i := 20) rfl)), List.forall_mem_cons.mpr ⟨(k_tbl_1 _ (List.mem_of_getElem? (i := 1) rfl)), List.forall_mem_cons.mpr ⟨(k_tbl_4 _ (List.mem_of_getElem? (i := 190) rfl)), List.forall_mem_cons.mpr ⟨(k_tbl_4 _ (List.mem_of_getElem? (i := 191) rfl)), List.forall_mem_cons.mpr ⟨(k_tbl_1 _ (List.mem_of_getElem? (i := 13) rfl)), List.forall_mem_cons.mpr ⟨(k_tbl_1 _ (List.mem_of_getElem? (i := 21) rfl)), List.forall_mem_cons.mpr ⟨(k_tbl_1 _ (List.mem_of_getElem? (i := 22) rfl)), List.forall_mem_cons.mpr ⟨(k_tbl_1 _ (List.mem_of_getElem? (i := 23) rfl)), List.forall_mem_cons.mpr ⟨(k_tbl_1 _ (List.mem_of_getElem? (i := 24) rfl)), List.forall_mem_cons.mpr ⟨(k_tbl_1 _ (List.mem_of_getElem? (i := 25) rfl)), List.forall_mem_cons.mpr ⟨(k_tbl_1 _ (List.mem_of_getElem? (i := 26) rfl)), List.forall_mem_cons.mpr ⟨(k_tbl_1 _ (List.mem_of_getElem? (i := 27) rfl)), List.forall_mem_cons.mpr ⟨(k_tbl_1 _ (List.mem_of_getElem? (i := 28) rfl)), List.forall_mem_cons.mpr ⟨(k_tbl_1 _ (List.mem_of_getElem? (i := 2) rfl)), List.forall_mem_cons.mpr ⟨(k_tbl_2 _ (List.mem_of_getElem? (i := 104) rfl)), List.forall_mem_cons.mpr ⟨(k_tbl_1 _ (List.mem_of_getElem? (i := 108) rfl)), List.forall_mem_cons.mpr ⟨(k_tbl_1 _ (List.mem_of_getElem? (i := 109) rfl)), List.forall_mem_cons.mpr ⟨(k_tbl_1 _ (List.mem_of_getElem? (i := 5) rfl)), List.forall_mem_cons.mpr ⟨(k_tbl_2 _ (List.mem_of_getElem? (i := 105) rfl)), List.forall_mem_cons.mpr ⟨(k_tbl_1 _ (List.mem_of_getElem? (i := 128) rfl)), List.forall_mem_cons.mpr ⟨(k_tbl_1 _ (List.mem_of_getElem? (i := 129) rfl)), List.forall_mem_cons.mpr ⟨(k_tbl_1 _ (List.mem_of_getElem? (i := 6) rfl)), List.forall_mem_cons.mpr ⟨(k_tbl_2 _ (List.mem_of_getElem? (i := 106) rfl)), fun _ h => absurd h List.not_mem_nil⟩⟩⟩⟩⟩⟩⟩⟩⟩⟩⟩⟩⟩⟩⟩⟩⟩⟩⟩⟩⟩⟩⟩⟩
set_option maxRecDepth 20000 in
theorem lwi_wsL_law_r2 : ∀ w ∈ wsL_law_r2, w ∈ lw_tbl := List.forall_mem_cons.mpr ⟨(k_tbl_1 _ (List.mem_of_getElem? (i := 169) rfl)), List.forall_mem_cons.mpr ⟨(k_tbl_1 _ (List.mem_of_getElem? (i := 170) rfl)), List.forall_mem_cons.mpr ⟨(k_tbl_1 _ (List.mem_of_getElem? (i := 7) rfl)), List.forall_mem_cons.mpr ⟨(k_tbl_2 _ (List.mem_of_getElem? (i := 107) rfl)), List.forall_mem_cons.mpr ⟨(k_tbl_1 _ (List.mem_of_getElem? (i := 182) rfl)), List.forall_mem_cons.mpr ⟨(k_tbl_1 _ (List.mem_of_getElem? (i := 183) rfl)), List.forall_mem_cons.mpr ⟨(k_tbl_1 _ (List.mem_of_getElem? (i := 8) rfl)), List.forall_mem_cons.mpr ⟨(k_tbl_2 _ (List.mem_of_getElem? (i := 108) rfl)), List.forall_mem_cons.mpr ⟨(k_tbl_1 _ (List.mem_of_getElem? (i := 205) rfl)), List.forall_mem_cons.mpr ⟨(k_tbl_1 _ (List.mem_of_getElem? (i := 206) rfl)), List.forall_mem_cons.mpr ⟨(k_tbl_1 _ (List.mem_of_getElem? (i := 9) rfl)), List.forall_mem_cons.mpr ⟨(k_tbl_2 _ (List.mem_of_getElem? (i := 109) rfl)), List.forall_mem_cons.mpr ⟨(k_tbl_1 _ (List.mem_of_getElem? (i := 218) rfl)), List.forall_mem_cons.mpr ⟨(k_tbl_1 _ (List.mem_of_getElem? (i := 219) rfl)), List.forall_mem_cons.mpr ⟨(k_tbl_1 _ (List.mem_of_getElem? (i := 10) rfl)), List.forall_mem_cons.mpr ⟨(k_tbl_2 _ (List.mem_of_getElem? (i := 110) rfl)), List.forall_mem_cons.mpr ⟨(k_tbl_2 _ (List.mem_of_getElem? (i := 15) rfl)), List.forall_mem_cons.mpr ⟨(k_tbl_2 _ (List.mem_of_getElem? (i := 16) rfl)), List.forall_mem_cons.mpr ⟨(k_tbl_1 _ (List.mem_of_getElem? (i := 11) rfl)), List.forall_mem_cons.mpr ⟨(k_tbl_2 _ (List.mem_of_getElem? (i := 111) rfl)), List.forall_mem_cons.mpr ⟨(k_tbl_2 _ (List.mem_of_getElem? (i := 58) rfl)), List.forall_mem_cons.mpr ⟨(k_tbl_2 _ (List.mem_of_getElem? (i := 59) rfl)), List.forall_mem_cons.mpr ⟨(k_tbl_1 _ (List.mem_of_getElem? (i := 12) rfl)), List.forall_mem_cons.mpr ⟨(k_tbl_2 _ (List.mem_of_getElem? (i := 112) rfl)), fun _ h => absurd h List.not_mem_nil⟩⟩⟩⟩⟩⟩⟩⟩⟩⟩⟩⟩⟩⟩⟩⟩⟩⟩⟩⟩⟩⟩⟩⟩
set_option maxRecDepth 20000 in
theorem lwi_wsL_law_r3 : ∀ w ∈ wsL_law_r3, w ∈ lw_tbl := List.forall_mem_cons.mpr ⟨(k_tbl_1 _ (List.mem_of_getElem? (i := 89) rfl)), List.forall_mem_cons.mpr ⟨(k_tbl_2 _ (List.mem_of_getElem? (i := 113) rfl)), List.forall_mem_cons.mpr ⟨(k_tbl_2 _ (List.mem_of_getElem? (i := 114) rfl)), List.forall_mem_cons.mpr ⟨(k_tbl_1 _ (List.mem_of_getElem? (i := 29) rfl)), List.forall_mem_cons.mpr ⟨(k_tbl_1 _ (List.mem_of_getElem? (i := 30) rfl)), List.forall_mem_cons.mpr ⟨(k_tbl_1 _ (List.mem_of_getElem? (i := 31) rfl)), List.forall_mem_cons.mpr ⟨(k_tbl_1 _ (List.mem_of_getElem? (i := 32) rfl)), List.forall_mem_cons.mpr ⟨(k_tbl_1 _ (List.mem_of_getElem? (i := 33) rfl)), List.forall_mem_cons.mpr ⟨(k_tbl_1 _ (List.mem_of_getElem? (i := 34) rfl)), List.forall_mem_cons.mpr ⟨(k_tbl_1 _ (List.mem_of_getElem? (i := 3) rfl)), List.forall_mem_cons.mpr ⟨(k_tbl_1 _ (List.mem_of_getElem? (i := 95) rfl)), List.forall_mem_cons.mpr ⟨(k_tbl_1 _ (List.mem_of_getElem? (i := 97) rfl)), List.forall_mem_cons.mpr ⟨(k_tbl_1 _ (List.mem_of_getElem? (i := 92) rfl)), List.forall_mem_cons.mpr ⟨(k_tbl_1 _ (List.mem_of_getElem? (i := 94) rfl)), List.forall_mem_cons.mpr ⟨(k_tbl_1 _ (List.mem_of_getElem? (i := 93) rfl)), List.forall_mem_cons.mpr ⟨(k_tbl_1 _ (List.mem_of_getElem? (i := 4) rfl)), List.forall_mem_cons.mpr ⟨(k_tbl_1 _ (List.mem_of_getElem? (i := 99) rfl)), List.forall_mem_cons.mpr ⟨(k_tbl_1 _ (List.mem_of_getElem? (i := 35) rfl)), List.forall_mem_cons.mpr ⟨(k_tbl_1 _ (List.mem_of_getElem? (i := 36) rfl)), List.forall_mem_cons.mpr ⟨(k_tbl_1 _ (List.mem_of_getElem? (i := 37) rfl)), List.forall_mem_cons.mpr ⟨(k_tbl_1 _ (List.mem_of_getElem? (i := 38) rfl)), List.forall_mem_cons.mpr ⟨(k_tbl_1 _ (List.mem_of_getElem? (i := 60) rfl)), List.forall_mem_cons.mpr ⟨(k_tbl_1 _ (List.mem_of_getElem? (i := 63) rfl)), List.forall_mem_cons.mpr ⟨(k_tbl_1 _ (List.mem_of_getElem? (i := 67) rfl)), fun _ h => absurd h List.not_mem_nil⟩⟩⟩⟩⟩⟩⟩⟩⟩⟩⟩⟩⟩⟩⟩⟩⟩⟩⟩⟩⟩⟩⟩⟩
set_option maxRecDepth 20000 in
theorem lwi_wsL_law_r4 : ∀ w ∈ wsL_law_r4, w ∈ lw_tbl := List.forall_mem_cons.mpr ⟨(k_tbl_1 _ (List.mem_of_getElem? (i := 69) rfl)), List.forall_mem_cons.mpr ⟨(k_tbl_1 _ (List.mem_of_getElem? (i := 39) rfl)), List.forall_mem_cons.mpr ⟨(k_tbl_1 _ (List.mem_of_getElem? (i := 40) rfl)), List.forall_mem_cons.mpr ⟨(k_tbl_1 _ (List.mem_of_getElem? (i := 41) rfl)), List.forall_mem_cons.mpr ⟨(k_tbl_1 _ (List.mem_of_getElem? (i := 42) rfl)), List.forall_mem_cons.mpr ⟨(k_tbl_1 _ (List.mem_of_getElem? (i := 44) rfl)), List.forall_mem_cons.mpr ⟨(k_tbl_1 _ (List.mem_of_getElem? (i := 48) rfl)), List.forall_mem_cons.mpr ⟨(k_tbl_1 _ (List.mem_of_getElem? (i := 51) rfl)), List.forall_mem_cons.mpr ⟨(k_tbl_1 _ (List.mem_of_getElem? (i := 55) rfl)), List.forall_mem_cons.mpr ⟨(k_tbl_1 _ (List.mem_of_getElem? (i := 110) rfl)), List.forall_mem_cons.mpr ⟨(k_tbl_1 _ (List.mem_of_getElem? (i := 111) rfl)), List.forall_mem_cons.mpr ⟨(k_tbl_1 _ (List.mem_of_getElem? (i := 112) rfl)), List.forall_mem_cons.mpr ⟨(k_tbl_1 _ (List.mem_of_getElem? (i := 113) rfl)), List.forall_mem_cons.mpr ⟨(k_tbl_1 _ (List.mem_of_getElem? (i := 114) rfl)), List.forall_mem_cons.mpr ⟨(k_tbl_1 _ (List.mem_of_getElem? (i := 117) rfl)), List.forall_mem_cons.mpr ⟨(k_tbl_1 _ (List.mem_of_getElem? (i := 118) rfl)), List.forall_mem_cons.mpr ⟨(k_tbl_1 _ (List.mem_of_getElem? (i := 119) rfl)), List.forall_mem_cons.mpr ⟨(k_tbl_1 _ (List.mem_of_getElem? (i := 116) rfl)), List.forall_mem_cons.mpr ⟨(k_tbl_1 _ (List.mem_of_getElem? (i := 131) rfl)), List.forall_mem_cons.mpr ⟨(k_tbl_1 _ (List.mem_of_getElem? (i := 132) rfl)), List.forall_mem_cons.mpr ⟨(k_tbl_1 _ (List.mem_of_getElem? (i := 133) rfl)), List.forall_mem_cons.mpr ⟨(k_tbl_1 _ (List.mem_of_getElem? (i := 136) rfl)), List.forall_mem_cons.mpr ⟨(k_tbl_1 _ (List.mem_of_getElem? (i := 137) rfl)), List.forall_mem_cons.mpr ⟨(k_tbl_1 _ (List.mem_of_getElem? (i := 138) rfl)), fun _ h => absurd h List.not_mem_nil⟩⟩⟩⟩⟩⟩⟩⟩⟩⟩⟩⟩⟩⟩⟩⟩⟩⟩⟩⟩⟩⟩⟩⟩
set_option maxRecDepth 20000 in
theorem lwi_wsL_law_r5 : ∀ w ∈ wsL_law_r5, w ∈ lw_tbl := List.forall_mem_cons.mpr ⟨(k_tbl_1 _ (List.mem_of_getElem? (i := 134) rfl)), List.forall_mem_cons.mpr ⟨(k_tbl_1 _ (List.mem_of_getElem? (i := 139) rfl)), List.forall_mem_cons.mpr ⟨(k_tbl_1 _ (List.mem_of_getElem? (i := 135) rfl)), List.forall_mem_cons.mpr ⟨(k_tbl_1 _ (List.mem_of_getElem? (i := 172) rfl)), List.forall_mem_cons.mpr ⟨(k_tbl_1 _ (List.mem_of_getElem? (i := 173) rfl)), List.forall_mem_cons.mpr ⟨(k_tbl_1 _ (List.mem_of_getElem? (i := 174) rfl)), List.forall_mem_cons.mpr ⟨(k_tbl_1 _ (List.mem_of_getElem? (i := 175) rfl)), List.forall_mem_cons.mpr ⟨(k_tbl_1 _ (List.mem_of_getElem? (i := 176) rfl)), List.forall_mem_cons.mpr ⟨(k_tbl_1 _ (List.mem_of_getElem? (i := 185) rfl)), List.forall_mem_cons.mpr ⟨(k_tbl_1 _ (List.mem_of_getElem? (i := 186) rfl)), List.forall_mem_cons.mpr ⟨(k_tbl_1 _ (List.mem_of_getElem? (i := 187) rfl)), List.forall_mem_cons.mpr ⟨(k_tbl_1 _ (List.mem_of_getElem? (i := 208) rfl)), List.forall_mem_cons.mpr ⟨(k_tbl_1 _ (List.mem_of_getElem? (i := 209) rfl)), List.forall_mem_cons.mpr ⟨(k_tbl_1 _ (List.mem_of_getElem? (i := 210) rfl)), List.forall_mem_cons.mpr ⟨(k_tbl_1 _ (List.mem_of_getElem? (i := 221) rfl)), List.forall_mem_cons.mpr ⟨(k_tbl_1 _ (List.mem_of_getElem? (i := 222) rfl)), List.forall_mem_cons.mpr ⟨(k_tbl_1 _ (List.mem_of_getElem? (i := 223) rfl)), List.forall_mem_cons.mpr ⟨(k_tbl_1 _ (List.mem_of_getElem? (i := 224) rfl)), List.forall_mem_cons.mpr ⟨(k_tbl_1 _ (List.mem_of_getElem? (i := 226) rfl)), List.forall_mem_cons.mpr ⟨(k_tbl_1 _ (List.mem_of_getElem? (i := 230) rfl)), List.forall_mem_cons.mpr ⟨(k_tbl_1 _ (List.mem_of_getElem? (i := 232) rfl)), List.forall_mem_cons.mpr ⟨(k_tbl_1 _ (List.mem_of_getElem? (i := 234) rfl)), List.forall_mem_cons.mpr ⟨(k_tbl_2 _ (List.mem_of_getElem? (i := 18) rfl)), List.forall_mem_cons.mpr ⟨(k_tbl_2 _ (List.mem_of_getElem? (i := 19) rfl)), fun _ h => absurd h List.not_mem_nil⟩⟩⟩⟩⟩⟩⟩⟩⟩⟩⟩⟩⟩⟩⟩⟩⟩⟩⟩⟩⟩⟩⟩⟩
set_option maxRecDepth 20000 in
theorem lwi_wsL_law_r6 : ∀ w ∈ wsL_law_r6, w ∈ lw_tbl := List.forall_mem_cons.mpr ⟨(k_tbl_2 _ (List.mem_of_getElem? (i := 20) rfl)), List.forall_mem_cons.mpr ⟨(k_tbl_2 _ (List.mem_of_getElem? (i := 21) rfl)), List.forall_mem_cons.mpr ⟨(k_tbl_2 _ (List.mem_of_getElem? (i := 23) rfl)), List.forall_mem_cons.mpr ⟨(k_tbl_2 _ (List.mem_of_getElem? (i := 25) rfl)), List.forall_mem_cons.mpr ⟨(k_tbl_2 _ (List.mem_of_getElem? (i := 27) rfl)), List.forall_mem_cons.mpr ⟨(k_tbl_2 _ (List.mem_of_getElem? (i := 61) rfl)), List.forall_mem_cons.mpr ⟨(k_tbl_2 _ (List.mem_of_getElem? (i := 62) rfl)), List.forall_mem_cons.mpr ⟨(k_tbl_2 _ (List.mem_of_getElem? (i := 63) rfl)), List.forall_mem_cons.mpr ⟨(k_tbl_2 _ (List.mem_of_getElem? (i := 64) rfl)), List.forall_mem_cons.mpr ⟨(k_tbl_2 _ (List.mem_of_getElem? (i := 66) rfl)), List.forall_mem_cons.mpr ⟨(k_tbl_2 _ (List.mem_of_getElem? (i := 68) rfl)), List.forall_mem_cons.mpr ⟨(k_tbl_2 _ (List.mem_of_getElem? (i := 70) rfl)), List.forall_mem_cons.mpr ⟨(k_tbl_2 _ (List.mem_of_getElem? (i := 72) rfl)), List.forall_mem_cons.mpr ⟨(k_tbl_2 _ (List.mem_of_getElem? (i := 74) rfl)), List.forall_mem_cons.mpr ⟨(k_tbl_2 _ (List.mem_of_getElem? (i := 76) rfl)), List.forall_mem_cons.mpr ⟨(k_tbl_2 _ (List.mem_of_getElem? (i := 78) rfl)), List.forall_mem_cons.mpr ⟨(k_tbl_4 _ (List.mem_of_getElem? (i := 192) rfl)), List.forall_mem_cons.mpr ⟨(k_tbl_4 _ (List.mem_of_getElem? (i := 193) rfl)), List.forall_mem_cons.mpr ⟨(k_tbl_4 _ (List.mem_of_getElem? (i := 194) rfl)), List.forall_mem_cons.mpr ⟨(k_tbl_4 _ (List.mem_of_getElem? (i := 195) rfl)), List.forall_mem_cons.mpr ⟨(k_tbl_4 _ (List.mem_of_getElem? (i := 199) rfl)), List.forall_mem_cons.mpr ⟨(k_tbl_4 _ (List.mem_of_getElem? (i := 200) rfl)), List.forall_mem_cons.mpr ⟨(k_tbl_4 _ (List.mem_of_getElem? (i := 202) rfl)), List.forall_mem_cons.mpr ⟨(k_tbl_4 _ (List.mem_of_getElem? (i := 204) rfl)), fun _ h => absurd h List.not_mem_nil⟩⟩⟩⟩⟩⟩⟩⟩⟩⟩⟩⟩⟩⟩⟩⟩⟩⟩⟩⟩⟩⟩⟩⟩
set_option maxRecDepth 20000 in
theorem lwi_wsL_law_r7 : ∀ w ∈ wsL_law_r7, w ∈ lw_tbl := List.forall_mem_cons.mpr ⟨(k_tbl_4 _ (List.mem_of_getElem? (i := 209) rfl)), List.forall_mem_cons.mpr ⟨(k_tbl_4 _ (List.mem_of_getElem? (i := 211) rfl)), List.forall_mem_cons.mpr ⟨(k_tbl_4 _ (List.mem_of_getElem? (i := 212) rfl)), List.forall_mem_cons.mpr ⟨(k_tbl_4 _ (List.mem_of_getElem? (i := 213) rfl)), List.forall_mem_cons.mpr ⟨(k_tbl_4 _ (List.mem_of_getElem? (i := 215) rfl)), List.forall_mem_cons.mpr ⟨(k_tbl_4 _ (List.mem_of_getElem? (i := 216) rfl)), List.forall_mem_cons.mpr ⟨(k_tbl_4 _ (List.mem_of_getElem? (i := 218) rfl)), List.forall_mem_cons.mpr ⟨(k_tbl_4 _ (List.mem_of_getElem? (i := 219) rfl)), List.forall_mem_cons.mpr ⟨(k_tbl_4 _ (List.mem_of_getElem? (i := 220) rfl)), List.forall_mem_cons.mpr ⟨(k_tbl_4 _ (List.mem_of_getElem? (i := 221) rfl)), List.forall_mem_cons.mpr ⟨(k_tbl_4 _ (List.mem_of_getElem? (i := 224) rfl)), List.forall_mem_cons.mpr ⟨(k_tbl_4 _ (List.mem_of_getElem? (i := 225) rfl)), List.forall_mem_cons.mpr ⟨(k_tbl_4 _ (List.mem_of_getElem? (i := 226) rfl)), List.forall_mem_cons.mpr ⟨(k_tbl_4 _ (List.mem_of_getElem? (i := 227) rfl)), List.forall_mem_cons.mpr ⟨(k_tbl_4 _ (List.mem_of_getElem? (i := 228) rfl)), List.forall_mem_cons.mpr ⟨(k_tbl_4 _ (List.mem_of_getElem? (i := 229) rfl)), List.forall_mem_cons.mpr ⟨(k_tbl_4 _ (List.mem_of_getElem? (i := 230) rfl)), List.forall_mem_cons.mpr ⟨(k_tbl_4 _ (List.mem_of_getElem? (i := 231) rfl)), List.forall_mem_cons.mpr ⟨(k_tbl_4 _ (List.mem_of_getElem? (i := 196) rfl)), List.forall_mem_cons.mpr ⟨(k_tbl_4 _ (List.mem_of_getElem? (i := 197) rfl)), List.forall_mem_cons.mpr ⟨(k_tbl_4 _ (List.mem_of_getElem? (i := 198) rfl)), List.forall_mem_cons.mpr ⟨(k_tbl_2 _ (List.mem_of_getElem? (i := 138) rfl)), List.forall_mem_cons.mpr ⟨(k_tbl_2 _ (List.mem_of_getElem? (i := 139) rfl)), List.forall_mem_cons.mpr ⟨(k_tbl_2 _ (List.mem_of_getElem? (i := 140) rfl)), fun _ h => absurd h List.not_mem_nil⟩⟩⟩⟩⟩⟩⟩⟩⟩⟩⟩⟩⟩⟩⟩⟩⟩⟩⟩⟩⟩⟩⟩⟩
set_option maxRecDepth 20000 in
theorem lwi_wsL_law_r8 : ∀ w ∈ wsL_law_r8, w ∈ lw_tbl := List.forall_mem_cons.mpr ⟨(k_tbl_2 _ (List.mem_of_getElem? (i := 141) rfl)), List.forall_mem_cons.mpr ⟨(k_tbl_2 _ (List.mem_of_getElem? (i := 145) rfl)), List.forall_mem_cons.mpr ⟨(k_tbl_1 _ (List.mem_of_getElem? (i := 142) rfl)), List.forall_mem_cons.mpr ⟨(k_tbl_2 _ (List.mem_of_getElem? (i := 146) rfl)), List.forall_mem_cons.mpr ⟨(k_tbl_2 _ (List.mem_of_getElem? (i := 142) rfl)), List.forall_mem_cons.mpr ⟨(k_tbl_2 _ (List.mem_of_getElem? (i := 143) rfl)), List.forall_mem_cons.mpr ⟨(k_tbl_2 _ (List.mem_of_getElem? (i := 144) rfl)), List.forall_mem_cons.mpr ⟨(k_tbl_2 _ (List.mem_of_getElem? (i := 147) rfl)), List.forall_mem_cons.mpr ⟨(k_tbl_2 _ (List.mem_of_getElem? (i := 148) rfl)), List.forall_mem_cons.mpr ⟨(k_tbl_2 _ (List.mem_of_getElem? (i := 149) rfl)), List.forall_mem_cons.mpr ⟨(k_tbl_2 _ (List.mem_of_getElem? (i := 150) rfl)), List.forall_mem_cons.mpr ⟨(k_tbl_1 _ (List.mem_of_getElem? (i := 141) rfl)), List.forall_mem_cons.mpr ⟨(k_tbl_2 _ (List.mem_of_getElem? (i := 152) rfl)), List.forall_mem_cons.mpr ⟨(k_tbl_2 _ (List.mem_of_getElem? (i := 153) rfl)), List.forall_mem_cons.mpr ⟨(k_tbl_5 _ (List.mem_of_getElem? (i := 64) rfl)), List.forall_mem_cons.mpr ⟨(k_tbl_5 _ (List.mem_of_getElem? (i := 65) rfl)), List.forall_mem_cons.mpr ⟨(k_tbl_5 _ (List.mem_of_getElem? (i := 66) rfl)), List.forall_mem_cons.mpr ⟨(k_tbl_5 _ (List.mem_of_getElem? (i := 67) rfl)), List.forall_mem_cons.mpr ⟨(k_tbl_5 _ (List.mem_of_getElem? (i := 68) rfl)), List.forall_mem_cons.mpr ⟨(k_tbl_5 _ (List.mem_of_getElem? (i := 69) rfl)), List.forall_mem_cons.mpr ⟨(k_tbl_5 _ (List.mem_of_getElem? (i := 73) rfl)), List.forall_mem_cons.mpr ⟨(k_tbl_4 _ (List.mem_of_getElem? (i := 203) rfl)), List.forall_mem_cons.mpr ⟨(k_tbl_5 _ (List.mem_of_getElem? (i := 74) rfl)), List.forall_mem_cons.mpr ⟨(k_tbl_5 _ (List.mem_of_getElem? (i := 70) rfl)), fun _ h => absurd h List.not_mem_nil⟩⟩⟩⟩⟩⟩⟩⟩⟩⟩⟩⟩⟩⟩⟩⟩⟩⟩⟩⟩⟩⟩⟩⟩
set_option maxRecDepth 20000 in
theorem lwi_wsL_law_r9 : ∀ w ∈ wsL_law_r9, w ∈ lw_tbl := List.forall_mem_cons.mpr ⟨(k_tbl_5 _ (List.mem_of_getElem? (i := 71) rfl)), List.forall_mem_cons.mpr ⟨(k_tbl_5 _ (List.mem_of_getElem? (i := 72) rfl)), List.forall_mem_cons.mpr ⟨(k_tbl_2 _ (List.mem_of_getElem? (i := 154) rfl)), List.forall_mem_cons.mpr ⟨(k_tbl_2 _ (List.mem_of_getElem? (i := 155) rfl)), List.forall_mem_cons.mpr ⟨(k_tbl_2 _ (List.mem_of_getElem? (i := 156) rfl)), List.forall_mem_cons.mpr ⟨(k_tbl_2 _ (List.mem_of_getElem? (i := 157) rfl)), List.forall_mem_cons.mpr ⟨(k_tbl_2 _ (List.mem_of_getElem? (i := 158) rfl)), List.forall_mem_cons.mpr ⟨(k_tbl_2 _ (List.mem_of_getElem? (i := 159) rfl)), List.forall_mem_cons.mpr ⟨(k_tbl_2 _ (List.mem_of_getElem? (i := 160) rfl)), List.forall_mem_cons.mpr ⟨(k_tbl_2 _ (List.mem_of_getElem? (i := 161) rfl)), List.forall_mem_cons.mpr ⟨(k_tbl_5 _ (List.mem_of_getElem? (i := 75) rfl)), List.forall_mem_cons.mpr ⟨(k_tbl_5 _ (List.mem_of_getElem? (i := 76) rfl)), List.forall_mem_cons.mpr ⟨(k_tbl_5 _ (List.mem_of_getElem? (i := 77) rfl)), List.forall_mem_cons.mpr ⟨(k_tbl_5 _ (List.mem_of_getElem? (i := 78) rfl)), List.forall_mem_cons.mpr ⟨(k_tbl_2 _ (List.mem_of_getElem? (i := 162) rfl)), List.forall_mem_cons.mpr ⟨(k_tbl_2 _ (List.mem_of_getElem? (i := 163) rfl)), List.forall_mem_cons.mpr ⟨(k_tbl_2 _ (List.mem_of_getElem? (i := 164) rfl)), List.forall_mem_cons.mpr ⟨(k_tbl_2 _ (List.mem_of_getElem? (i := 165) rfl)), List.forall_mem_cons.mpr ⟨(k_tbl_1 _ (List.mem_of_getElem? (i := 143) rfl)), List.forall_mem_cons.mpr ⟨(k_tbl_3 _ (List.mem_of_getElem? (i := 67) rfl)), List.forall_mem_cons.mpr ⟨(k_tbl_1 _ (List.mem_of_getElem? (i := 145) rfl)), List.forall_mem_cons.mpr ⟨(k_tbl_1 _ (List.mem_of_getElem? (i := 147) rfl)), List.forall_mem_cons.mpr ⟨(k_tbl_2 _ (List.mem_of_getElem? (i := 166) rfl)), List.forall_mem_cons.mpr ⟨(k_tbl_2 _ (List.mem_of_getElem? (i := 167) rfl)), fun _ h => absurd h List.not_mem_nil⟩⟩⟩⟩⟩⟩⟩⟩⟩⟩⟩⟩⟩⟩⟩⟩⟩⟩⟩⟩⟩⟩⟩⟩
set_option maxRecDepth 20000 in
theorem lwi_wsL_law_r10 : ∀ w ∈ wsL_law_r10, w ∈ lw_tbl := List.forall_mem_cons.mpr ⟨(k_tbl_2 _ (List.mem_of_getElem? (i := 168) rfl)), List.forall_mem_cons.mpr ⟨(k_tbl_2 _ (List.mem_of_getElem? (i := 169) rfl)), List.forall_mem_cons.mpr ⟨(k_tbl_1 _ (List.mem_of_getElem? (i := 144) rfl)), List.forall_mem_cons.mpr ⟨(k_tbl_1 _ (List.mem_of_getElem? (i := 149) rfl)), List.forall_mem_cons.mpr ⟨(k_tbl_2 _ (List.mem_of_getElem? (i := 170) rfl)), List.forall_mem_cons.mpr ⟨(k_tbl_2 _ (List.mem_of_getElem? (i := 171) rfl)), List.forall_mem_cons.mpr ⟨(k_tbl_2 _ (List.mem_of_getElem? (i := 173) rfl)), List.forall_mem_cons.mpr ⟨(List.mem_append_left _ (List.mem_of_getElem? (i := 0) rfl)), List.forall_mem_cons.mpr ⟨(k_tbl_2 _ (List.mem_of_getElem? (i := 174) rfl)), List.forall_mem_cons.mpr ⟨(k_tbl_2 _ (List.mem_of_getElem? (i := 175) rfl)), List.forall_mem_cons.mpr ⟨(k_tbl_2 _ (List.mem_of_getElem? (i := 177) rfl)), List.forall_mem_cons.mpr ⟨(List.mem_append_left _ (List.mem_of_getElem? (i := 1) rfl)), List.forall_mem_cons.mpr ⟨(k_tbl_2 _ (List.mem_of_getElem? (i := 178) rfl)), List.forall_mem_cons.mpr ⟨(k_tbl_2 _ (List.mem_of_getElem? (i := 179) rfl)), List.forall_mem_cons.mpr ⟨(k_tbl_2 _ (List.mem_of_getElem? (i := 180) rfl)), List.forall_mem_cons.mpr ⟨(k_tbl_2 _ (List.mem_of_getElem? (i := 181) rfl)), List.forall_mem_cons.mpr ⟨(k_tbl_2 _ (List.mem_of_getElem? (i := 188) rfl)), List.forall_mem_cons.mpr ⟨(k_tbl_2 _ (List.mem_of_getElem? (i := 190) rfl)), List.forall_mem_cons.mpr ⟨(List.mem_append_left _ (List.mem_of_getElem? (i := 2) rfl)), List.forall_mem_cons.mpr ⟨(k_tbl_2 _ (List.mem_of_getElem? (i := 191) rfl)), List.forall_mem_cons.mpr ⟨(k_tbl_2 _ (List.mem_of_getElem? (i := 192) rfl)), List.forall_mem_cons.mpr ⟨(k_tbl_2 _ (List.mem_of_getElem? (i := 193) rfl)), List.forall_mem_cons.mpr ⟨(k_tbl_2 _ (List.mem_of_getElem? (i := 194) rfl)), List.forall_mem_cons.mpr ⟨(k_tbl_1 _ (List.mem_of_getElem? (i := 14) rfl)), fun _ h => absurd h List.not_mem_nil⟩⟩⟩⟩⟩⟩⟩⟩⟩⟩⟩⟩⟩⟩⟩⟩⟩⟩⟩⟩⟩⟩⟩⟩
set_option maxRecDepth 20000 in
theorem lwi_wsL_law_r11 : ∀ w ∈ wsL_law_r11, w ∈ lw_tbl := List.forall_mem_cons.mpr ⟨(k_tbl_2 _ (List.mem_of_getElem? (i := 195) rfl)), List.forall_mem_cons.mpr ⟨(k_tbl_6 _ (List.mem_of_getElem? (i := 73) rfl)), List.forall_mem_cons.mpr ⟨(k_tbl_2 _ (List.mem_of_getElem? (i := 196) rfl)), List.forall_mem_cons.mpr ⟨(k_tbl_2 _ (List.mem_of_getElem? (i := 197) rfl)), List.forall_mem_cons.mpr ⟨(k_tbl_2 _ (List.mem_of_getElem? (i := 198) rfl)), List.forall_mem_cons.mpr ⟨(k_tbl_2 _ (List.mem_of_getElem? (i := 199) rfl)), List.forall_mem_cons.mpr ⟨(k_tbl_2 _ (List.mem_of_getElem? (i := 200) rfl)), List.forall_mem_cons.mpr ⟨(k_tbl_6 _ (List.mem_of_getElem? (i := 74) rfl)), List.forall_mem_cons.mpr ⟨(k_tbl_2 _ (List.mem_of_getElem? (i := 202) rfl)), List.forall_mem_cons.mpr ⟨(k_tbl_2 _ (List.mem_of_getElem? (i := 204) rfl)), List.forall_mem_cons.mpr ⟨(List.mem_append_left _ (List.mem_of_getElem? (i := 3) rfl)), List.forall_mem_cons.mpr ⟨(k_tbl_2 _ (List.mem_of_getElem? (i := 205) rfl)), List.forall_mem_cons.mpr ⟨(k_tbl_2 _ (List.mem_of_getElem? (i := 207) rfl)), List.forall_mem_cons.mpr ⟨(k_tbl_2 _ (List.mem_of_getElem? (i := 208) rfl)), List.forall_mem_cons.mpr ⟨(k_tbl_2 _ (List.mem_of_getElem? (i := 209) rfl)), List.forall_mem_cons.mpr ⟨(k_tbl_2 _ (List.mem_of_getElem? (i := 210) rfl)), List.forall_mem_cons.mpr ⟨(k_tbl_2 _ (List.mem_of_getElem? (i := 211) rfl)), List.forall_mem_cons.mpr ⟨(k_tbl_2 _ (List.mem_of_getElem? (i := 212) rfl)), List.forall_mem_cons.mpr ⟨(k_tbl_2 _ (List.mem_of_getElem? (i := 213) rfl)), List.forall_mem_cons.mpr ⟨(k_tbl_2 _ (List.mem_of_getElem? (i := 214) rfl)), List.forall_mem_cons.mpr ⟨(k_tbl_2 _ (List.mem_of_getElem? (i := 215) rfl)), List.forall_mem_cons.mpr ⟨(k_tbl_2 _ (List.mem_of_getElem? (i := 216) rfl)), List.forall_mem_cons.mpr ⟨(k_tbl_2 _ (List.mem_of_getElem? (i := 217) rfl)), List.forall_mem_cons.mpr ⟨(k_tbl_2 _ (List.mem_of_getElem? (i := 218) rfl)), fun _ h => absurd h List.not_mem_nil⟩⟩⟩⟩⟩⟩⟩⟩⟩⟩⟩⟩⟩⟩⟩⟩⟩⟩⟩⟩⟩⟩⟩⟩
set_option maxRecDepth 20000 in
theorem lwi_wsL_law_r12 : ∀ w ∈ wsL_law_r12, w ∈ lw_tbl := List.forall_mem_cons.mpr ⟨(k_tbl_1 _ (List.mem_of_getElem? (i := 15) rfl)), List.forall_mem_cons.mpr ⟨(k_tbl_2 _ (List.mem_of_getElem? (i := 219) rfl)), List.forall_mem_cons.mpr ⟨(k_tbl_2 _ (List.mem_of_getElem? (i := 220) rfl)), List.forall_mem_cons.mpr ⟨(k_tbl_2 _ (List.mem_of_getElem? (i := 221) rfl)), List.forall_mem_cons.mpr ⟨(k_tbl_2 _ (List.mem_of_getElem? (i := 222) rfl)), List.forall_mem_cons.mpr ⟨(k_tbl_2 _ (List.mem_of_getElem? (i := 223) rfl)), List.forall_mem_cons.mpr ⟨(k_tbl_2 _ (List.mem_of_getElem? (i := 225) rfl)), List.forall_mem_cons.mpr ⟨(k_tbl_2 _ (List.mem_of_getElem? (i := 226) rfl)), List.forall_mem_cons.mpr ⟨(k_tbl_1 _ (List.mem_of_getElem? (i := 16) rfl)), List.forall_mem_cons.mpr ⟨(k_tbl_2 _ (List.mem_of_getElem? (i := 227) rfl)), List.forall_mem_cons.mpr ⟨(k_tbl_2 _ (List.mem_of_getElem? (i := 228) rfl)), List.forall_mem_cons.mpr ⟨(k_tbl_2 _ (List.mem_of_getElem? (i := 229) rfl)), List.forall_mem_cons.mpr ⟨(k_tbl_1 _ (List.mem_of_getElem? (i := 17) rfl)), List.forall_mem_cons.mpr ⟨(k_tbl_2 _ (List.mem_of_getElem? (i := 230) rfl)), List.forall_mem_cons.mpr ⟨(k_tbl_2 _ (List.mem_of_getElem? (i := 231) rfl)), List.forall_mem_cons.mpr ⟨(k_tbl_2 _ (List.mem_of_getElem? (i := 232) rfl)), List.forall_mem_cons.mpr ⟨(k_tbl_2 _ (List.mem_of_getElem? (i := 233) rfl)), List.forall_mem_cons.mpr ⟨(k_tbl_2 _ (List.mem_of_getElem? (i := 234) rfl)), List.forall_mem_cons.mpr ⟨(k_tbl_2 _ (List.mem_of_getElem? (i := 235) rfl)), List.forall_mem_cons.mpr ⟨(k_tbl_2 _ (List.mem_of_getElem? (i := 236) rfl)), List.forall_mem_cons.mpr ⟨(k_tbl_2 _ (List.mem_of_getElem? (i := 237) rfl)), List.forall_mem_cons.mpr ⟨(k_tbl_2 _ (List.mem_of_getElem? (i := 238) rfl)), List.forall_mem_cons.mpr ⟨(k_tbl_2 _ (List.mem_of_getElem? (i := 239) rfl)), List.forall_mem_cons.mpr ⟨(k_tbl_3 _ (List.mem_of_getElem? (i := 0) rfl)), fun _ h => absurd h List.not_mem_nil⟩⟩⟩⟩⟩⟩⟩⟩⟩⟩⟩⟩⟩⟩⟩⟩⟩⟩⟩⟩⟩⟩⟩⟩
set_option maxRecDepth 20000 in
theorem lwi_wsL_law_r13 : ∀ w ∈ wsL_law_r13, w ∈ lw_tbl := List.forall_mem_cons.mpr ⟨(k_tbl_3 _ (List.mem_of_getElem? (i := 1) rfl)), List.forall_mem_cons.mpr ⟨(k_tbl_3 _ (List.mem_of_getElem? (i := 3) rfl)), List.forall_mem_cons.mpr ⟨(k_tbl_3 _ (List.mem_of_getElem? (i := 5) rfl)), List.forall_mem_cons.mpr ⟨(k_tbl_3 _ (List.mem_of_getElem? (i := 7) rfl)), List.forall_mem_cons.mpr ⟨(k_tbl_3 _ (List.mem_of_getElem? (i := 8) rfl)), List.forall_mem_cons.mpr ⟨(k_tbl_3 _ (List.mem_of_getElem? (i := 9) rfl)), List.forall_mem_cons.mpr ⟨(k_tbl_3 _ (List.mem_of_getElem? (i := 11) rfl)), List.forall_mem_cons.mpr ⟨(k_tbl_3 _ (List.mem_of_getElem? (i := 12) rfl)), List.forall_mem_cons.mpr ⟨(k_tbl_3 _ (List.mem_of_getElem? (i := 13) rfl)), List.forall_mem_cons.mpr ⟨(k_tbl_3 _ (List.mem_of_getElem? (i := 14) rfl)), List.forall_mem_cons.mpr ⟨(k_tbl_3 _ (List.mem_of_getElem? (i := 16) rfl)), List.forall_mem_cons.mpr ⟨(List.mem_append_left _ (List.mem_of_getElem? (i := 4) rfl)), List.forall_mem_cons.mpr ⟨(k_tbl_3 _ (List.mem_of_getElem? (i := 17) rfl)), List.forall_mem_cons.mpr ⟨(k_tbl_1 _ (List.mem_of_getElem? (i := 146) rfl)), List.forall_mem_cons.mpr ⟨(k_tbl_1 _ (List.mem_of_getElem? (i := 148) rfl)), List.forall_mem_cons.mpr ⟨(k_tbl_3 _ (List.mem_of_getElem? (i := 18) rfl)), List.forall_mem_cons.mpr ⟨(k_tbl_3 _ (List.mem_of_getElem? (i := 20) rfl)), List.forall_mem_cons.mpr ⟨(List.mem_append_left _ (List.mem_of_getElem? (i := 5) rfl)), List.forall_mem_cons.mpr ⟨(k_tbl_3 _ (List.mem_of_getElem? (i := 21) rfl)), List.forall_mem_cons.mpr ⟨(k_tbl_3 _ (List.mem_of_getElem? (i := 22) rfl)), List.forall_mem_cons.mpr ⟨(k_tbl_3 _ (List.mem_of_getElem? (i := 24) rfl)), List.forall_mem_cons.mpr ⟨(List.mem_append_left _ (List.mem_of_getElem? (i := 6) rfl)), List.forall_mem_cons.mpr ⟨(k_tbl_3 _ (List.mem_of_getElem? (i := 25) rfl)), List.forall_mem_cons.mpr ⟨(k_tbl_3 _ (List.mem_of_getElem? (i := 26) rfl)), fun _ h => absurd h List.not_mem_nil⟩⟩⟩⟩⟩⟩⟩⟩⟩⟩⟩⟩⟩⟩⟩⟩⟩⟩⟩⟩⟩⟩⟩⟩
set_option maxRecDepth 20000 in
theorem lwi_wsL_law_r14 : ∀ w ∈ wsL_law_r14, w ∈ lw_tbl := List.forall_mem_cons.mpr ⟨(k_tbl_3 _ (List.mem_of_getElem? (i := 28) rfl)), List.forall_mem_cons.mpr ⟨(List.mem_append_left _ (List.mem_of_getElem? (i := 7) rfl)), List.forall_mem_cons.mpr ⟨(k_tbl_3 _ (List.mem_of_getElem? (i := 29) rfl)), List.forall_mem_cons.mpr ⟨(k_tbl_3 _ (List.mem_of_getElem? (i := 30) rfl)), List.forall_mem_cons.mpr ⟨(k_tbl_3 _ (List.mem_of_getElem? (i := 32) rfl)), List.forall_mem_cons.mpr ⟨(List.mem_append_left _ (List.mem_of_getElem? (i := 8) rfl)), List.forall_mem_cons.mpr ⟨(k_tbl_3 _ (List.mem_of_getElem? (i := 33) rfl)), List.forall_mem_cons.mpr ⟨(k_tbl_3 _ (List.mem_of_getElem? (i := 34) rfl)), List.forall_mem_cons.mpr ⟨(k_tbl_3 _ (List.mem_of_getElem? (i := 35) rfl)), List.forall_mem_cons.mpr ⟨(k_tbl_3 _ (List.mem_of_getElem? (i := 36) rfl)), List.forall_mem_cons.mpr ⟨(k_tbl_3 _ (List.mem_of_getElem? (i := 37) rfl)), List.forall_mem_cons.mpr ⟨(k_tbl_3 _ (List.mem_of_getElem? (i := 39) rfl)), List.forall_mem_cons.mpr ⟨(k_tbl_3 _ (List.mem_of_getElem? (i := 40) rfl)), List.forall_mem_cons.mpr ⟨(k_tbl_3 _ (List.mem_of_getElem? (i := 41) rfl)), List.forall_mem_cons.mpr ⟨(k_tbl_3 _ (List.mem_of_getElem? (i := 42) rfl)), List.forall_mem_cons.mpr ⟨(k_tbl_3 _ (List.mem_of_getElem? (i := 43) rfl)), List.forall_mem_cons.mpr ⟨(k_tbl_3 _ (List.mem_of_getElem? (i := 44) rfl)), List.forall_mem_cons.mpr ⟨(k_tbl_3 _ (List.mem_of_getElem? (i := 45) rfl)), List.forall_mem_cons.mpr ⟨(k_tbl_3 _ (List.mem_of_getElem? (i := 47) rfl)), List.forall_mem_cons.mpr ⟨(List.mem_append_left _ (List.mem_of_getElem? (i := 9) rfl)), List.forall_mem_cons.mpr ⟨(k_tbl_3 _ (List.mem_of_getElem? (i := 48) rfl)), List.forall_mem_cons.mpr ⟨(k_tbl_1 _ (List.mem_of_getElem? (i := 59) rfl)), List.forall_mem_cons.mpr ⟨(k_tbl_3 _ (List.mem_of_getElem? (i := 49) rfl)), List.forall_mem_cons.mpr ⟨(k_tbl_3 _ (List.mem_of_getElem? (i := 50) rfl)), fun _ h => absurd h List.not_mem_nil⟩⟩⟩⟩⟩⟩⟩⟩⟩⟩⟩⟩⟩⟩⟩⟩⟩⟩⟩⟩⟩⟩⟩⟩
set_option maxRecDepth 20000 in
theorem lwi_wsL_law_r15 : ∀ w ∈ wsL_law_r15, w ∈ lw_tbl := List.forall_mem_cons.mpr ⟨(k_tbl_3 _ (List.mem_of_getElem? (i := 51) rfl)), List.forall_mem_cons.mpr ⟨(k_tbl_3 _ (List.mem_of_getElem? (i := 52) rfl)), List.forall_mem_cons.mpr ⟨(k_tbl_3 _ (List.mem_of_getElem? (i := 54) rfl)), List.forall_mem_cons.mpr ⟨(k_tbl_3 _ (List.mem_of_getElem? (i := 56) rfl)), List.forall_mem_cons.mpr ⟨(List.mem_append_left _ (List.mem_of_getElem? (i := 10) rfl)), List.forall_mem_cons.mpr ⟨(k_tbl_3 _ (List.mem_of_getElem? (i := 57) rfl)), List.forall_mem_cons.mpr ⟨(k_tbl_1 _ (List.mem_of_getElem? (i := 47) rfl)), List.forall_mem_cons.mpr ⟨(k_tbl_1 _ (List.mem_of_getElem? (i := 50) rfl)), List.forall_mem_cons.mpr ⟨(k_tbl_1 _ (List.mem_of_getElem? (i := 54) rfl)), List.forall_mem_cons.mpr ⟨(k_tbl_3 _ (List.mem_of_getElem? (i := 58) rfl)), List.forall_mem_cons.mpr ⟨(k_tbl_3 _ (List.mem_of_getElem? (i := 59) rfl)), List.forall_mem_cons.mpr ⟨(k_tbl_3 _ (List.mem_of_getElem? (i := 60) rfl)), List.forall_mem_cons.mpr ⟨(k_tbl_3 _ (List.mem_of_getElem? (i := 61) rfl)), List.forall_mem_cons.mpr ⟨(k_tbl_3 _ (List.mem_of_getElem? (i := 63) rfl)), List.forall_mem_cons.mpr ⟨(k_tbl_3 _ (List.mem_of_getElem? (i := 64) rfl)), List.forall_mem_cons.mpr ⟨(k_tbl_3 _ (List.mem_of_getElem? (i := 65) rfl)), List.forall_mem_cons.mpr ⟨(k_tbl_3 _ (List.mem_of_getElem? (i := 66) rfl)), List.forall_mem_cons.mpr ⟨(k_tbl_5 _ (List.mem_of_getElem? (i := 79) rfl)), List.forall_mem_cons.mpr ⟨(k_tbl_5 _ (List.mem_of_getElem? (i := 80) rfl)), List.forall_mem_cons.mpr ⟨(k_tbl_5 _ (List.mem_of_getElem? (i := 81) rfl)), List.forall_mem_cons.mpr ⟨(k_tbl_5 _ (List.mem_of_getElem? (i := 82) rfl)), List.forall_mem_cons.mpr ⟨(k_tbl_5 _ (List.mem_of_getElem? (i := 83) rfl)), List.forall_mem_cons.mpr ⟨(k_tbl_5 _ (List.mem_of_getElem? (i := 129) rfl)), List.forall_mem_cons.mpr ⟨(k_tbl_4 _ (List.mem_of_getElem? (i := 206) rfl)), fun _ h => absurd h List.not_mem_nil⟩⟩⟩⟩⟩⟩⟩⟩⟩⟩⟩⟩⟩⟩⟩⟩⟩⟩⟩⟩⟩⟩⟩⟩
set_option maxRecDepth 20000 in
theorem lwi_wsL_law_r16 : ∀ w ∈ wsL_law_r16, w ∈ lw_tbl := List.forall_mem_cons.mpr ⟨(k_tbl_4 _ (List.mem_of_getElem? (i := 207) rfl)), List.forall_mem_cons.mpr ⟨(k_tbl_4 _ (List.mem_of_getElem? (i := 208) rfl)), List.forall_mem_cons.mpr ⟨(k_tbl_5 _ (List.mem_of_getElem? (i := 84) rfl)), List.forall_mem_cons.mpr ⟨(k_tbl_5 _ (List.mem_of_getElem? (i := 86) rfl)), List.forall_mem_cons.mpr ⟨(List.mem_append_left _ (List.mem_of_getElem? (i := 33) rfl)), List.forall_mem_cons.mpr ⟨(k_tbl_5 _ (List.mem_of_getElem? (i := 87) rfl)), List.forall_mem_cons.mpr ⟨(k_tbl_4 _ (List.mem_of_getElem? (i := 205) rfl)), List.forall_mem_cons.mpr ⟨(k_tbl_5 _ (List.mem_of_getElem? (i := 88) rfl)), List.forall_mem_cons.mpr ⟨(k_tbl_5 _ (List.mem_of_getElem? (i := 90) rfl)), List.forall_mem_cons.mpr ⟨(List.mem_append_left _ (List.mem_of_getElem? (i := 34) rfl)), List.forall_mem_cons.mpr ⟨(k_tbl_5 _ (List.mem_of_getElem? (i := 91) rfl)), List.forall_mem_cons.mpr ⟨(k_tbl_4 _ (List.mem_of_getElem? (i := 210) rfl)), List.forall_mem_cons.mpr ⟨(k_tbl_5 _ (List.mem_of_getElem? (i := 92) rfl)), List.forall_mem_cons.mpr ⟨(k_tbl_5 _ (List.mem_of_getElem? (i := 94) rfl)), List.forall_mem_cons.mpr ⟨(List.mem_append_left _ (List.mem_of_getElem? (i := 35) rfl)), List.forall_mem_cons.mpr ⟨(k_tbl_5 _ (List.mem_of_getElem? (i := 95) rfl)), List.forall_mem_cons.mpr ⟨(k_tbl_5 _ (List.mem_of_getElem? (i := 96) rfl)), List.forall_mem_cons.mpr ⟨(k_tbl_5 _ (List.mem_of_getElem? (i := 97) rfl)), List.forall_mem_cons.mpr ⟨(k_tbl_5 _ (List.mem_of_getElem? (i := 98) rfl)), List.forall_mem_cons.mpr ⟨(k_tbl_5 _ (List.mem_of_getElem? (i := 99) rfl)), List.forall_mem_cons.mpr ⟨(k_tbl_5 _ (List.mem_of_getElem? (i := 100) rfl)), List.forall_mem_cons.mpr ⟨(k_tbl_5 _ (List.mem_of_getElem? (i := 101) rfl)), List.forall_mem_cons.mpr ⟨(k_tbl_5 _ (List.mem_of_getElem? (i := 102) rfl)), List.forall_mem_cons.mpr ⟨(k_tbl_5 _ (List.mem_of_getElem? (i := 103) rfl)), fun _ h => absurd h List.not_mem_nil⟩⟩⟩⟩⟩⟩⟩⟩⟩⟩⟩⟩⟩⟩⟩⟩⟩⟩⟩⟩⟩⟩⟩⟩
set_option maxRecDepth 20000 in
theorem lwi_wsL_law_r17 : ∀ w ∈ wsL_law_r17, w ∈ lw_tbl := List.forall_mem_cons.mpr ⟨(k_tbl_5 _ (List.mem_of_getElem? (i := 104) rfl)), List.forall_mem_cons.mpr ⟨(k_tbl_5 _ (List.mem_of_getElem? (i := 105) rfl)), List.forall_mem_cons.mpr ⟨(k_tbl_5 _ (List.mem_of_getElem? (i := 106) rfl)), List.forall_mem_cons.mpr ⟨(k_tbl_5 _ (List.mem_of_getElem? (i := 107) rfl)), List.forall_mem_cons.mpr ⟨(k_tbl_5 _ (List.mem_of_getElem? (i := 109) rfl)), List.forall_mem_cons.mpr ⟨(List.mem_append_left _ (List.mem_of_getElem? (i := 36) rfl)), List.forall_mem_cons.mpr ⟨(k_tbl_5 _ (List.mem_of_getElem? (i := 110) rfl)), List.forall_mem_cons.mpr ⟨(k_tbl_5 _ (List.mem_of_getElem? (i := 111) rfl)), List.forall_mem_cons.mpr ⟨(k_tbl_5 _ (List.mem_of_getElem? (i := 112) rfl)), List.forall_mem_cons.mpr ⟨(k_tbl_5 _ (List.mem_of_getElem? (i := 113) rfl)), List.forall_mem_cons.mpr ⟨(k_tbl_5 _ (List.mem_of_getElem? (i := 115) rfl)), List.forall_mem_cons.mpr ⟨(List.mem_append_left _ (List.mem_of_getElem? (i := 37) rfl)), List.forall_mem_cons.mpr ⟨(k_tbl_5 _ (List.mem_of_getElem? (i := 116) rfl)), List.forall_mem_cons.mpr ⟨(k_tbl_5 _ (List.mem_of_getElem? (i := 117) rfl)), List.forall_mem_cons.mpr ⟨(k_tbl_5 _ (List.mem_of_getElem? (i := 118) rfl)), List.forall_mem_cons.mpr ⟨(k_tbl_5 _ (List.mem_of_getElem? (i := 119) rfl)), List.forall_mem_cons.mpr ⟨(k_tbl_5 _ (List.mem_of_getElem? (i := 120) rfl)), List.forall_mem_cons.mpr ⟨(k_tbl_5 _ (List.mem_of_getElem? (i := 121) rfl)), List.forall_mem_cons.mpr ⟨(k_tbl_5 _ (List.mem_of_getElem? (i := 122) rfl)), List.forall_mem_cons.mpr ⟨(k_tbl_5 _ (List.mem_of_getElem? (i := 124) rfl)), List.forall_mem_cons.mpr ⟨(List.mem_append_left _ (List.mem_of_getElem? (i := 38) rfl)), List.forall_mem_cons.mpr ⟨(k_tbl_5 _ (List.mem_of_getElem? (i := 125) rfl)), List.forall_mem_cons.mpr ⟨(k_tbl_5 _ (List.mem_of_getElem? (i := 126) rfl)), List.forall_mem_cons.mpr ⟨(k_tbl_5 _ (List.mem_of_getElem? (i := 127) rfl)), fun _ h => absurd h List.not_mem_nil⟩⟩⟩⟩⟩⟩⟩⟩⟩⟩⟩⟩⟩⟩⟩⟩⟩⟩⟩⟩⟩⟩⟩⟩
set_option maxRecDepth 20000 in
theorem lwi_wsL_law_r18 : ∀ w ∈ wsL_law_r18, w ∈ lw_tbl := List.forall_mem_cons.mpr ⟨(k_tbl_5 _ (List.mem_of_getElem? (i := 128) rfl)), List.forall_mem_cons.mpr ⟨(k_tbl_3 _ (List.mem_of_getElem? (i := 69) rfl)), List.forall_mem_cons.mpr ⟨(k_tbl_3 _ (List.mem_of_getElem? (i := 70) rfl)), List.forall_mem_cons.mpr ⟨(k_tbl_3 _ (List.mem_of_getElem? (i := 71) rfl)), List.forall_mem_cons.mpr ⟨(k_tbl_3 _ (List.mem_of_getElem? (i := 72) rfl)), List.forall_mem_cons.mpr ⟨(k_tbl_3 _ (List.mem_of_getElem? (i := 73) rfl)), List.forall_mem_cons.mpr ⟨(k_tbl_1 _ (List.mem_of_getElem? (i := 96) rfl)), List.forall_mem_cons.mpr ⟨(k_tbl_1 _ (List.mem_of_getElem? (i := 140) rfl)), List.forall_mem_cons.mpr ⟨(k_tbl_1 _ (List.mem_of_getElem? (i := 57) rfl)), List.forall_mem_cons.mpr ⟨(k_tbl_3 _ (List.mem_of_getElem? (i := 74) rfl)), List.forall_mem_cons.mpr ⟨(k_tbl_3 _ (List.mem_of_getElem? (i := 76) rfl)), List.forall_mem_cons.mpr ⟨(List.mem_append_left _ (List.mem_of_getElem? (i := 11) rfl)), List.forall_mem_cons.mpr ⟨(k_tbl_3 _ (List.mem_of_getElem? (i := 77) rfl)), List.forall_mem_cons.mpr ⟨(k_tbl_3 _ (List.mem_of_getElem? (i := 78) rfl)), List.forall_mem_cons.mpr ⟨(k_tbl_3 _ (List.mem_of_getElem? (i := 79) rfl)), List.forall_mem_cons.mpr ⟨(k_tbl_3 _ (List.mem_of_getElem? (i := 80) rfl)), List.forall_mem_cons.mpr ⟨(k_tbl_3 _ (List.mem_of_getElem? (i := 81) rfl)), List.forall_mem_cons.mpr ⟨(k_tbl_3 _ (List.mem_of_getElem? (i := 95) rfl)), List.forall_mem_cons.mpr ⟨(k_tbl_3 _ (List.mem_of_getElem? (i := 96) rfl)), List.forall_mem_cons.mpr ⟨(k_tbl_1 _ (List.mem_of_getElem? (i := 18) rfl)), List.forall_mem_cons.mpr ⟨(k_tbl_3 _ (List.mem_of_getElem? (i := 97) rfl)), List.forall_mem_cons.mpr ⟨(k_tbl_3 _ (List.mem_of_getElem? (i := 82) rfl)), List.forall_mem_cons.mpr ⟨(k_tbl_3 _ (List.mem_of_getElem? (i := 84) rfl)), List.forall_mem_cons.mpr ⟨(List.mem_append_left _ (List.mem_of_getElem? (i := 12) rfl)), fun _ h => absurd h List.not_mem_nil⟩⟩⟩⟩⟩⟩⟩⟩⟩⟩⟩⟩⟩⟩⟩⟩⟩⟩⟩⟩⟩⟩⟩⟩
set_option maxRecDepth 20000 in
theorem lwi_wsL_law_r19 : ∀ w ∈ wsL_law_r19, w ∈ lw_tbl := List.forall_mem_cons.mpr ⟨(k_tbl_3 _ (List.mem_of_getElem? (i := 85) rfl)), List.forall_mem_cons.mpr ⟨(k_tbl_3 _ (List.mem_of_getElem? (i := 86) rfl)), List.forall_mem_cons.mpr ⟨(k_tbl_3 _ (List.mem_of_getElem? (i := 87) rfl)), List.forall_mem_cons.mpr ⟨(k_tbl_3 _ (List.mem_of_getElem? (i := 88) rfl)), List.forall_mem_cons.mpr ⟨(k_tbl_3 _ (List.mem_of_getElem? (i := 89) rfl)), List.forall_mem_cons.mpr ⟨(k_tbl_3 _ (List.mem_of_getElem? (i := 90) rfl)), List.forall_mem_cons.mpr ⟨(k_tbl_3 _ (List.mem_of_getElem? (i := 91) rfl)), List.forall_mem_cons.mpr ⟨(k_tbl_3 _ (List.mem_of_getElem? (i := 92) rfl)), List.forall_mem_cons.mpr ⟨(k_tbl_3 _ (List.mem_of_getElem? (i := 93) rfl)), List.forall_mem_cons.mpr ⟨(k_tbl_3 _ (List.mem_of_getElem? (i := 94) rfl)), List.forall_mem_cons.mpr ⟨(k_tbl_3 _ (List.mem_of_getElem? (i := 98) rfl)), List.forall_mem_cons.mpr ⟨(k_tbl_5 _ (List.mem_of_getElem? (i := 130) rfl)), List.forall_mem_cons.mpr ⟨(k_tbl_5 _ (List.mem_of_getElem? (i := 131) rfl)), List.forall_mem_cons.mpr ⟨(k_tbl_5 _ (List.mem_of_getElem? (i := 132) rfl)), List.forall_mem_cons.mpr ⟨(k_tbl_5 _ (List.mem_of_getElem? (i := 133) rfl)), List.forall_mem_cons.mpr ⟨(k_tbl_5 _ (List.mem_of_getElem? (i := 63) rfl)), List.forall_mem_cons.mpr ⟨(k_tbl_5 _ (List.mem_of_getElem? (i := 134) rfl)), List.forall_mem_cons.mpr ⟨(k_tbl_5 _ (List.mem_of_getElem? (i := 136) rfl)), List.forall_mem_cons.mpr ⟨(List.mem_append_left _ (List.mem_of_getElem? (i := 39) rfl)), List.forall_mem_cons.mpr ⟨(k_tbl_5 _ (List.mem_of_getElem? (i := 137) rfl)), List.forall_mem_cons.mpr ⟨(k_tbl_4 _ (List.mem_of_getElem? (i := 201) rfl)), List.forall_mem_cons.mpr ⟨(k_tbl_3 _ (List.mem_of_getElem? (i := 99) rfl)), List.forall_mem_cons.mpr ⟨(k_tbl_3 _ (List.mem_of_getElem? (i := 100) rfl)), List.forall_mem_cons.mpr ⟨(k_tbl_3 _ (List.mem_of_getElem? (i := 101) rfl)), fun _ h => absurd h List.not_mem_nil⟩⟩⟩⟩⟩⟩⟩⟩⟩⟩⟩⟩⟩⟩⟩⟩⟩⟩⟩⟩⟩⟩⟩⟩
set_option maxRecDepth 20000 in
theorem lwi_wsL_law_r20 : ∀ w ∈ wsL_law_r20, w ∈ lw_tbl := List.forall_mem_cons.mpr ⟨(k_tbl_3 _ (List.mem_of_getElem? (i := 102) rfl)), List.forall_mem_cons.mpr ⟨(k_tbl_3 _ (List.mem_of_getElem? (i := 103) rfl)), List.forall_mem_cons.mpr ⟨(k_tbl_3 _ (List.mem_of_getElem? (i := 104) rfl)), List.forall_mem_cons.mpr ⟨(k_tbl_3 _ (List.mem_of_getElem? (i := 105) rfl)), List.forall_mem_cons.mpr ⟨(k_tbl_3 _ (List.mem_of_getElem? (i := 106) rfl)), List.forall_mem_cons.mpr ⟨(k_tbl_3 _ (List.mem_of_getElem? (i := 107) rfl)), List.forall_mem_cons.mpr ⟨(k_tbl_5 _ (List.mem_of_getElem? (i := 138) rfl)), List.forall_mem_cons.mpr ⟨(k_tbl_5 _ (List.mem_of_getElem? (i := 139) rfl)), List.forall_mem_cons.mpr ⟨(k_tbl_5 _ (List.mem_of_getElem? (i := 140) rfl)), List.forall_mem_cons.mpr ⟨(k_tbl_5 _ (List.mem_of_getElem? (i := 141) rfl)), List.forall_mem_cons.mpr ⟨(k_tbl_5 _ (List.mem_of_getElem? (i := 142) rfl)), List.forall_mem_cons.mpr ⟨(k_tbl_5 _ (List.mem_of_getElem? (i := 144) rfl)), List.forall_mem_cons.mpr ⟨(List.mem_append_left _ (List.mem_of_getElem? (i := 40) rfl)), List.forall_mem_cons.mpr ⟨(k_tbl_5 _ (List.mem_of_getElem? (i := 145) rfl)), List.forall_mem_cons.mpr ⟨(k_tbl_5 _ (List.mem_of_getElem? (i := 146) rfl)), List.forall_mem_cons.mpr ⟨(k_tbl_5 _ (List.mem_of_getElem? (i := 148) rfl)), List.forall_mem_cons.mpr ⟨(List.mem_append_left _ (List.mem_of_getElem? (i := 41) rfl)), List.forall_mem_cons.mpr ⟨(k_tbl_5 _ (List.mem_of_getElem? (i := 149) rfl)), List.forall_mem_cons.mpr ⟨(k_tbl_3 _ (List.mem_of_getElem? (i := 108) rfl)), List.forall_mem_cons.mpr ⟨(k_tbl_3 _ (List.mem_of_getElem? (i := 109) rfl)), List.forall_mem_cons.mpr ⟨(k_tbl_3 _ (List.mem_of_getElem? (i := 110) rfl)), List.forall_mem_cons.mpr ⟨(k_tbl_3 _ (List.mem_of_getElem? (i := 111) rfl)), List.forall_mem_cons.mpr ⟨(k_tbl_3 _ (List.mem_of_getElem? (i := 112) rfl)), List.forall_mem_cons.mpr ⟨(k_tbl_3 _ (List.mem_of_getElem? (i := 113) rfl)), fun _ h => absurd h List.not_mem_nil⟩⟩⟩⟩⟩⟩⟩⟩⟩⟩⟩⟩⟩⟩⟩⟩⟩⟩⟩⟩⟩⟩⟩⟩
set_option maxRecDepth 20000 in
theorem lwi_wsL_law_r21 : ∀ w ∈ wsL_law_r21, w ∈ lw_tbl := List.forall_mem_cons.mpr ⟨(k_tbl_3 _ (List.mem_of_getElem? (i := 114) rfl)), List.forall_mem_cons.mpr ⟨(k_tbl_3 _ (List.mem_of_getElem? (i := 115) rfl)), List.forall_mem_cons.mpr ⟨(k_tbl_3 _ (List.mem_of_getElem? (i := 117) rfl)), List.forall_mem_cons.mpr ⟨(k_tbl_3 _ (List.mem_of_getElem? (i := 118) rfl)), List.forall_mem_cons.mpr ⟨(k_tbl_5 _ (List.mem_of_getElem? (i := 150) rfl)), List.forall_mem_cons.mpr ⟨(k_tbl_5 _ (List.mem_of_getElem? (i := 151) rfl)), List.forall_mem_cons.mpr ⟨(k_tbl_5 _ (List.mem_of_getElem? (i := 152) rfl)), List.forall_mem_cons.mpr ⟨(k_tbl_5 _ (List.mem_of_getElem? (i := 153) rfl)), List.forall_mem_cons.mpr ⟨(k_tbl_5 _ (List.mem_of_getElem? (i := 154) rfl)), List.forall_mem_cons.mpr ⟨(k_tbl_5 _ (List.mem_of_getElem? (i := 156) rfl)), List.forall_mem_cons.mpr ⟨(List.mem_append_left _ (List.mem_of_getElem? (i := 42) rfl)), List.forall_mem_cons.mpr ⟨(k_tbl_5 _ (List.mem_of_getElem? (i := 157) rfl)), List.forall_mem_cons.mpr ⟨(k_tbl_3 _ (List.mem_of_getElem? (i := 119) rfl)), List.forall_mem_cons.mpr ⟨(k_tbl_3 _ (List.mem_of_getElem? (i := 120) rfl)), List.forall_mem_cons.mpr ⟨(k_tbl_3 _ (List.mem_of_getElem? (i := 121) rfl)), List.forall_mem_cons.mpr ⟨(k_tbl_3 _ (List.mem_of_getElem? (i := 122) rfl)), List.forall_mem_cons.mpr ⟨(k_tbl_3 _ (List.mem_of_getElem? (i := 123) rfl)), List.forall_mem_cons.mpr ⟨(k_tbl_3 _ (List.mem_of_getElem? (i := 125) rfl)), List.forall_mem_cons.mpr ⟨(k_tbl_1 _ (List.mem_of_getElem? (i := 98) rfl)), List.forall_mem_cons.mpr ⟨(k_tbl_5 _ (List.mem_of_getElem? (i := 158) rfl)), List.forall_mem_cons.mpr ⟨(k_tbl_5 _ (List.mem_of_getElem? (i := 159) rfl)), List.forall_mem_cons.mpr ⟨(k_tbl_5 _ (List.mem_of_getElem? (i := 160) rfl)), List.forall_mem_cons.mpr ⟨(k_tbl_5 _ (List.mem_of_getElem? (i := 161) rfl)), List.forall_mem_cons.mpr ⟨(k_tbl_5 _ (List.mem_of_getElem? (i := 162) rfl)), fun _ h => absurd h List.not_mem_nil⟩⟩⟩⟩⟩⟩⟩⟩⟩⟩⟩⟩⟩⟩⟩⟩⟩⟩⟩⟩⟩⟩⟩⟩
set_option maxRecDepth 20000 in
theorem lwi_wsL_law_r22 : ∀ w ∈ wsL_law_r22, w ∈ lw_tbl := List.forall_mem_cons.mpr ⟨(k_tbl_5 _ (List.mem_of_getElem? (i := 163) rfl)), List.forall_mem_cons.mpr ⟨(k_tbl_5 _ (List.mem_of_getElem? (i := 164) rfl)), List.forall_mem_cons.mpr ⟨(k_tbl_5 _ (List.mem_of_getElem? (i := 165) rfl)), List.forall_mem_cons.mpr ⟨(k_tbl_5 _ (List.mem_of_getElem? (i := 166) rfl)), List.forall_mem_cons.mpr ⟨(k_tbl_5 _ (List.mem_of_getElem? (i := 167) rfl)), List.forall_mem_cons.mpr ⟨(k_tbl_5 _ (List.mem_of_getElem? (i := 168) rfl)), List.forall_mem_cons.mpr ⟨(k_tbl_5 _ (List.mem_of_getElem? (i := 169) rfl)), List.forall_mem_cons.mpr ⟨(k_tbl_5 _ (List.mem_of_getElem? (i := 170) rfl)), List.forall_mem_cons.mpr ⟨(k_tbl_5 _ (List.mem_of_getElem? (i := 171) rfl)), List.forall_mem_cons.mpr ⟨(k_tbl_5 _ (List.mem_of_getElem? (i := 173) rfl)), List.forall_mem_cons.mpr ⟨(List.mem_append_left _ (List.mem_of_getElem? (i := 43) rfl)), List.forall_mem_cons.mpr ⟨(k_tbl_5 _ (List.mem_of_getElem? (i := 174) rfl)), List.forall_mem_cons.mpr ⟨(k_tbl_3 _ (List.mem_of_getElem? (i := 127) rfl)), List.forall_mem_cons.mpr ⟨(k_tbl_3 _ (List.mem_of_getElem? (i := 128) rfl)), List.forall_mem_cons.mpr ⟨(k_tbl_3 _ (List.mem_of_getElem? (i := 129) rfl)), List.forall_mem_cons.mpr ⟨(k_tbl_3 _ (List.mem_of_getElem? (i := 130) rfl)), List.forall_mem_cons.mpr ⟨(k_tbl_1 _ (List.mem_of_getElem? (i := 120) rfl)), List.forall_mem_cons.mpr ⟨(k_tbl_3 _ (List.mem_of_getElem? (i := 131) rfl)), List.forall_mem_cons.mpr ⟨(k_tbl_3 _ (List.mem_of_getElem? (i := 132) rfl)), List.forall_mem_cons.mpr ⟨(k_tbl_3 _ (List.mem_of_getElem? (i := 133) rfl)), List.forall_mem_cons.mpr ⟨(k_tbl_3 _ (List.mem_of_getElem? (i := 134) rfl)), List.forall_mem_cons.mpr ⟨(k_tbl_5 _ (List.mem_of_getElem? (i := 59) rfl)), List.forall_mem_cons.mpr ⟨(k_tbl_5 _ (List.mem_of_getElem? (i := 60) rfl)), List.forall_mem_cons.mpr ⟨(k_tbl_5 _ (List.mem_of_getElem? (i := 61) rfl)), fun _ h => absurd h List.not_mem_nil⟩⟩⟩⟩⟩⟩⟩⟩⟩⟩⟩⟩⟩⟩⟩⟩⟩⟩⟩⟩⟩⟩⟩⟩
set_option maxRecDepth 20000 in
theorem lwi_wsL_law_r23 : ∀ w ∈ wsL_law_r23, w ∈ lw_tbl := List.forall_mem_cons.mpr ⟨(k_tbl_5 _ (List.mem_of_getElem? (i := 62) rfl)), List.forall_mem_cons.mpr ⟨(k_tbl_3 _ (List.mem_of_getElem? (i := 135) rfl)), List.forall_mem_cons.mpr ⟨(k_tbl_3 _ (List.mem_of_getElem? (i := 136) rfl)), List.forall_mem_cons.mpr ⟨(k_tbl_3 _ (List.mem_of_getElem? (i := 137) rfl)), List.forall_mem_cons.mpr ⟨(k_tbl_3 _ (List.mem_of_getElem? (i := 138) rfl)), List.forall_mem_cons.mpr ⟨(k_tbl_1 _ (List.mem_of_getElem? (i := 46) rfl)), List.forall_mem_cons.mpr ⟨(k_tbl_1 _ (List.mem_of_getElem? (i := 49) rfl)), List.forall_mem_cons.mpr ⟨(k_tbl_1 _ (List.mem_of_getElem? (i := 53) rfl)), List.forall_mem_cons.mpr ⟨(k_tbl_3 _ (List.mem_of_getElem? (i := 139) rfl)), List.forall_mem_cons.mpr ⟨(k_tbl_3 _ (List.mem_of_getElem? (i := 140) rfl)), List.forall_mem_cons.mpr ⟨(k_tbl_3 _ (List.mem_of_getElem? (i := 141) rfl)), List.forall_mem_cons.mpr ⟨(k_tbl_3 _ (List.mem_of_getElem? (i := 142) rfl)), List.forall_mem_cons.mpr ⟨(k_tbl_3 _ (List.mem_of_getElem? (i := 143) rfl)), List.forall_mem_cons.mpr ⟨(k_tbl_5 _ (List.mem_of_getElem? (i := 175) rfl)), List.forall_mem_cons.mpr ⟨(k_tbl_5 _ (List.mem_of_getElem? (i := 176) rfl)), List.forall_mem_cons.mpr ⟨(k_tbl_5 _ (List.mem_of_getElem? (i := 177) rfl)), List.forall_mem_cons.mpr ⟨(k_tbl_5 _ (List.mem_of_getElem? (i := 178) rfl)), List.forall_mem_cons.mpr ⟨(k_tbl_5 _ (List.mem_of_getElem? (i := 179) rfl)), List.forall_mem_cons.mpr ⟨(k_tbl_5 _ (List.mem_of_getElem? (i := 180) rfl)), List.forall_mem_cons.mpr ⟨(k_tbl_5 _ (List.mem_of_getElem? (i := 182) rfl)), List.forall_mem_cons.mpr ⟨(List.mem_append_left _ (List.mem_of_getElem? (i := 44) rfl)), List.forall_mem_cons.mpr ⟨(k_tbl_5 _ (List.mem_of_getElem? (i := 183) rfl)), List.forall_mem_cons.mpr ⟨(k_tbl_3 _ (List.mem_of_getElem? (i := 144) rfl)), List.forall_mem_cons.mpr ⟨(k_tbl_3 _ (List.mem_of_getElem? (i := 145) rfl)), fun _ h => absurd h List.not_mem_nil⟩⟩⟩⟩⟩⟩⟩⟩⟩⟩⟩⟩⟩⟩⟩⟩⟩⟩⟩⟩⟩⟩⟩⟩
set_option maxRecDepth 20000 in
theorem lwi_wsL_law_r24 : ∀ w ∈ wsL_law_r24, w ∈ lw_tbl := List.forall_mem_cons.mpr ⟨(k_tbl_3 _ (List.mem_of_getElem? (i := 146) rfl)), List.forall_mem_cons.mpr ⟨(k_tbl_3 _ (List.mem_of_getElem? (i := 147) rfl)), List.forall_mem_cons.mpr ⟨(k_tbl_1 _ (List.mem_of_getElem? (i := 62) rfl)), List.forall_mem_cons.mpr ⟨(k_tbl_1 _ (List.mem_of_getElem? (i := 65) rfl)), List.forall_mem_cons.mpr ⟨(k_tbl_1 _ (List.mem_of_getElem? (i := 68) rfl)), List.forall_mem_cons.mpr ⟨(k_tbl_1 _ (List.mem_of_getElem? (i := 71) rfl)), List.forall_mem_cons.mpr ⟨(k_tbl_3 _ (List.mem_of_getElem? (i := 148) rfl)), List.forall_mem_cons.mpr ⟨(k_tbl_3 _ (List.mem_of_getElem? (i := 150) rfl)), List.forall_mem_cons.mpr ⟨(List.mem_append_left _ (List.mem_of_getElem? (i := 13) rfl)), List.forall_mem_cons.mpr ⟨(k_tbl_3 _ (List.mem_of_getElem? (i := 151) rfl)), List.forall_mem_cons.mpr ⟨(k_tbl_3 _ (List.mem_of_getElem? (i := 152) rfl)), List.forall_mem_cons.mpr ⟨(k_tbl_3 _ (List.mem_of_getElem? (i := 154) rfl)), List.forall_mem_cons.mpr ⟨(List.mem_append_left _ (List.mem_of_getElem? (i := 14) rfl)), List.forall_mem_cons.mpr ⟨(k_tbl_3 _ (List.mem_of_getElem? (i := 155) rfl)), List.forall_mem_cons.mpr ⟨(k_tbl_2 _ (List.mem_of_getElem? (i := 30) rfl)), List.forall_mem_cons.mpr ⟨(k_tbl_2 _ (List.mem_of_getElem? (i := 34) rfl)), List.forall_mem_cons.mpr ⟨(k_tbl_3 _ (List.mem_of_getElem? (i := 156) rfl)), List.forall_mem_cons.mpr ⟨(k_tbl_3 _ (List.mem_of_getElem? (i := 157) rfl)), List.forall_mem_cons.mpr ⟨(k_tbl_3 _ (List.mem_of_getElem? (i := 158) rfl)), List.forall_mem_cons.mpr ⟨(k_tbl_3 _ (List.mem_of_getElem? (i := 159) rfl)), List.forall_mem_cons.mpr ⟨(k_tbl_1 _ (List.mem_of_getElem? (i := 237) rfl)), List.forall_mem_cons.mpr ⟨(k_tbl_1 _ (List.mem_of_getElem? (i := 228) rfl)), List.forall_mem_cons.mpr ⟨(k_tbl_3 _ (List.mem_of_getElem? (i := 160) rfl)), List.forall_mem_cons.mpr ⟨(k_tbl_3 _ (List.mem_of_getElem? (i := 162) rfl)), fun _ h => absurd h List.not_mem_nil⟩⟩⟩⟩⟩⟩⟩⟩⟩⟩⟩⟩⟩⟩⟩⟩⟩⟩⟩⟩⟩⟩⟩⟩
set_option maxRecDepth 20000 in
theorem lwi_wsL_law_r25 : ∀ w ∈ wsL_law_r25, w ∈ lw_tbl := List.forall_mem_cons.mpr ⟨(List.mem_append_left _ (List.mem_of_getElem? (i := 15) rfl)), List.forall_mem_cons.mpr ⟨(k_tbl_3 _ (List.mem_of_getElem? (i := 163) rfl)), List.forall_mem_cons.mpr ⟨(k_tbl_1 _ (List.mem_of_getElem? (i := 56) rfl)), List.forall_mem_cons.mpr ⟨(k_tbl_1 _ (List.mem_of_getElem? (i := 61) rfl)), List.forall_mem_cons.mpr ⟨(k_tbl_1 _ (List.mem_of_getElem? (i := 64) rfl)), List.forall_mem_cons.mpr ⟨(k_tbl_1 _ (List.mem_of_getElem? (i := 70) rfl)), List.forall_mem_cons.mpr ⟨(k_tbl_1 _ (List.mem_of_getElem? (i := 52) rfl)), List.forall_mem_cons.mpr ⟨(k_tbl_1 _ (List.mem_of_getElem? (i := 45) rfl)), List.forall_mem_cons.mpr ⟨(k_tbl_3 _ (List.mem_of_getElem? (i := 165) rfl)), List.forall_mem_cons.mpr ⟨(k_tbl_3 _ (List.mem_of_getElem? (i := 167) rfl)), List.forall_mem_cons.mpr ⟨(List.mem_append_left _ (List.mem_of_getElem? (i := 16) rfl)), List.forall_mem_cons.mpr ⟨(k_tbl_3 _ (List.mem_of_getElem? (i := 168) rfl)), List.forall_mem_cons.mpr ⟨(k_tbl_3 _ (List.mem_of_getElem? (i := 170) rfl)), List.forall_mem_cons.mpr ⟨(k_tbl_3 _ (List.mem_of_getElem? (i := 172) rfl)), List.forall_mem_cons.mpr ⟨(List.mem_append_left _ (List.mem_of_getElem? (i := 17) rfl)), List.forall_mem_cons.mpr ⟨(k_tbl_3 _ (List.mem_of_getElem? (i := 173) rfl)), List.forall_mem_cons.mpr ⟨(k_tbl_3 _ (List.mem_of_getElem? (i := 174) rfl)), List.forall_mem_cons.mpr ⟨(k_tbl_3 _ (List.mem_of_getElem? (i := 175) rfl)), List.forall_mem_cons.mpr ⟨(k_tbl_3 _ (List.mem_of_getElem? (i := 176) rfl)), List.forall_mem_cons.mpr ⟨(k_tbl_3 _ (List.mem_of_getElem? (i := 177) rfl)), List.forall_mem_cons.mpr ⟨(k_tbl_3 _ (List.mem_of_getElem? (i := 179) rfl)), List.forall_mem_cons.mpr ⟨(k_tbl_3 _ (List.mem_of_getElem? (i := 180) rfl)), List.forall_mem_cons.mpr ⟨(k_tbl_3 _ (List.mem_of_getElem? (i := 181) rfl)), List.forall_mem_cons.mpr ⟨(k_tbl_3 _ (List.mem_of_getElem? (i := 182) rfl)), fun _ h => absurd h List.not_mem_nil⟩⟩⟩⟩⟩⟩⟩⟩⟩⟩⟩⟩⟩⟩⟩⟩⟩⟩⟩⟩⟩⟩⟩⟩
set_option maxRecDepth 20000 in
theorem lwi_wsL_law_r26 : ∀ w ∈ wsL_law_r26, w ∈ lw_tbl := List.forall_mem_cons.mpr ⟨(k_tbl_1 _ (List.mem_of_getElem? (i := 43) rfl)), List.forall_mem_cons.mpr ⟨(k_tbl_2 _ (List.mem_of_getElem? (i := 31) rfl)), List.forall_mem_cons.mpr ⟨(k_tbl_3 _ (List.mem_of_getElem? (i := 184) rfl)), List.forall_mem_cons.mpr ⟨(k_tbl_3 _ (List.mem_of_getElem? (i := 186) rfl)), List.forall_mem_cons.mpr ⟨(List.mem_append_left _ (List.mem_of_getElem? (i := 18) rfl)), List.forall_mem_cons.mpr ⟨(k_tbl_3 _ (List.mem_of_getElem? (i := 187) rfl)), List.forall_mem_cons.mpr ⟨(k_tbl_3 _ (List.mem_of_getElem? (i := 188) rfl)), List.forall_mem_cons.mpr ⟨(k_tbl_3 _ (List.mem_of_getElem? (i := 189) rfl)), List.forall_mem_cons.mpr ⟨(k_tbl_3 _ (List.mem_of_getElem? (i := 190) rfl)), List.forall_mem_cons.mpr ⟨(k_tbl_3 _ (List.mem_of_getElem? (i := 191) rfl)), List.forall_mem_cons.mpr ⟨(k_tbl_3 _ (List.mem_of_getElem? (i := 192) rfl)), List.forall_mem_cons.mpr ⟨(k_tbl_3 _ (List.mem_of_getElem? (i := 193) rfl)), List.forall_mem_cons.mpr ⟨(k_tbl_3 _ (List.mem_of_getElem? (i := 194) rfl)), List.forall_mem_cons.mpr ⟨(k_tbl_3 _ (List.mem_of_getElem? (i := 195) rfl)), List.forall_mem_cons.mpr ⟨(k_tbl_3 _ (List.mem_of_getElem? (i := 196) rfl)), List.forall_mem_cons.mpr ⟨(k_tbl_3 _ (List.mem_of_getElem? (i := 198) rfl)), List.forall_mem_cons.mpr ⟨(k_tbl_3 _ (List.mem_of_getElem? (i := 199) rfl)), List.forall_mem_cons.mpr ⟨(k_tbl_3 _ (List.mem_of_getElem? (i := 201) rfl)), List.forall_mem_cons.mpr ⟨(k_tbl_3 _ (List.mem_of_getElem? (i := 203) rfl)), List.forall_mem_cons.mpr ⟨(List.mem_append_left _ (List.mem_of_getElem? (i := 19) rfl)), List.forall_mem_cons.mpr ⟨(k_tbl_3 _ (List.mem_of_getElem? (i := 204) rfl)), List.forall_mem_cons.mpr ⟨(k_tbl_1 _ (List.mem_of_getElem? (i := 229) rfl)), List.forall_mem_cons.mpr ⟨(k_tbl_1 _ (List.mem_of_getElem? (i := 225) rfl)), List.forall_mem_cons.mpr ⟨(k_tbl_1 _ (List.mem_of_getElem? (i := 227) rfl)), fun _ h => absurd h List.not_mem_nil⟩⟩⟩⟩⟩⟩⟩⟩⟩⟩⟩⟩⟩⟩⟩⟩⟩⟩⟩⟩⟩⟩⟩⟩
set_option maxRecDepth 20000 in
theorem lwi_wsL_law_r27 : ∀ w ∈ wsL_law_r27, w ∈ lw_tbl := List.forall_mem_cons.mpr ⟨(k_tbl_1 _ (List.mem_of_getElem? (i := 238) rfl)), List.forall_mem_cons.mpr ⟨(k_tbl_1 _ (List.mem_of_getElem? (i := 235) rfl)), List.forall_mem_cons.mpr ⟨(k_tbl_3 _ (List.mem_of_getElem? (i := 205) rfl)), List.forall_mem_cons.mpr ⟨(k_tbl_3 _ (List.mem_of_getElem? (i := 207) rfl)), List.forall_mem_cons.mpr ⟨(List.mem_append_left _ (List.mem_of_getElem? (i := 20) rfl)), List.forall_mem_cons.mpr ⟨(k_tbl_3 _ (List.mem_of_getElem? (i := 208) rfl)), List.forall_mem_cons.mpr ⟨(k_tbl_3 _ (List.mem_of_getElem? (i := 209) rfl)), List.forall_mem_cons.mpr ⟨(k_tbl_3 _ (List.mem_of_getElem? (i := 210) rfl)), List.forall_mem_cons.mpr ⟨(k_tbl_3 _ (List.mem_of_getElem? (i := 211) rfl)), List.forall_mem_cons.mpr ⟨(k_tbl_3 _ (List.mem_of_getElem? (i := 212) rfl)), List.forall_mem_cons.mpr ⟨(k_tbl_3 _ (List.mem_of_getElem? (i := 213) rfl)), List.forall_mem_cons.mpr ⟨(k_tbl_3 _ (List.mem_of_getElem? (i := 215) rfl)), List.forall_mem_cons.mpr ⟨(List.mem_append_left _ (List.mem_of_getElem? (i := 21) rfl)), List.forall_mem_cons.mpr ⟨(k_tbl_3 _ (List.mem_of_getElem? (i := 216) rfl)), List.forall_mem_cons.mpr ⟨(k_tbl_2 _ (List.mem_of_getElem? (i := 35) rfl)), List.forall_mem_cons.mpr ⟨(k_tbl_2 _ (List.mem_of_getElem? (i := 36) rfl)), List.forall_mem_cons.mpr ⟨(k_tbl_2 _ (List.mem_of_getElem? (i := 37) rfl)), List.forall_mem_cons.mpr ⟨(k_tbl_2 _ (List.mem_of_getElem? (i := 38) rfl)), List.forall_mem_cons.mpr ⟨(k_tbl_3 _ (List.mem_of_getElem? (i := 217) rfl)), List.forall_mem_cons.mpr ⟨(k_tbl_3 _ (List.mem_of_getElem? (i := 219) rfl)), List.forall_mem_cons.mpr ⟨(List.mem_append_left _ (List.mem_of_getElem? (i := 22) rfl)), List.forall_mem_cons.mpr ⟨(k_tbl_3 _ (List.mem_of_getElem? (i := 220) rfl)), List.forall_mem_cons.mpr ⟨(k_tbl_3 _ (List.mem_of_getElem? (i := 221) rfl)), List.forall_mem_cons.mpr ⟨(k_tbl_3 _ (List.mem_of_getElem? (i := 222) rfl)), fun _ h => absurd h List.not_mem_nil⟩⟩⟩⟩⟩⟩⟩⟩⟩⟩⟩⟩⟩⟩⟩⟩⟩⟩⟩⟩⟩⟩⟩⟩
set_option maxRecDepth 20000 in
theorem lwi_wsL_law_r28 : ∀ w ∈ wsL_law_r28, w ∈ lw_tbl := List.forall_mem_cons.mpr ⟨(k_tbl_3 _ (List.mem_of_getElem? (i := 223) rfl)), List.forall_mem_cons.mpr ⟨(k_tbl_3 _ (List.mem_of_getElem? (i := 224) rfl)), List.forall_mem_cons.mpr ⟨(k_tbl_1 _ (List.mem_of_getElem? (i := 211) rfl)), List.forall_mem_cons.mpr ⟨(k_tbl_1 _ (List.mem_of_getElem? (i := 212) rfl)), List.forall_mem_cons.mpr ⟨(k_tbl_3 _ (List.mem_of_getElem? (i := 226) rfl)), List.forall_mem_cons.mpr ⟨(k_tbl_3 _ (List.mem_of_getElem? (i := 227) rfl)), List.forall_mem_cons.mpr ⟨(k_tbl_3 _ (List.mem_of_getElem? (i := 228) rfl)), List.forall_mem_cons.mpr ⟨(k_tbl_3 _ (List.mem_of_getElem? (i := 229) rfl)), List.forall_mem_cons.mpr ⟨(k_tbl_3 _ (List.mem_of_getElem? (i := 230) rfl)), List.forall_mem_cons.mpr ⟨(k_tbl_3 _ (List.mem_of_getElem? (i := 232) rfl)), List.forall_mem_cons.mpr ⟨(k_tbl_3 _ (List.mem_of_getElem? (i := 233) rfl)), List.forall_mem_cons.mpr ⟨(k_tbl_3 _ (List.mem_of_getElem? (i := 234) rfl)), List.forall_mem_cons.mpr ⟨(k_tbl_3 _ (List.mem_of_getElem? (i := 235) rfl)), List.forall_mem_cons.mpr ⟨(k_tbl_2 _ (List.mem_of_getElem? (i := 80) rfl)), List.forall_mem_cons.mpr ⟨(k_tbl_2 _ (List.mem_of_getElem? (i := 82) rfl)), List.forall_mem_cons.mpr ⟨(k_tbl_4 _ (List.mem_of_getElem? (i := 11) rfl)), List.forall_mem_cons.mpr ⟨(k_tbl_3 _ (List.mem_of_getElem? (i := 237) rfl)), List.forall_mem_cons.mpr ⟨(k_tbl_3 _ (List.mem_of_getElem? (i := 238) rfl)), List.forall_mem_cons.mpr ⟨(k_tbl_3 _ (List.mem_of_getElem? (i := 239) rfl)), List.forall_mem_cons.mpr ⟨(k_tbl_4 _ (List.mem_of_getElem? (i := 0) rfl)), List.forall_mem_cons.mpr ⟨(k_tbl_4 _ (List.mem_of_getElem? (i := 1) rfl)), List.forall_mem_cons.mpr ⟨(k_tbl_4 _ (List.mem_of_getElem? (i := 2) rfl)), List.forall_mem_cons.mpr ⟨(k_tbl_4 _ (List.mem_of_getElem? (i := 3) rfl)), List.forall_mem_cons.mpr ⟨(k_tbl_4 _ (List.mem_of_getElem? (i := 5) rfl)), fun _ h => absurd h List.not_mem_nil⟩⟩⟩⟩⟩⟩⟩⟩⟩⟩⟩⟩⟩⟩⟩⟩⟩⟩⟩⟩⟩⟩⟩⟩
set_option maxRecDepth 20000 in
theorem lwi_wsL_law_r29 : ∀ w ∈ wsL_law_r29, w ∈ lw_tbl := List.forall_mem_cons.mpr ⟨(List.mem_append_left _ (List.mem_of_getElem? (i := 23) rfl)), List.forall_mem_cons.mpr ⟨(k_tbl_4 _ (List.mem_of_getElem? (i := 6) rfl)), List.forall_mem_cons.mpr ⟨(k_tbl_4 _ (List.mem_of_getElem? (i := 8) rfl)), List.forall_mem_cons.mpr ⟨(k_tbl_4 _ (List.mem_of_getElem? (i := 9) rfl)), List.forall_mem_cons.mpr ⟨(k_tbl_4 _ (List.mem_of_getElem? (i := 10) rfl)), List.forall_mem_cons.mpr ⟨(k_tbl_4 _ (List.mem_of_getElem? (i := 12) rfl)), List.forall_mem_cons.mpr ⟨(k_tbl_4 _ (List.mem_of_getElem? (i := 13) rfl)), List.forall_mem_cons.mpr ⟨(k_tbl_4 _ (List.mem_of_getElem? (i := 14) rfl)), List.forall_mem_cons.mpr ⟨(k_tbl_4 _ (List.mem_of_getElem? (i := 15) rfl)), List.forall_mem_cons.mpr ⟨(k_tbl_4 _ (List.mem_of_getElem? (i := 16) rfl)), List.forall_mem_cons.mpr ⟨(k_tbl_4 _ (List.mem_of_getElem? (i := 18) rfl)), List.forall_mem_cons.mpr ⟨(List.mem_append_left _ (List.mem_of_getElem? (i := 24) rfl)), List.forall_mem_cons.mpr ⟨(k_tbl_4 _ (List.mem_of_getElem? (i := 19) rfl)), List.forall_mem_cons.mpr ⟨(k_tbl_4 _ (List.mem_of_getElem? (i := 20) rfl)), List.forall_mem_cons.mpr ⟨(k_tbl_4 _ (List.mem_of_getElem? (i := 22) rfl)), List.forall_mem_cons.mpr ⟨(List.mem_append_left _ (List.mem_of_getElem? (i := 25) rfl)), List.forall_mem_cons.mpr ⟨(k_tbl_4 _ (List.mem_of_getElem? (i := 23) rfl)), List.forall_mem_cons.mpr ⟨(k_tbl_4 _ (List.mem_of_getElem? (i := 24) rfl)), List.forall_mem_cons.mpr ⟨(k_tbl_4 _ (List.mem_of_getElem? (i := 25) rfl)), List.forall_mem_cons.mpr ⟨(k_tbl_4 _ (List.mem_of_getElem? (i := 26) rfl)), List.forall_mem_cons.mpr ⟨(k_tbl_4 _ (List.mem_of_getElem? (i := 27) rfl)), List.forall_mem_cons.mpr ⟨(k_tbl_1 _ (List.mem_of_getElem? (i := 66) rfl)), List.forall_mem_cons.mpr ⟨(k_tbl_4 _ (List.mem_of_getElem? (i := 28) rfl)), List.forall_mem_cons.mpr ⟨(k_tbl_4 _ (List.mem_of_getElem? (i := 29) rfl)), fun _ h => absurd h List.not_mem_nil⟩⟩⟩⟩⟩⟩⟩⟩⟩⟩⟩⟩⟩⟩⟩⟩⟩⟩⟩⟩⟩⟩⟩⟩
set_option maxRecDepth 20000 in
theorem lwi_wsL_law_r30 : ∀ w ∈ wsL_law_r30, w ∈ lw_tbl := List.forall_mem_cons.mpr ⟨(k_tbl_4 _ (List.mem_of_getElem? (i := 30) rfl)), List.forall_mem_cons.mpr ⟨(k_tbl_4 _ (List.mem_of_getElem? (i := 31) rfl)), List.forall_mem_cons.mpr ⟨(k_tbl_4 _ (List.mem_of_getElem? (i := 32) rfl)), List.forall_mem_cons.mpr ⟨(k_tbl_4 _ (List.mem_of_getElem? (i := 34) rfl)), List.forall_mem_cons.mpr ⟨(List.mem_append_left _ (List.mem_of_getElem? (i := 26) rfl)), List.forall_mem_cons.mpr ⟨(k_tbl_4 _ (List.mem_of_getElem? (i := 35) rfl)), List.forall_mem_cons.mpr ⟨(k_tbl_4 _ (List.mem_of_getElem? (i := 36) rfl)), List.forall_mem_cons.mpr ⟨(k_tbl_4 _ (List.mem_of_getElem? (i := 38) rfl)), List.forall_mem_cons.mpr ⟨(List.mem_append_left _ (List.mem_of_getElem? (i := 27) rfl)), List.forall_mem_cons.mpr ⟨(k_tbl_4 _ (List.mem_of_getElem? (i := 39) rfl)), List.forall_mem_cons.mpr ⟨(k_tbl_4 _ (List.mem_of_getElem? (i := 40) rfl)), List.forall_mem_cons.mpr ⟨(k_tbl_4 _ (List.mem_of_getElem? (i := 41) rfl)), List.forall_mem_cons.mpr ⟨(k_tbl_4 _ (List.mem_of_getElem? (i := 42) rfl)), List.forall_mem_cons.mpr ⟨(k_tbl_4 _ (List.mem_of_getElem? (i := 43) rfl)), List.forall_mem_cons.mpr ⟨(k_tbl_4 _ (List.mem_of_getElem? (i := 45) rfl)), List.forall_mem_cons.mpr ⟨(k_tbl_4 _ (List.mem_of_getElem? (i := 46) rfl)), List.forall_mem_cons.mpr ⟨(k_tbl_4 _ (List.mem_of_getElem? (i := 47) rfl)), List.forall_mem_cons.mpr ⟨(k_tbl_4 _ (List.mem_of_getElem? (i := 48) rfl)), List.forall_mem_cons.mpr ⟨(k_tbl_4 _ (List.mem_of_getElem? (i := 49) rfl)), List.forall_mem_cons.mpr ⟨(k_tbl_4 _ (List.mem_of_getElem? (i := 50) rfl)), List.forall_mem_cons.mpr ⟨(k_tbl_4 _ (List.mem_of_getElem? (i := 51) rfl)), List.forall_mem_cons.mpr ⟨(k_tbl_4 _ (List.mem_of_getElem? (i := 52) rfl)), List.forall_mem_cons.mpr ⟨(k_tbl_6 _ (List.mem_of_getElem? (i := 36) rfl)), List.forall_mem_cons.mpr ⟨(k_tbl_6 _ (List.mem_of_getElem? (i := 37) rfl)), fun _ h => absurd h List.not_mem_nil⟩⟩⟩⟩⟩⟩⟩⟩⟩⟩⟩⟩⟩⟩⟩⟩⟩⟩⟩⟩⟩⟩⟩⟩
set_option maxRecDepth 20000 in
theorem lwi_wsL_law_r31 : ∀ w ∈ wsL_law_r31, w ∈ lw_tbl := List.forall_mem_cons.mpr ⟨(k_tbl_6 _ (List.mem_of_getElem? (i := 38) rfl)), List.forall_mem_cons.mpr ⟨(k_tbl_6 _ (List.mem_of_getElem? (i := 39) rfl)), List.forall_mem_cons.mpr ⟨(k_tbl_6 _ (List.mem_of_getElem? (i := 23) rfl)), List.forall_mem_cons.mpr ⟨(k_tbl_5 _ (List.mem_of_getElem? (i := 238) rfl)), List.forall_mem_cons.mpr ⟨(k_tbl_6 _ (List.mem_of_getElem? (i := 0) rfl)), List.forall_mem_cons.mpr ⟨(List.mem_append_left _ (List.mem_of_getElem? (i := 52) rfl)), List.forall_mem_cons.mpr ⟨(k_tbl_6 _ (List.mem_of_getElem? (i := 1) rfl)), List.forall_mem_cons.mpr ⟨(k_tbl_4 _ (List.mem_of_getElem? (i := 222) rfl)), List.forall_mem_cons.mpr ⟨(k_tbl_4 _ (List.mem_of_getElem? (i := 223) rfl)), List.forall_mem_cons.mpr ⟨(k_tbl_5 _ (List.mem_of_getElem? (i := 197) rfl)), List.forall_mem_cons.mpr ⟨(k_tbl_5 _ (List.mem_of_getElem? (i := 199) rfl)), List.forall_mem_cons.mpr ⟨(List.mem_append_left _ (List.mem_of_getElem? (i := 46) rfl)), List.forall_mem_cons.mpr ⟨(k_tbl_5 _ (List.mem_of_getElem? (i := 200) rfl)), List.forall_mem_cons.mpr ⟨(k_tbl_5 _ (List.mem_of_getElem? (i := 214) rfl)), List.forall_mem_cons.mpr ⟨(k_tbl_4 _ (List.mem_of_getElem? (i := 214) rfl)), List.forall_mem_cons.mpr ⟨(k_tbl_4 _ (List.mem_of_getElem? (i := 217) rfl)), List.forall_mem_cons.mpr ⟨(k_tbl_5 _ (List.mem_of_getElem? (i := 201) rfl)), List.forall_mem_cons.mpr ⟨(k_tbl_5 _ (List.mem_of_getElem? (i := 203) rfl)), List.forall_mem_cons.mpr ⟨(List.mem_append_left _ (List.mem_of_getElem? (i := 47) rfl)), List.forall_mem_cons.mpr ⟨(k_tbl_5 _ (List.mem_of_getElem? (i := 204) rfl)), List.forall_mem_cons.mpr ⟨(k_tbl_5 _ (List.mem_of_getElem? (i := 205) rfl)), List.forall_mem_cons.mpr ⟨(k_tbl_5 _ (List.mem_of_getElem? (i := 207) rfl)), List.forall_mem_cons.mpr ⟨(List.mem_append_left _ (List.mem_of_getElem? (i := 48) rfl)), List.forall_mem_cons.mpr ⟨(k_tbl_5 _ (List.mem_of_getElem? (i := 208) rfl)), fun _ h => absurd h List.not_mem_nil⟩⟩⟩⟩⟩⟩⟩⟩⟩⟩⟩⟩⟩⟩⟩⟩⟩⟩⟩⟩⟩⟩⟩⟩
set_option maxRecDepth 20000 in
theorem lwi_wsL_law_r32 : ∀ w ∈ wsL_law_r32, w ∈ lw_tbl := List.forall_mem_cons.mpr ⟨(k_tbl_5 _ (List.mem_of_getElem? (i := 209) rfl)), List.forall_mem_cons.mpr ⟨(k_tbl_5 _ (List.mem_of_getElem? (i := 211) rfl)), List.forall_mem_cons.mpr ⟨(List.mem_append_left _ (List.mem_of_getElem? (i := 49) rfl)), List.forall_mem_cons.mpr ⟨(k_tbl_5 _ (List.mem_of_getElem? (i := 212) rfl)), List.forall_mem_cons.mpr ⟨(k_tbl_5 _ (List.mem_of_getElem? (i := 213) rfl)), List.forall_mem_cons.mpr ⟨(k_tbl_5 _ (List.mem_of_getElem? (i := 188) rfl)), List.forall_mem_cons.mpr ⟨(k_tbl_5 _ (List.mem_of_getElem? (i := 190) rfl)), List.forall_mem_cons.mpr ⟨(List.mem_append_left _ (List.mem_of_getElem? (i := 45) rfl)), List.forall_mem_cons.mpr ⟨(k_tbl_5 _ (List.mem_of_getElem? (i := 191) rfl)), List.forall_mem_cons.mpr ⟨(k_tbl_5 _ (List.mem_of_getElem? (i := 215) rfl)), List.forall_mem_cons.mpr ⟨(k_tbl_5 _ (List.mem_of_getElem? (i := 217) rfl)), List.forall_mem_cons.mpr ⟨(List.mem_append_left _ (List.mem_of_getElem? (i := 50) rfl)), List.forall_mem_cons.mpr ⟨(k_tbl_5 _ (List.mem_of_getElem? (i := 218) rfl)), List.forall_mem_cons.mpr ⟨(k_tbl_5 _ (List.mem_of_getElem? (i := 219) rfl)), List.forall_mem_cons.mpr ⟨(k_tbl_5 _ (List.mem_of_getElem? (i := 221) rfl)), List.forall_mem_cons.mpr ⟨(List.mem_append_left _ (List.mem_of_getElem? (i := 51) rfl)), List.forall_mem_cons.mpr ⟨(k_tbl_5 _ (List.mem_of_getElem? (i := 222) rfl)), List.forall_mem_cons.mpr ⟨(k_tbl_6 _ (List.mem_of_getElem? (i := 2) rfl)), List.forall_mem_cons.mpr ⟨(k_tbl_6 _ (List.mem_of_getElem? (i := 4) rfl)), List.forall_mem_cons.mpr ⟨(List.mem_append_left _ (List.mem_of_getElem? (i := 53) rfl)), List.forall_mem_cons.mpr ⟨(k_tbl_6 _ (List.mem_of_getElem? (i := 5) rfl)), List.forall_mem_cons.mpr ⟨(k_tbl_6 _ (List.mem_of_getElem? (i := 6) rfl)), List.forall_mem_cons.mpr ⟨(k_tbl_6 _ (List.mem_of_getElem? (i := 8) rfl)), List.forall_mem_cons.mpr ⟨(List.mem_append_left _ (List.mem_of_getElem? (i := 54) rfl)), fun _ h => absurd h List.not_mem_nil⟩⟩⟩⟩⟩⟩⟩⟩⟩⟩⟩⟩⟩⟩⟩⟩⟩⟩⟩⟩⟩⟩⟩⟩
set_option maxRecDepth 20000 in
theorem lwi_wsL_law_r33 : ∀ w ∈ wsL_law_r33, w ∈ lw_tbl := List.forall_mem_cons.mpr ⟨(k_tbl_6 _ (List.mem_of_getElem? (i := 9) rfl)), List.forall_mem_cons.mpr ⟨(k_tbl_5 _ (List.mem_of_getElem? (i := 231) rfl)), List.forall_mem_cons.mpr ⟨(k_tbl_5 _ (List.mem_of_getElem? (i := 232) rfl)), List.forall_mem_cons.mpr ⟨(k_tbl_5 _ (List.mem_of_getElem? (i := 233) rfl)), List.forall_mem_cons.mpr ⟨(k_tbl_6 _ (List.mem_of_getElem? (i := 10) rfl)), List.forall_mem_cons.mpr ⟨(k_tbl_6 _ (List.mem_of_getElem? (i := 12) rfl)), List.forall_mem_cons.mpr ⟨(List.mem_append_left _ (List.mem_of_getElem? (i := 55) rfl)), List.forall_mem_cons.mpr ⟨(k_tbl_6 _ (List.mem_of_getElem? (i := 13) rfl)), List.forall_mem_cons.mpr ⟨(k_tbl_6 _ (List.mem_of_getElem? (i := 40) rfl)), List.forall_mem_cons.mpr ⟨(k_tbl_6 _ (List.mem_of_getElem? (i := 42) rfl)), List.forall_mem_cons.mpr ⟨(List.mem_append_left _ (List.mem_of_getElem? (i := 57) rfl)), List.forall_mem_cons.mpr ⟨(k_tbl_6 _ (List.mem_of_getElem? (i := 43) rfl)), List.forall_mem_cons.mpr ⟨(k_tbl_6 _ (List.mem_of_getElem? (i := 44) rfl)), List.forall_mem_cons.mpr ⟨(k_tbl_6 _ (List.mem_of_getElem? (i := 46) rfl)), List.forall_mem_cons.mpr ⟨(List.mem_append_left _ (List.mem_of_getElem? (i := 58) rfl)), List.forall_mem_cons.mpr ⟨(k_tbl_6 _ (List.mem_of_getElem? (i := 47) rfl)), List.forall_mem_cons.mpr ⟨(k_tbl_6 _ (List.mem_of_getElem? (i := 28) rfl)), List.forall_mem_cons.mpr ⟨(k_tbl_6 _ (List.mem_of_getElem? (i := 30) rfl)), List.forall_mem_cons.mpr ⟨(List.mem_append_left _ (List.mem_of_getElem? (i := 56) rfl)), List.forall_mem_cons.mpr ⟨(k_tbl_6 _ (List.mem_of_getElem? (i := 31) rfl)), List.forall_mem_cons.mpr ⟨(k_tbl_4 _ (List.mem_of_getElem? (i := 53) rfl)), List.forall_mem_cons.mpr ⟨(k_tbl_4 _ (List.mem_of_getElem? (i := 54) rfl)), List.forall_mem_cons.mpr ⟨(k_tbl_4 _ (List.mem_of_getElem? (i := 55) rfl)), List.forall_mem_cons.mpr ⟨(k_tbl_4 _ (List.mem_of_getElem? (i := 56) rfl)), fun _ h => absurd h List.not_mem_nil⟩⟩⟩⟩⟩⟩⟩⟩⟩⟩⟩⟩⟩⟩⟩⟩⟩⟩⟩⟩⟩⟩⟩⟩
set_option maxRecDepth 20000 in
theorem lwi_wsL_law_r34 : ∀ w ∈ wsL_law_r34, w ∈ lw_tbl := List.forall_mem_cons.mpr ⟨(k_tbl_4 _ (List.mem_of_getElem? (i := 57) rfl)), List.forall_mem_cons.mpr ⟨(k_tbl_4 _ (List.mem_of_getElem? (i := 58) rfl)), List.forall_mem_cons.mpr ⟨(k_tbl_4 _ (List.mem_of_getElem? (i := 59) rfl)), List.forall_mem_cons.mpr ⟨(k_tbl_4 _ (List.mem_of_getElem? (i := 60) rfl)), List.forall_mem_cons.mpr ⟨(k_tbl_4 _ (List.mem_of_getElem? (i := 61) rfl)), List.forall_mem_cons.mpr ⟨(k_tbl_4 _ (List.mem_of_getElem? (i := 62) rfl)), List.forall_mem_cons.mpr ⟨(k_tbl_5 _ (List.mem_of_getElem? (i := 184) rfl)), List.forall_mem_cons.mpr ⟨(k_tbl_5 _ (List.mem_of_getElem? (i := 185) rfl)), List.forall_mem_cons.mpr ⟨(k_tbl_5 _ (List.mem_of_getElem? (i := 186) rfl)), List.forall_mem_cons.mpr ⟨(k_tbl_5 _ (List.mem_of_getElem? (i := 187) rfl)), List.forall_mem_cons.mpr ⟨(k_tbl_4 _ (List.mem_of_getElem? (i := 63) rfl)), List.forall_mem_cons.mpr ⟨(k_tbl_4 _ (List.mem_of_getElem? (i := 64) rfl)), List.forall_mem_cons.mpr ⟨(k_tbl_4 _ (List.mem_of_getElem? (i := 65) rfl)), List.forall_mem_cons.mpr ⟨(k_tbl_4 _ (List.mem_of_getElem? (i := 66) rfl)), List.forall_mem_cons.mpr ⟨(k_tbl_2 _ (List.mem_of_getElem? (i := 22) rfl)), List.forall_mem_cons.mpr ⟨(k_tbl_2 _ (List.mem_of_getElem? (i := 24) rfl)), List.forall_mem_cons.mpr ⟨(k_tbl_2 _ (List.mem_of_getElem? (i := 26) rfl)), List.forall_mem_cons.mpr ⟨(k_tbl_4 _ (List.mem_of_getElem? (i := 67) rfl)), List.forall_mem_cons.mpr ⟨(k_tbl_4 _ (List.mem_of_getElem? (i := 69) rfl)), List.forall_mem_cons.mpr ⟨(List.mem_append_left _ (List.mem_of_getElem? (i := 28) rfl)), List.forall_mem_cons.mpr ⟨(k_tbl_4 _ (List.mem_of_getElem? (i := 70) rfl)), List.forall_mem_cons.mpr ⟨(k_tbl_5 _ (List.mem_of_getElem? (i := 192) rfl)), List.forall_mem_cons.mpr ⟨(k_tbl_5 _ (List.mem_of_getElem? (i := 193) rfl)), List.forall_mem_cons.mpr ⟨(k_tbl_5 _ (List.mem_of_getElem? (i := 194) rfl)), fun _ h => absurd h List.not_mem_nil⟩⟩⟩⟩⟩⟩⟩⟩⟩⟩⟩⟩⟩⟩⟩⟩⟩⟩⟩⟩⟩⟩⟩⟩
set_option maxRecDepth 20000 in
theorem lwi_wsL_law_r35 : ∀ w ∈ wsL_law_r35, w ∈ lw_tbl := List.forall_mem_cons.mpr ⟨(k_tbl_5 _ (List.mem_of_getElem? (i := 195) rfl)), List.forall_mem_cons.mpr ⟨(k_tbl_5 _ (List.mem_of_getElem? (i := 196) rfl)), List.forall_mem_cons.mpr ⟨(k_tbl_4 _ (List.mem_of_getElem? (i := 71) rfl)), List.forall_mem_cons.mpr ⟨(k_tbl_4 _ (List.mem_of_getElem? (i := 72) rfl)), List.forall_mem_cons.mpr ⟨(k_tbl_4 _ (List.mem_of_getElem? (i := 73) rfl)), List.forall_mem_cons.mpr ⟨(k_tbl_4 _ (List.mem_of_getElem? (i := 74) rfl)), List.forall_mem_cons.mpr ⟨(k_tbl_1 _ (List.mem_of_getElem? (i := 239) rfl)), List.forall_mem_cons.mpr ⟨(k_tbl_1 _ (List.mem_of_getElem? (i := 236) rfl)), List.forall_mem_cons.mpr ⟨(k_tbl_1 _ (List.mem_of_getElem? (i := 231) rfl)), List.forall_mem_cons.mpr ⟨(k_tbl_1 _ (List.mem_of_getElem? (i := 233) rfl)), List.forall_mem_cons.mpr ⟨(k_tbl_4 _ (List.mem_of_getElem? (i := 75) rfl)), List.forall_mem_cons.mpr ⟨(k_tbl_5 _ (List.mem_of_getElem? (i := 223) rfl)), List.forall_mem_cons.mpr ⟨(k_tbl_5 _ (List.mem_of_getElem? (i := 224) rfl)), List.forall_mem_cons.mpr ⟨(k_tbl_5 _ (List.mem_of_getElem? (i := 225) rfl)), List.forall_mem_cons.mpr ⟨(k_tbl_5 _ (List.mem_of_getElem? (i := 226) rfl)), List.forall_mem_cons.mpr ⟨(k_tbl_4 _ (List.mem_of_getElem? (i := 76) rfl)), List.forall_mem_cons.mpr ⟨(k_tbl_4 _ (List.mem_of_getElem? (i := 77) rfl)), List.forall_mem_cons.mpr ⟨(k_tbl_4 _ (List.mem_of_getElem? (i := 78) rfl)), List.forall_mem_cons.mpr ⟨(k_tbl_4 _ (List.mem_of_getElem? (i := 79) rfl)), List.forall_mem_cons.mpr ⟨(k_tbl_4 _ (List.mem_of_getElem? (i := 80) rfl)), List.forall_mem_cons.mpr ⟨(k_tbl_4 _ (List.mem_of_getElem? (i := 82) rfl)), List.forall_mem_cons.mpr ⟨(List.mem_append_left _ (List.mem_of_getElem? (i := 29) rfl)), List.forall_mem_cons.mpr ⟨(k_tbl_4 _ (List.mem_of_getElem? (i := 83) rfl)), List.forall_mem_cons.mpr ⟨(k_tbl_4 _ (List.mem_of_getElem? (i := 86) rfl)), fun _ h => absurd h List.not_mem_nil⟩⟩⟩⟩⟩⟩⟩⟩⟩⟩⟩⟩⟩⟩⟩⟩⟩⟩⟩⟩⟩⟩⟩⟩
set_option maxRecDepth 20000 in
theorem lwi_wsL_law_r36 : ∀ w ∈ wsL_law_r36, w ∈ lw_tbl := List.forall_mem_cons.mpr ⟨(k_tbl_4 _ (List.mem_of_getElem? (i := 84) rfl)), List.forall_mem_cons.mpr ⟨(k_tbl_4 _ (List.mem_of_getElem? (i := 85) rfl)), List.forall_mem_cons.mpr ⟨(k_tbl_5 _ (List.mem_of_getElem? (i := 227) rfl)), List.forall_mem_cons.mpr ⟨(k_tbl_5 _ (List.mem_of_getElem? (i := 228) rfl)), List.forall_mem_cons.mpr ⟨(k_tbl_5 _ (List.mem_of_getElem? (i := 229) rfl)), List.forall_mem_cons.mpr ⟨(k_tbl_5 _ (List.mem_of_getElem? (i := 230) rfl)), List.forall_mem_cons.mpr ⟨(k_tbl_4 _ (List.mem_of_getElem? (i := 87) rfl)), List.forall_mem_cons.mpr ⟨(k_tbl_4 _ (List.mem_of_getElem? (i := 88) rfl)), List.forall_mem_cons.mpr ⟨(k_tbl_4 _ (List.mem_of_getElem? (i := 89) rfl)), List.forall_mem_cons.mpr ⟨(k_tbl_4 _ (List.mem_of_getElem? (i := 90) rfl)), List.forall_mem_cons.mpr ⟨(k_tbl_2 _ (List.mem_of_getElem? (i := 81) rfl)), List.forall_mem_cons.mpr ⟨(k_tbl_5 _ (List.mem_of_getElem? (i := 234) rfl)), List.forall_mem_cons.mpr ⟨(k_tbl_5 _ (List.mem_of_getElem? (i := 235) rfl)), List.forall_mem_cons.mpr ⟨(k_tbl_5 _ (List.mem_of_getElem? (i := 236) rfl)), List.forall_mem_cons.mpr ⟨(k_tbl_5 _ (List.mem_of_getElem? (i := 237) rfl)), List.forall_mem_cons.mpr ⟨(k_tbl_4 _ (List.mem_of_getElem? (i := 91) rfl)), List.forall_mem_cons.mpr ⟨(k_tbl_4 _ (List.mem_of_getElem? (i := 92) rfl)), List.forall_mem_cons.mpr ⟨(k_tbl_4 _ (List.mem_of_getElem? (i := 93) rfl)), List.forall_mem_cons.mpr ⟨(k_tbl_4 _ (List.mem_of_getElem? (i := 94) rfl)), List.forall_mem_cons.mpr ⟨(k_tbl_2 _ (List.mem_of_getElem? (i := 65) rfl)), List.forall_mem_cons.mpr ⟨(k_tbl_2 _ (List.mem_of_getElem? (i := 67) rfl)), List.forall_mem_cons.mpr ⟨(k_tbl_2 _ (List.mem_of_getElem? (i := 69) rfl)), List.forall_mem_cons.mpr ⟨(k_tbl_2 _ (List.mem_of_getElem? (i := 71) rfl)), List.forall_mem_cons.mpr ⟨(k_tbl_2 _ (List.mem_of_getElem? (i := 73) rfl)), fun _ h => absurd h List.not_mem_nil⟩⟩⟩⟩⟩⟩⟩⟩⟩⟩⟩⟩⟩⟩⟩⟩⟩⟩⟩⟩⟩⟩⟩⟩
set_option maxRecDepth 20000 in
theorem lwi_wsL_law_r37 : ∀ w ∈ wsL_law_r37, w ∈ lw_tbl := List.forall_mem_cons.mpr ⟨(k_tbl_2 _ (List.mem_of_getElem? (i := 75) rfl)), List.forall_mem_cons.mpr ⟨(k_tbl_2 _ (List.mem_of_getElem? (i := 77) rfl)), List.forall_mem_cons.mpr ⟨(k_tbl_2 _ (List.mem_of_getElem? (i := 79) rfl)), List.forall_mem_cons.mpr ⟨(k_tbl_6 _ (List.mem_of_getElem? (i := 14) rfl)), List.forall_mem_cons.mpr ⟨(k_tbl_6 _ (List.mem_of_getElem? (i := 15) rfl)), List.forall_mem_cons.mpr ⟨(k_tbl_6 _ (List.mem_of_getElem? (i := 16) rfl)), List.forall_mem_cons.mpr ⟨(k_tbl_6 _ (List.mem_of_getElem? (i := 17) rfl)), List.forall_mem_cons.mpr ⟨(k_tbl_6 _ (List.mem_of_getElem? (i := 18) rfl)), List.forall_mem_cons.mpr ⟨(k_tbl_4 _ (List.mem_of_getElem? (i := 95) rfl)), List.forall_mem_cons.mpr ⟨(k_tbl_4 _ (List.mem_of_getElem? (i := 96) rfl)), List.forall_mem_cons.mpr ⟨(k_tbl_4 _ (List.mem_of_getElem? (i := 97) rfl)), List.forall_mem_cons.mpr ⟨(k_tbl_4 _ (List.mem_of_getElem? (i := 98) rfl)), List.forall_mem_cons.mpr ⟨(k_tbl_4 _ (List.mem_of_getElem? (i := 99) rfl)), List.forall_mem_cons.mpr ⟨(k_tbl_4 _ (List.mem_of_getElem? (i := 100) rfl)), List.forall_mem_cons.mpr ⟨(k_tbl_4 _ (List.mem_of_getElem? (i := 101) rfl)), List.forall_mem_cons.mpr ⟨(k_tbl_4 _ (List.mem_of_getElem? (i := 102) rfl)), List.forall_mem_cons.mpr ⟨(k_tbl_4 _ (List.mem_of_getElem? (i := 103) rfl)), List.forall_mem_cons.mpr ⟨(k_tbl_4 _ (List.mem_of_getElem? (i := 104) rfl)), List.forall_mem_cons.mpr ⟨(k_tbl_4 _ (List.mem_of_getElem? (i := 105) rfl)), List.forall_mem_cons.mpr ⟨(k_tbl_4 _ (List.mem_of_getElem? (i := 106) rfl)), List.forall_mem_cons.mpr ⟨(k_tbl_4 _ (List.mem_of_getElem? (i := 107) rfl)), List.forall_mem_cons.mpr ⟨(k_tbl_4 _ (List.mem_of_getElem? (i := 108) rfl)), List.forall_mem_cons.mpr ⟨(k_tbl_4 _ (List.mem_of_getElem? (i := 109) rfl)), List.forall_mem_cons.mpr ⟨(k_tbl_4 _ (List.mem_of_getElem? (i := 110) rfl)), fun _ h => absurd h List.not_mem_nil⟩⟩⟩⟩⟩⟩⟩⟩⟩⟩⟩⟩⟩⟩⟩⟩⟩⟩⟩⟩⟩⟩⟩⟩
set_option maxRecDepth 20000 in
theorem lwi_wsL_law_r38 : ∀ w ∈ wsL_law_r38, w ∈ lw_tbl := List.forall_mem_cons.mpr ⟨(k_tbl_4 _ (List.mem_of_getElem? (i := 112) rfl)), List.forall_mem_cons.mpr ⟨(List.mem_append_left _ (List.mem_of_getElem? (i := 30) rfl)), List.forall_mem_cons.mpr ⟨(k_tbl_4 _ (List.mem_of_getElem? (i := 113) rfl)), List.forall_mem_cons.mpr ⟨(k_tbl_6 _ (List.mem_of_getElem? (i := 19) rfl)), List.forall_mem_cons.mpr ⟨(k_tbl_6 _ (List.mem_of_getElem? (i := 20) rfl)), List.forall_mem_cons.mpr ⟨(k_tbl_6 _ (List.mem_of_getElem? (i := 21) rfl)), List.forall_mem_cons.mpr ⟨(k_tbl_6 _ (List.mem_of_getElem? (i := 22) rfl)), List.forall_mem_cons.mpr ⟨(k_tbl_4 _ (List.mem_of_getElem? (i := 114) rfl)), List.forall_mem_cons.mpr ⟨(k_tbl_4 _ (List.mem_of_getElem? (i := 115) rfl)), List.forall_mem_cons.mpr ⟨(k_tbl_4 _ (List.mem_of_getElem? (i := 116) rfl)), List.forall_mem_cons.mpr ⟨(k_tbl_4 _ (List.mem_of_getElem? (i := 117) rfl)), List.forall_mem_cons.mpr ⟨(k_tbl_4 _ (List.mem_of_getElem? (i := 118) rfl)), List.forall_mem_cons.mpr ⟨(k_tbl_6 _ (List.mem_of_getElem? (i := 24) rfl)), List.forall_mem_cons.mpr ⟨(k_tbl_6 _ (List.mem_of_getElem? (i := 25) rfl)), List.forall_mem_cons.mpr ⟨(k_tbl_6 _ (List.mem_of_getElem? (i := 26) rfl)), List.forall_mem_cons.mpr ⟨(k_tbl_6 _ (List.mem_of_getElem? (i := 27) rfl)), List.forall_mem_cons.mpr ⟨(k_tbl_4 _ (List.mem_of_getElem? (i := 119) rfl)), List.forall_mem_cons.mpr ⟨(k_tbl_4 _ (List.mem_of_getElem? (i := 120) rfl)), List.forall_mem_cons.mpr ⟨(k_tbl_4 _ (List.mem_of_getElem? (i := 121) rfl)), List.forall_mem_cons.mpr ⟨(k_tbl_4 _ (List.mem_of_getElem? (i := 122) rfl)), List.forall_mem_cons.mpr ⟨(k_tbl_4 _ (List.mem_of_getElem? (i := 123) rfl)), List.forall_mem_cons.mpr ⟨(k_tbl_4 _ (List.mem_of_getElem? (i := 124) rfl)), List.forall_mem_cons.mpr ⟨(k_tbl_4 _ (List.mem_of_getElem? (i := 125) rfl)), List.forall_mem_cons.mpr ⟨(k_tbl_4 _ (List.mem_of_getElem? (i := 126) rfl)), fun _ h => absurd h List.not_mem_nil⟩⟩⟩⟩⟩⟩⟩⟩⟩⟩⟩⟩⟩⟩⟩⟩⟩⟩⟩⟩⟩⟩⟩⟩
set_option maxRecDepth 20000 in
theorem lwi_wsL_law_r39 : ∀ w ∈ wsL_law_r39, w ∈ lw_tbl := List.forall_mem_cons.mpr ⟨(k_tbl_6 _ (List.mem_of_getElem? (i := 32) rfl)), List.forall_mem_cons.mpr ⟨(k_tbl_6 _ (List.mem_of_getElem? (i := 33) rfl)), List.forall_mem_cons.mpr ⟨(k_tbl_6 _ (List.mem_of_getElem? (i := 34) rfl)), List.forall_mem_cons.mpr ⟨(k_tbl_6 _ (List.mem_of_getElem? (i := 35) rfl)), List.forall_mem_cons.mpr ⟨(k_tbl_4 _ (List.mem_of_getElem? (i := 127) rfl)), List.forall_mem_cons.mpr ⟨(k_tbl_4 _ (List.mem_of_getElem? (i := 128) rfl)), List.forall_mem_cons.mpr ⟨(k_tbl_4 _ (List.mem_of_getElem? (i := 129) rfl)), List.forall_mem_cons.mpr ⟨(k_tbl_4 _ (List.mem_of_getElem? (i := 130) rfl)), List.forall_mem_cons.mpr ⟨(k_tbl_4 _ (List.mem_of_getElem? (i := 131) rfl)), List.forall_mem_cons.mpr ⟨(k_tbl_4 _ (List.mem_of_getElem? (i := 132) rfl)), List.forall_mem_cons.mpr ⟨(k_tbl_4 _ (List.mem_of_getElem? (i := 133) rfl)), List.forall_mem_cons.mpr ⟨(k_tbl_4 _ (List.mem_of_getElem? (i := 134) rfl)), List.forall_mem_cons.mpr ⟨(k_tbl_4 _ (List.mem_of_getElem? (i := 135) rfl)), List.forall_mem_cons.mpr ⟨(k_tbl_4 _ (List.mem_of_getElem? (i := 137) rfl)), List.forall_mem_cons.mpr ⟨(List.mem_append_left _ (List.mem_of_getElem? (i := 31) rfl)), List.forall_mem_cons.mpr ⟨(k_tbl_4 _ (List.mem_of_getElem? (i := 138) rfl)), List.forall_mem_cons.mpr ⟨(k_tbl_1 _ (List.mem_of_getElem? (i := 58) rfl)), List.forall_mem_cons.mpr ⟨(k_tbl_4 _ (List.mem_of_getElem? (i := 139) rfl)), List.forall_mem_cons.mpr ⟨(k_tbl_4 _ (List.mem_of_getElem? (i := 140) rfl)), List.forall_mem_cons.mpr ⟨(k_tbl_4 _ (List.mem_of_getElem? (i := 141) rfl)), List.forall_mem_cons.mpr ⟨(k_tbl_4 _ (List.mem_of_getElem? (i := 142) rfl)), List.forall_mem_cons.mpr ⟨(k_tbl_6 _ (List.mem_of_getElem? (i := 48) rfl)), List.forall_mem_cons.mpr ⟨(k_tbl_6 _ (List.mem_of_getElem? (i := 49) rfl)), List.forall_mem_cons.mpr ⟨(k_tbl_6 _ (List.mem_of_getElem? (i := 50) rfl)), fun _ h => absurd h List.not_mem_nil⟩⟩⟩⟩⟩⟩⟩⟩⟩⟩⟩⟩⟩⟩⟩⟩⟩⟩⟩⟩⟩⟩⟩⟩
set_option maxRecDepth 20000 in
theorem lwi_wsL_law_r40 : ∀ w ∈ wsL_law_r40, w ∈ lw_tbl := List.forall_mem_cons.mpr ⟨(k_tbl_6 _ (List.mem_of_getElem? (i := 51) rfl)), List.forall_mem_cons.mpr ⟨(k_tbl_6 _ (List.mem_of_getElem? (i := 52) rfl)), List.forall_mem_cons.mpr ⟨(k_tbl_6 _ (List.mem_of_getElem? (i := 54) rfl)), List.forall_mem_cons.mpr ⟨(List.mem_append_left _ (List.mem_of_getElem? (i := 59) rfl)), List.forall_mem_cons.mpr ⟨(k_tbl_6 _ (List.mem_of_getElem? (i := 55) rfl)), List.forall_mem_cons.mpr ⟨(k_tbl_6 _ (List.mem_of_getElem? (i := 56) rfl)), List.forall_mem_cons.mpr ⟨(k_tbl_6 _ (List.mem_of_getElem? (i := 58) rfl)), List.forall_mem_cons.mpr ⟨(List.mem_append_left _ (List.mem_of_getElem? (i := 60) rfl)), List.forall_mem_cons.mpr ⟨(k_tbl_6 _ (List.mem_of_getElem? (i := 59) rfl)), List.forall_mem_cons.mpr ⟨(k_tbl_4 _ (List.mem_of_getElem? (i := 143) rfl)), List.forall_mem_cons.mpr ⟨(k_tbl_4 _ (List.mem_of_getElem? (i := 144) rfl)), List.forall_mem_cons.mpr ⟨(k_tbl_4 _ (List.mem_of_getElem? (i := 145) rfl)), List.forall_mem_cons.mpr ⟨(k_tbl_4 _ (List.mem_of_getElem? (i := 146) rfl)), List.forall_mem_cons.mpr ⟨(k_tbl_4 _ (List.mem_of_getElem? (i := 147) rfl)), List.forall_mem_cons.mpr ⟨(k_tbl_4 _ (List.mem_of_getElem? (i := 148) rfl)), List.forall_mem_cons.mpr ⟨(k_tbl_4 _ (List.mem_of_getElem? (i := 149) rfl)), List.forall_mem_cons.mpr ⟨(k_tbl_4 _ (List.mem_of_getElem? (i := 150) rfl)), List.forall_mem_cons.mpr ⟨(k_tbl_4 _ (List.mem_of_getElem? (i := 151) rfl)), List.forall_mem_cons.mpr ⟨(k_tbl_4 _ (List.mem_of_getElem? (i := 152) rfl)), List.forall_mem_cons.mpr ⟨(k_tbl_6 _ (List.mem_of_getElem? (i := 60) rfl)), List.forall_mem_cons.mpr ⟨(k_tbl_6 _ (List.mem_of_getElem? (i := 61) rfl)), List.forall_mem_cons.mpr ⟨(k_tbl_6 _ (List.mem_of_getElem? (i := 62) rfl)), List.forall_mem_cons.mpr ⟨(k_tbl_6 _ (List.mem_of_getElem? (i := 63) rfl)), List.forall_mem_cons.mpr ⟨(k_tbl_4 _ (List.mem_of_getElem? (i := 153) rfl)), fun _ h => absurd h List.not_mem_nil⟩⟩⟩⟩⟩⟩⟩⟩⟩⟩⟩⟩⟩⟩⟩⟩⟩⟩⟩⟩⟩⟩⟩⟩
set_option maxRecDepth 20000 in
theorem lwi_wsL_law_r41 : ∀ w ∈ wsL_law_r41, w ∈ lw_tbl := List.forall_mem_cons.mpr ⟨(k_tbl_4 _ (List.mem_of_getElem? (i := 154) rfl)), List.forall_mem_cons.mpr ⟨(k_tbl_4 _ (List.mem_of_getElem? (i := 155) rfl)), List.forall_mem_cons.mpr ⟨(k_tbl_4 _ (List.mem_of_getElem? (i := 156) rfl)), List.forall_mem_cons.mpr ⟨(k_tbl_1 _ (List.mem_of_getElem? (i := 100) rfl)), List.forall_mem_cons.mpr ⟨(k_tbl_4 _ (List.mem_of_getElem? (i := 157) rfl)), List.forall_mem_cons.mpr ⟨(k_tbl_4 _ (List.mem_of_getElem? (i := 158) rfl)), List.forall_mem_cons.mpr ⟨(k_tbl_4 _ (List.mem_of_getElem? (i := 159) rfl)), List.forall_mem_cons.mpr ⟨(k_tbl_4 _ (List.mem_of_getElem? (i := 160) rfl)), List.forall_mem_cons.mpr ⟨(k_tbl_2 _ (List.mem_of_getElem? (i := 32) rfl)), List.forall_mem_cons.mpr ⟨(k_tbl_2 _ (List.mem_of_getElem? (i := 28) rfl)), List.forall_mem_cons.mpr ⟨(k_tbl_4 _ (List.mem_of_getElem? (i := 161) rfl)), List.forall_mem_cons.mpr ⟨(k_tbl_4 _ (List.mem_of_getElem? (i := 162) rfl)), List.forall_mem_cons.mpr ⟨(k_tbl_1 _ (List.mem_of_getElem? (i := 18) rfl)), List.forall_mem_cons.mpr ⟨(k_tbl_4 _ (List.mem_of_getElem? (i := 163) rfl)), List.forall_mem_cons.mpr ⟨(k_tbl_6 _ (List.mem_of_getElem? (i := 64) rfl)), List.forall_mem_cons.mpr ⟨(k_tbl_6 _ (List.mem_of_getElem? (i := 65) rfl)), List.forall_mem_cons.mpr ⟨(k_tbl_6 _ (List.mem_of_getElem? (i := 66) rfl)), List.forall_mem_cons.mpr ⟨(k_tbl_6 _ (List.mem_of_getElem? (i := 67) rfl)), List.forall_mem_cons.mpr ⟨(k_tbl_4 _ (List.mem_of_getElem? (i := 166) rfl)), List.forall_mem_cons.mpr ⟨(k_tbl_4 _ (List.mem_of_getElem? (i := 167) rfl)), List.forall_mem_cons.mpr ⟨(k_tbl_4 _ (List.mem_of_getElem? (i := 168) rfl)), List.forall_mem_cons.mpr ⟨(k_tbl_4 _ (List.mem_of_getElem? (i := 169) rfl)), List.forall_mem_cons.mpr ⟨(k_tbl_4 _ (List.mem_of_getElem? (i := 170) rfl)), List.forall_mem_cons.mpr ⟨(k_tbl_1 _ (List.mem_of_getElem? (i := 189) rfl)), fun _ h => absurd h List.not_mem_nil⟩⟩⟩⟩⟩⟩⟩⟩⟩⟩⟩⟩⟩⟩⟩⟩⟩⟩⟩⟩⟩⟩⟩⟩
set_option maxRecDepth 20000 in
theorem lwi_wsL_law_r42 : ∀ w ∈ wsL_law_r42, w ∈ lw_tbl := List.forall_mem_cons.mpr ⟨(k_tbl_1 _ (List.mem_of_getElem? (i := 191) rfl)), List.forall_mem_cons.mpr ⟨(k_tbl_1 _ (List.mem_of_getElem? (i := 193) rfl)), List.forall_mem_cons.mpr ⟨(k_tbl_1 _ (List.mem_of_getElem? (i := 195) rfl)), List.forall_mem_cons.mpr ⟨(k_tbl_4 _ (List.mem_of_getElem? (i := 171) rfl)), List.forall_mem_cons.mpr ⟨(k_tbl_4 _ (List.mem_of_getElem? (i := 172) rfl)), List.forall_mem_cons.mpr ⟨(k_tbl_4 _ (List.mem_of_getElem? (i := 173) rfl)), List.forall_mem_cons.mpr ⟨(k_tbl_4 _ (List.mem_of_getElem? (i := 174) rfl)), List.forall_mem_cons.mpr ⟨(k_tbl_1 _ (List.mem_of_getElem? (i := 188) rfl)), List.forall_mem_cons.mpr ⟨(k_tbl_1 _ (List.mem_of_getElem? (i := 190) rfl)), List.forall_mem_cons.mpr ⟨(k_tbl_1 _ (List.mem_of_getElem? (i := 192) rfl)), List.forall_mem_cons.mpr ⟨(k_tbl_1 _ (List.mem_of_getElem? (i := 194) rfl)), List.forall_mem_cons.mpr ⟨(k_tbl_2 _ (List.mem_of_getElem? (i := 33) rfl)), List.forall_mem_cons.mpr ⟨(k_tbl_4 _ (List.mem_of_getElem? (i := 179) rfl)), List.forall_mem_cons.mpr ⟨(k_tbl_2 _ (List.mem_of_getElem? (i := 29) rfl)), List.forall_mem_cons.mpr ⟨(k_tbl_4 _ (List.mem_of_getElem? (i := 185) rfl)), List.forall_mem_cons.mpr ⟨(k_tbl_4 _ (List.mem_of_getElem? (i := 175) rfl)), List.forall_mem_cons.mpr ⟨(k_tbl_4 _ (List.mem_of_getElem? (i := 176) rfl)), List.forall_mem_cons.mpr ⟨(k_tbl_4 _ (List.mem_of_getElem? (i := 177) rfl)), List.forall_mem_cons.mpr ⟨(k_tbl_4 _ (List.mem_of_getElem? (i := 178) rfl)), List.forall_mem_cons.mpr ⟨(k_tbl_4 _ (List.mem_of_getElem? (i := 181) rfl)), List.forall_mem_cons.mpr ⟨(k_tbl_4 _ (List.mem_of_getElem? (i := 182) rfl)), List.forall_mem_cons.mpr ⟨(k_tbl_4 _ (List.mem_of_getElem? (i := 183) rfl)), List.forall_mem_cons.mpr ⟨(k_tbl_4 _ (List.mem_of_getElem? (i := 184) rfl)), List.forall_mem_cons.mpr ⟨(k_tbl_4 _ (List.mem_of_getElem? (i := 186) rfl)), fun _ h => absurd h List.not_mem_nil⟩⟩⟩⟩⟩⟩⟩⟩⟩⟩⟩⟩⟩⟩⟩⟩⟩⟩⟩⟩⟩⟩⟩⟩
set_option maxRecDepth 20000 in
theorem lwi_wsL_law_r43 : ∀ w ∈ wsL_law_r43, w ∈ lw_tbl := List.forall_mem_cons.mpr ⟨(k_tbl_4 _ (List.mem_of_getElem? (i := 188) rfl)), List.forall_mem_cons.mpr ⟨(List.mem_append_left _ (List.mem_of_getElem? (i := 32) rfl)), List.forall_mem_cons.mpr ⟨(k_tbl_4 _ (List.mem_of_getElem? (i := 189) rfl)), List.forall_mem_cons.mpr ⟨(k_tbl_6 _ (List.mem_of_getElem? (i := 68) rfl)), List.forall_mem_cons.mpr ⟨(k_tbl_6 _ (List.mem_of_getElem? (i := 69) rfl)), List.forall_mem_cons.mpr ⟨(k_tbl_6 _ (List.mem_of_getElem? (i := 70) rfl)), List.forall_mem_cons.mpr ⟨(k_tbl_6 _ (List.mem_of_getElem? (i := 71) rfl)), List.forall_mem_cons.mpr ⟨(k_tbl_6 _ (List.mem_of_getElem? (i := 72) rfl)), fun _ h => absurd h List.not_mem_nil⟩⟩⟩⟩⟩⟩⟩⟩
set_option maxRecDepth 20000 in
theorem lwi_wsX100 : ∀ w ∈ wsX100, w ∈ lw_tbl := fun w h => (goodIn_r wsX100 [416, 418, 420, 422, 424, 426, 428, 430, 432, 434, 436] (by decide +kernel) (by decide +kernel) w h).1
set_option maxRecDepth 20000 in
theorem lwi_wsX110 : ∀ w ∈ wsX110, w ∈ lw_tbl := fun w h => (goodIn_r wsX110 [1013, 1015, 1017, 1019, 1021, 1023, 1025, 1027, 1029, 1031, 1033, 1035, 1037, 1039, 1041, 1043, 1045, 1047, 1049, 1051, 1053, 1055, 1057, 1059, 1061, 1063, 1065, 1067, 1069, 1071, 1073, 1075, 1077] (by decide +kernel) (by decide +kernel) w h).1
set_option maxRecDepth 20000 in
theorem lwi_wsX80 : ∀ w ∈ wsX80, w ∈ lw_tbl := fun w h => (goodIn_r wsX80 [162, 164, 166] (by decide +kernel) (by decide +kernel) w h).1
set_option maxRecDepth 20000 in
theorem lwi_wsX20 : ∀ w ∈ wsX20, w ∈ lw_tbl := fun w h => (goodIn_r wsX20 [182, 184, 186] (by decide +kernel) (by decide +kernel) w h).1
set_option maxRecDepth 20000 in
theorem lwi_wsX50 : ∀ w ∈ wsX50, w ∈ lw_tbl := fun w h => (goodIn_r wsX50 [211, 213, 215, 217, 219, 221, 223, 225, 227] (by decide +kernel) (by decide +kernel) w h).1
set_option maxRecDepth 20000 in
theorem lwi_wsX30 : ∀ w ∈ wsX30, w ∈ lw_tbl := fun w h => (goodIn_r wsX30 [238, 240] (by decide +kernel) (by decide +kernel) w h).1
set_option maxRecDepth 20000 in
theorem lwi_wsX00 : ∀ w ∈ wsX00, w ∈ lw_tbl := fun w h => (goodIn_r wsX00 [257, 259, 261, 263] (by decide +kernel) (by decide +kernel) w h).1
set_option maxRecDepth 20000 in
theorem lwi_wsX60 : ∀ w ∈ wsX60, w ∈ lw_tbl := fun w h => (goodIn_r wsX60 [274, 276] (by decide +kernel) (by decide +kernel) w h).1
set_option maxRecDepth 20000 in
theorem lwi_wsX10 : ∀ w ∈ wsX10, w ∈ lw_tbl := fun w h => (goodIn_r wsX10 [301, 303, 305, 307, 309, 311, 313] (by decide +kernel) (by decide +kernel) w h).1
set_option maxRecDepth 20000 in
theorem lwi_wsX90 : ∀ w ∈ wsX90, w ∈ lw_tbl := fun w h => (goodIn_r wsX90 [340, 342, 344, 346, 348, 350, 352, 354, 356] (by decide +kernel) (by decide +kernel) w h).1
set_option maxRecDepth 20000 in
theorem lwi_wsX70 : ∀ w ∈ wsX70, w ∈ lw_tbl := fun w h => (goodIn_r wsX70 [384, 386, 388, 390, 392, 394, 396, 398, 400, 402] (by decide +kernel) (by decide +kernel) w h).1
set_option maxRecDepth 20000 in
theorem lwi_wsX40 : ∀ w ∈ wsX40, w ∈ lw_tbl := fun w h => (goodIn_r wsX40 [133, 135, 137, 139, 141, 143, 145, 147] (by decide +kernel) (by decide +kernel) w h).1
set_option maxRecDepth 20000 in
theorem wsL_law_in : ∀ w ∈ wsL_law, w ∈ lw_tbl := fun w h => (List.mem_append.mp h).elim (fun h => (List.mem_append.mp h).elim (fun h => (List.mem_append.mp h).elim (fun h => (List.mem_append.mp h).elim (fun h => (List.mem_append.mp h).elim (fun h => (List.mem_append.mp h).elim (fun h => (List.mem_append.mp h).elim (fun h => (List.mem_append.mp h).elim (fun h => (List.mem_append.mp h).elim (fun h => (List.mem_append.mp h).elim (fun h => (List.mem_append.mp h).elim (fun h => (List.mem_append.mp h).elim (fun h => (List.mem_append.mp h).elim (fun h => (List.mem_append.mp h).elim (lwi_wsL_law_r1 w) (fun h => (List.mem_append.mp h).elim (lwi_wsL_law_r2 w) (fun h => (List.mem_append.mp h).elim (lwi_wsL_law_r3 w) (fun h => (List.mem_append.mp h).elim (lwi_wsL_law_r4 w) (fun h => (List.mem_append.mp h).elim (lwi_wsL_law_r5 w) (fun h => (List.mem_append.mp h).elim (lwi_wsL_law_r6 w) (fun h => (List.mem_append.mp h).elim (lwi_wsL_law_r7 w) (fun h => (List.mem_append.mp h).elim (lwi_wsL_law_r8 w) (fun h => (List.mem_append.mp h).elim (lwi_wsL_law_r9 w) (fun h => (List.mem_append.mp h).elim (lwi_wsL_law_r10 w) (fun h => (List.mem_append.mp h).elim (lwi_wsL_law_r11 w) (fun h => (List.mem_append.mp h).elim (lwi_wsL_law_r12 w) (fun h => (List.mem_append.mp h).elim (lwi_wsL_law_r13 w) (fun h => (List.mem_append.mp h).elim (lwi_wsL_law_r14 w) (fun h => (List.mem_append.mp h).elim (lwi_wsL_law_r15 w) (fun h => (List.mem_append.mp h).elim (lwi_wsL_law_r16 w) (fun h => (List.mem_append.mp h).elim (lwi_wsL_law_r17 w) (fun h => (List.mem_append.mp h).elim (lwi_wsL_law_r18 w) (fun h => (List.mem_append.mp h).elim (lwi_wsL_law_r19 w) (fun h => (List.mem_append.mp h).elim (lwi_wsL_law_r20 w) (fun h => (List.mem_append.mp h).elim (lwi_wsL_law_r21 w) (fun h => (List.mem_append.mp h).elim (lwi_wsL_law_r22 w) (fun h => (List.mem_append.mp h).elim (lwi_wsL_law_r23 w) (fun h => (List.mem_append.mp h).elim (lwi_wsL_law_r24 w) (fun h => (List.mem_append.mp h).elim (lwi_wsL_law_r25 w) (fun h => (List.mem_append.mp h).elim (lwi_wsL_law_r26 w) (fun h => (List.mem_append.mp h).elim (lwi_wsL_law_r27 w) (fun h => (List.mem_append.mp h).elim (lwi_wsL_law_r28 w) (fun h => (List.mem_append.mp h).elim (lwi_wsL_law_r29 w) (fun h => (List.mem_append.mp h).elim (lwi_wsL_law_r30 w) (fun h => (List.mem_append.mp h).elim (lwi_wsL_law_r31 w) (fun h => (List.mem_append.mp h).elim (lwi_wsL_law_r32 w) (fun h => (List.mem_append.mp h).elim (lwi_wsL_law_r33 w) (fun h => (List.mem_append.mp h).elim (lwi_wsL_law_r34 w) (fun h => (List.mem_append.mp h).elim (lwi_wsL_law_r35 w) (fun h => (List.mem_append.mp h).elim (lwi_wsL_law_r36 w) (fun h => (List.mem_append.mp h).elim (lwi_wsL_law_r37 w) (fun h => (List.mem_append.mp h).elim (lwi_wsL_law_r38 w) (fun h => (List.mem_append.mp h).elim (lwi_wsL_law_r39 w) (fun h => (List.mem_append.mp h).elim (lwi_wsL_law_r40 w) (fun h => (List.mem_append.mp h).elim (lwi_wsL_law_r41 w) (fun h => (List.mem_append.mp h).elim (lwi_wsL_law_r42 w) (fun h => lwi_wsL_law_r43 w h))))))))))))))))))))))))))))))))))))))))))) (lwi_wsX100 w)) (lwi_wsX110 w)) (lwi_wsX80 w)) (lwi_wsX20 w)) (lwi_wsX50 w)) (lwi_wsX30 w)) (lwi_wsX00 w)) (lwi_wsX60 w)) (lwi_wsX10 w)) (lwi_wsX90 w)) (lwi_wsX70 w)) (lwi_wsX40 w)) (fun h => absurd h List.not_mem_nil)
theorem inlX0 : ∀ w ∈ wsX00, w ∈ wsL_law := fun _ h => List.mem_append_left _ (List.mem_append_left _ (List.mem_append_left _ (List.mem_append_left _ (List.mem_append_left _ (List.mem_append_left _ (List.mem_append_right _ h))))))
theorem inX0 : ∀ w ∈ wsX00, w ∈ lw_tbl := fun w h => wsL_law_in w (inlX0 w h)
theorem inlX1 : ∀ w ∈ wsX10, w ∈ wsL_law := fun _ h => List.mem_append_left _ (List.mem_append_left _ (List.mem_append_left _ (List.mem_append_left _ (List.mem_append_right _ h))))
theorem inX1 : ∀ w ∈ wsX10, w ∈ lw_tbl := fun w h => wsL_law_in w (inlX1 w h)
theorem inlX2 : ∀ w ∈ wsX20, w ∈ wsL_law := fun _ h => List.mem_append_left _ (List.mem_append_left _ (List.mem_append_left _ (List.mem_append_left _ (List.mem_append_left _ (List.mem_append_left _ (List.mem_append_left _ (List.mem_append_left _ (List.mem_append_left _ (List.mem_append_right _ h)))))))))
theorem inX2 : ∀ w ∈ wsX20, w ∈ lw_tbl := fun w h => wsL_law_in w (inlX2 w h)
theorem inlX3 : ∀ w ∈ wsX30, w ∈ wsL_law := fun _ h => List.mem_append_left _ (List.mem_append_left _ (List.mem_append_left _ (List.mem_append_left _ (List.mem_append_left _ (List.mem_append_left _ (List.mem_append_left _ (List.mem_append_right _ h)))))))
theorem inX3 : ∀ w ∈ wsX30, w ∈ lw_tbl := fun w h => wsL_law_in w (inlX3 w h)
theorem inlX4 : ∀ w ∈ wsX40, w ∈ wsL_law := fun _ h => List.mem_append_left _ (List.mem_append_right _ h)
theorem inX4 : ∀ w ∈ wsX40, w ∈ lw_tbl := fun w h => wsL_law_in w (inlX4 w h)
theorem inlX5 : ∀ w ∈ wsX50, w ∈ wsL_law := fun _ h => List.mem_append_left _ (List.mem_append_left _ (List.mem_append_left _ (List.mem_append_left _ (List.mem_append_left _ (List.mem_append_left _ (List.mem_append_left _ (List.mem_append_left _ (List.mem_append_right _ h))))))))
theorem inX5 : ∀ w ∈ wsX50, w ∈ lw_tbl := fun w h => wsL_law_in w (inlX5 w h)
theorem inlX6 : ∀ w ∈ wsX60, w ∈ wsL_law := fun _ h => List.mem_append_left _ (List.mem_append_left _ (List.mem_append_left _ (List.mem_append_left _ (List.mem_append_left _ (List.mem_append_right _ h)))))
theorem inX6 : ∀ w ∈ wsX60, w ∈ lw_tbl := fun w h => wsL_law_in w (inlX6 w h)
theorem inlX7 : ∀ w ∈ wsX70, w ∈ wsL_law := fun _ h => List.mem_append_left _ (List.mem_append_left _ (List.mem_append_right _ h))
theorem inX7 : ∀ w ∈ wsX70, w ∈ lw_tbl := fun w h => wsL_law_in w (inlX7 w h)
theorem inlX8 : ∀ w ∈ wsX80, w ∈ wsL_law := fun _ h => List.mem_append_left _ (List.mem_append_left _ (List.mem_append_left _ (List.mem_append_left _ (List.mem_append_left _ (List.mem_append_left _ (List.mem_append_left _ (List.mem_append_left _ (List.mem_append_left _ (List.mem_append_left _ (List.mem_append_right _ h))))))))))
theorem inX8 : ∀ w ∈ wsX80, w ∈ lw_tbl := fun w h => wsL_law_in w (inlX8 w h)
theorem inlX9 : ∀ w ∈ wsX90, w ∈ wsL_law := fun _ h => List.mem_append_left _ (List.mem_append_left _ (List.mem_append_left _ (List.mem_append_right _ h)))
theorem inX9 : ∀ w ∈ wsX90, w ∈ lw_tbl := fun w h => wsL_law_in w (inlX9 w h)
theorem inlX10 : ∀ w ∈ wsX100, w ∈ wsL_law := fun _ h => List.mem_append_left _ (List.mem_append_left _ (List.mem_append_left _ (List.mem_append_left _ (List.mem_append_left _ (List.mem_append_left _ (List.mem_append_left _ (List.mem_append_left _ (List.mem_append_left _ (List.mem_append_left _ (List.mem_append_left _ (List.mem_append_left _ (List.mem_append_right _ h))))))))))))
theorem inX10 : ∀ w ∈ wsX100, w ∈ lw_tbl := fun w h => wsL_law_in w (inlX10 w h)
theorem inlX11 : ∀ w ∈ wsX110, w ∈ wsL_law := fun _ h => List.mem_append_left _ (List.mem_append_left _ (List.mem_append_left _ (List.mem_append_left _ (List.mem_append_left _ (List.mem_append_left _ (List.mem_append_left _ (List.mem_append_left _ (List.mem_append_left _ (List.mem_append_left _ (List.mem_append_left _ (List.mem_append_right _ h)))))))))))
theorem inX11 : ∀ w ∈ wsX110, w ∈ lw_tbl := fun w h => wsL_law_in w (inlX11 w h)
theorem inJ9 : ∀ w ∈ wsJ90, w ∈ lw_tbl := by decide +kernel
theorem inJ0 : ∀ w ∈ wsJ00, w ∈ lw_tbl := by decide +kernel
theorem inJ1 : ∀ w ∈ wsJ10, w ∈ lw_tbl := by decide +kernel
theorem inJ2 : ∀ w ∈ wsJ20, w ∈ lw_tbl := by decide +kernel
theorem inJ10 : ∀ w ∈ wsJ100, w ∈ lw_tbl := by decide +kernel
theorem inJ3 : ∀ w ∈ wsJ30, w ∈ lw_tbl := by decide +kernel
end
section
/-! what the Statement gives at the start: classes, arrays, nest mates, texts, tables -/
theorem ft_nestIn : ∀ w ∈ ftNest, w ∈ lw_tbl := by decide +kernel
def ftTm9 (i : Nat) : Term := .string RX5 (ftNi.getD i 0)
abbrev ftGv : List Cond := flatC (Jvm.Cond.and given_1 narrow_1)
theorem ft_gv1 : ∀ i, i < 6 → Cond.exactly (ftTm9 i) "java/lang/String" ∈ ftGv := by decide +kernel
theorem ft_gv2 : ∀ i, i < 6 → Cond.eq (.field (ftTm9 i) "java/lang/String" "coder" "B") (.int 0) ∈ ftGv := by decide +kernel
theorem ft_gv3 : ∀ i, i < 6 → Cond.arrayOf (.field (ftTm9 i) "java/lang/String" "value" "[B") .byte ∈ ftGv := by decide +kernel
theorem ft_gv4 : ∀ i, i < 6 → Cond.eq (.length (.field (ftTm9 i) "java/lang/String" "value" "[B")) (.int (Int32.ofNat (ftLe.getD i 0))) ∈ ftGv := by decide +kernel
theorem ft_gv5 : ∀ i, i < 6 → ∀ j, j < ftLe.getD i 0 → Cond.eq (.elem (.field (ftTm9 i) "java/lang/String" "value" "[B") (.int (Int32.ofNat j))) (.int ((ftBy.getD i []).getD j 0)) ∈ ftGv := by decide +kernel
theorem ft_gv6 : ∀ i, i < 6 → ∀ j, j < 6 → i ≠ j → Cond.not (Cond.eq (ftTm9 i) (ftTm9 j)) ∈ ftGv ∨ Cond.not (Cond.eq (ftTm9 j) (ftTm9 i)) ∈ ftGv := by decide +kernel
theorem ft_gv7 : ∀ i, i < 6 → Cond.stringRef RX5 (ftNi.getD i 0) (ftNt.getD i "") ∈ lw_tbl := by decide +kernel
abbrev ftTs9 (k : Nat) : Term := .static "FiberTrace" (ftTn9.getD k "") "[I"
theorem ft_gv8 : ∀ k, k < 3 → Cond.arrayOf (ftTs9 k) .int ∈ ftGv ∧ Cond.eq (.length (ftTs9 k)) (.int (Int32.ofNat 11)) ∈ ftGv ∧ Cond.laysStatic "FiberTrace" (ftTn9.getD k "") "[I" ∈ lw_tbl ∧ ∀ j, j < 11 → Cond.eq (.elem (ftTs9 k) (.int (Int32.ofNat j))) (.int (ftTb k j)) ∈ ftGv := by decide +kernel
theorem ft_gv9 : Cond.eq (.static "java/lang/String" "COMPACT_STRINGS" "Z") (.int 1) ∈ ftGv ∧ Cond.isRef (.static "jdk/internal/util/Preconditions" "SIOOBE_FORMATTER" "Ljava/util/function/BiFunction;") ∈ ftGv := by decide +kernel
theorem ft_gva : Cond.laysStatic "java/lang/String" "COMPACT_STRINGS" "Z" ∈ lw_tbl ∧ Cond.initialized "java/lang/String" ∈ lw_tbl ∧ Cond.laysStatic "jdk/internal/util/Preconditions" "SIOOBE_FORMATTER" "Ljava/util/function/BiFunction;" ∈ lw_tbl ∧ Cond.initialized "jdk/internal/util/Preconditions" ∈ lw_tbl ∧ Cond.initialized "FiberTrace" ∈ lw_tbl ∧ Cond.fieldLinkNest RX8 22 "FiberTrace" "FIRST_VALUES" "[I" "FiberTrace" ∈ lw_tbl ∧ Cond.arrayOver (.object RX8) ∈ lw_tbl ∧ Cond.arrayClass .int ∈ lw_tbl := by decide +kernel
theorem ft_classes {s : State} {args : Array Value} (hts : ∀ w ∈ lw_tbl, w.before args s = true) : ∃ (dC : Nat → ClassId) (dI : Nat → Nat → Nat), ∀ (k : Nat) (q : vw_C), vwCl[k]? = some q → u_Kn s q.1 q.2.1 q.2.2 (dC k) (dI k) := by
  obtain ⟨c0, i0, h0⟩ := u_known (C := RX0) (T := TX0) (N := 4) (n := 4) hts inX0 (hts (.instantiable RX0 4) (by decide +kernel))
  obtain ⟨c1, i1, h1⟩ := u_known (C := RX1) (T := TX1) (N := 7) (n := 7) hts inX1 (hts (.instantiable RX1 7) (by decide +kernel))
  obtain ⟨c2, i2, h2⟩ := u_known (C := RX2) (T := TX2) (N := 3) (n := 3) hts inX2 (hts (.instantiable RX2 3) (by decide +kernel))
  obtain ⟨c3, i3, h3⟩ := u_known (C := RX3) (T := TX3) (N := 2) (n := 2) hts inX3 (hts (.instantiable RX3 2) (by decide +kernel))
  obtain ⟨c4, i4, h4⟩ := u_known (C := RX4) (T := TX4) (N := 8) (n := 8) hts inX4 (hts (.instantiable RX4 8) (by decide +kernel))
  obtain ⟨c5, i5, h5⟩ := u_known (C := RX5) (T := TX5) (N := 9) (n := 9) hts inX5 (hts (.instantiable RX5 9) (by decide +kernel))
  obtain ⟨c6, i6, h6⟩ := u_known (C := RX6) (T := TX6) (N := 2) (n := 2) hts inX6 (hts (.instantiable RX6 2) (by decide +kernel))
  obtain ⟨c7, i7, h7⟩ := u_known (C := RX7) (T := TX7) (N := 10) (n := 10) hts inX7 (hts (.instantiable RX7 10) (by decide +kernel))
  obtain ⟨c8, i8, h8⟩ := u_known (C := RX8) (T := TX8) (N := 3) (n := 3) hts inX8 (hts (.instantiable RX8 3) (by decide +kernel))
  obtain ⟨c9, i9, h9⟩ := u_known (C := RX9) (T := TX9) (N := 9) (n := 9) hts inX9 (hts (.instantiable RX9 9) (by decide +kernel))
  obtain ⟨c10, i10, h10⟩ := u_known (C := RX10) (T := TX10) (N := 11) (n := 11) hts inX10 (hts (.instantiable RX10 11) (by decide +kernel))
  obtain ⟨c11, i11, h11⟩ := u_known (C := RX11) (T := TX11) (N := 33) (n := 33) hts inX11 (hts (.instantiable RX11 33) (by decide +kernel))
  refine ⟨fun k => match k with | 0 => c0 | 1 => c1 | 2 => c2 | 3 => c3 | 4 => c4 | 5 => c5 | 6 => c6 | 7 => c7 | 8 => c8 | 9 => c9 | 10 => c10 | _ => c11, fun k => match k with | 0 => i0 | 1 => i1 | 2 => i2 | 3 => i3 | 4 => i4 | 5 => i5 | 6 => i6 | 7 => i7 | 8 => i8 | 9 => i9 | 10 => i10 | _ => i11, ?_⟩
  intro k q hq
  match k, hq with
  | 0, hq => cases hq; exact h0
  | 1, hq => cases hq; exact h1
  | 2, hq => cases hq; exact h2
  | 3, hq => cases hq; exact h3
  | 4, hq => cases hq; exact h4
  | 5, hq => cases hq; exact h5
  | 6, hq => cases hq; exact h6
  | 7, hq => cases hq; exact h7
  | 8, hq => cases hq; exact h8
  | 9, hq => cases hq; exact h9
  | 10, hq => cases hq; exact h10
  | 11, hq => cases hq; exact h11
  | k + 12, hq => cases hq
theorem ft_start {s : State} {args : Array Value} (hts : ∀ w ∈ lw_tbl, w.before args s = true) (hgv : (Jvm.Cond.and given_1 narrow_1).before args s = true) : ∃ (D : va_G) (cI cS : ClassId) (sK sV : Nat → Nat), ftK D cI cS s ∧ ftSt sK sV (fun q => s.heap.size ≤ q) s s.heap ∧ ftAO s := by
  have hs : ∀ w ∈ ftGv, w.before args s = true := flat_of_before _ hgv
  have hA : ∀ a : Nat, a < s.heap.size → ¬ s.heap.size ≤ a := fun a h => Nat.not_le.mpr h
  obtain ⟨dC, dI, hcl⟩ := ft_classes hts
  obtain ⟨g1, g2, g3, g4, g5, g8, g6, g7⟩ := ft_gva
  have hAO : va_AO RX8 s := va_AO.of (hts _ g6)
  obtain ⟨cI, kI, comp, q1, q2, q3⟩ := Cond.arrayClass_spec (hts _ g7)
  obtain ⟨comp2, cS, kS, r1, r2, r3, r4, r5⟩ := Cond.arrayOver_spec hAO
  have hKI : ArrOfT s cI .int ∧ va_RA s cI .int := ⟨fun n z => ⟨(fun k h => by cases h), kI, q2, comp, q3⟩, q1⟩
  have hKS : ArrOfT s cS (.object "FiberTrace$State") ∧ va_RA s cS (.object "FiberTrace$State") := ⟨fun n z => ⟨(fun k h => by cases h), kS, r3, comp2, r4⟩, kS, comp2, r3, r4, r1, r5⟩
  obtain ⟨adK, adV, hStr, hev⟩ := vk_Sof (A := fun q => s.heap.size ≤ q) (N := 6) (tm := ftTm9) (len := ftLe) (byt := ftBy) (fun i hi => by
      match i, hi with
      | 0, _ => decide
      | 1, _ => decide
      | 2, _ => decide
      | 3, _ => decide
      | 4, _ => decide
      | 5, _ => decide
      | i + 6, h => exact absurd h (by omega)) (fun i hi => hs _ (ft_gv1 i hi)) (fun i hi => hs _ (ft_gv2 i hi)) (fun i hi => hs _ (ft_gv3 i hi)) (fun i hi => hs _ (ft_gv4 i hi)) (fun i hi j hj => hs _ (ft_gv5 i hi j hj)) (fun i j hi hj hij => (ft_gv6 i hi j hj hij).imp (hs _) (hs _)) hA
  have hT : ∀ k, ∃ t : Nat, k < 3 → (ftTs9 k).eval args s none [] s = some (.ref t) ∧ va_T .int t 11 (fun j => .int (ftTb k j)) (fun q => s.heap.size ≤ q) s s.heap := by
    intro k
    by_cases hk : k < 3
    · obtain ⟨e1, e2, -, e4⟩ := ft_gv8 k hk
      obtain ⟨t, ht, hT⟩ := va_Tof (f := fun j => .int (ftTb k j)) (A := fun q => s.heap.size ≤ q) (by decide) (hs _ e1) (va_eqt (hs _ e2)) (fun j hj => va_eqt (hs _ (e4 j hj))) hA
      exact ⟨t, fun _ => ⟨ht, hT⟩⟩
    · exact ⟨0, fun h => absurd h hk⟩
  obtain ⟨tt, htt⟩ := Classical.axiomOfChoice hT
  have e0 : ∀ i, i < 6 → (if i < 6 then adV i else tt (i - 6)) = adV i := fun i hi => if_pos hi
  have e6 : ∀ k, (if 6 + k < 6 then adV (6 + k) else tt (6 + k - 6)) = tt k := fun k => by rw [if_neg (by omega), show 6 + k - 6 = k by omega]
  refine ⟨(dC, dI), cI, cS, adK, fun i => if i < 6 then adV i else tt (i - 6), ⟨⟨hcl, fun k q hq => ?_⟩, fun w hw => va_tabs (ftNest_on w hw) rfl (hts w (ft_nestIn w hw))⟩, ⟨⟨fun i hi => ?_, hStr.2⟩, va_Zof (hts _ g1) (hts _ g2) (va_eqt (hs _ ft_gv9.1)) hA, va_Zqof (hts _ g3) (hts _ g4) (hs _ ft_gv9.2) hA, fun i hi => vk_R.of (hts _ (ft_gv7 i hi)) (hev i hi), fun k hk => ?_, fun k hk => ?_⟩, hAO, va_Nw.of rfl (hts _ g8)⟩
  · match k, hq with
    | 0, hq => cases hq; exact hKI
    | 1, hq => cases hq; exact hKS
    | k + 2, hq => cases hq
  · show va_O "java/lang/String" (adK i) _ s s.heap ∧ va_OF "java/lang/String" "coder" "B" (.int 0) (adK i) _ s s.heap ∧ va_OF "java/lang/String" "value" "[B" (.ref (if i < 6 then adV i else tt (i - 6))) (adK i) _ s s.heap ∧ va_T .byte (if i < 6 then adV i else tt (i - 6)) _ _ _ s s.heap
    rw [e0 i hi]
    exact hStr.1 i hi
  · show va_T .int (if 6 + k < 6 then adV (6 + k) else tt (6 + k - 6)) 11 _ _ s s.heap
    rw [e6 k]
    exact (htt k hk).2
  · show va_Z "FiberTrace" (ftTn9.getD k "") "[I" (.ref (if 6 + k < 6 then adV (6 + k) else tt (6 + k - 6))) _ s s.heap
    rw [e6 k]
    exact va_Zref (hts _ (ft_gv8 k hk).2.2.1) (hts _ g5) (htt k hk).1 hA
end
section
/-! THE CLAIM OUT OF ONE WALK OF THE LAW'S BODY. Your part is whole_start (and what it stands on); all else here is the same for every law, but numbers. -/
def R_law : String := "FiberTraceLaw"
def lw_P (b : Addr) (xs : List Int32) (args : Array Value) (s : State) : Prop := args = #[.ref b] ∧ s.IntsAt b xs ∧ xs.length ≤ 2560 ∧ (Jvm.Cond.and given_1 narrow_1).before args s = true
def lw_Q (_ : Array Value) (s : State) (o : Outcome) (t : State) : Prop := o = .returned (some (.int 1)) ∧ Framed s o t [] 600000 7302250
def lw_Z (below : List Frame) (a : Array Value) (s : State) : State → Prop := fun t => ∃ o, t.status = .running ∧ Ended t below o ∧ lw_Q a s o t
/-- the law's own end, with 1 on the stack, nothing written that was there before, its room as the claim has it -/
theorem lw_ret {p : Program} {l : Launch} {e : Env} {s : State} {m : MethodId} {below : List Frame} {meth : Method} {c : Code} {b : Nat} (hx : p.tables.exec = Jvm.exec) (hb : c.code = code) (hr : meth.sig.returnType = ret) (hlocks : meth.locks = false) {pc : Nat} {H : Heap} {ls : Array Slot} (hdg : decode code pc = .ok (.ireturn, 1)) : W p l e room_1 s m #[Value.ref b] below meth c H [] 600000 7302250 (lw_Z below #[Value.ref b] s) (F0 m pc ls [.int 1]) := by
  intro T hT X
  obtain ⟨fs, hret, hrun, hended, hW, hframe⟩ := X.leave (v := some (.int 1)) (hlocks := hlocks) (fun h => by rw [hr] at h; cases h)
  have hmeth' : T.vm.method? m = some meth := X.method'
  refine ⟨T.setFrames fs, ?_, .returned (some (.int 1)), hrun, hended, rfl, ⟨_, rfl⟩, hW, hframe⟩
  jvm_step X.here [X.here.top, hx, hb, hdg, hmeth', hr, ret, narrow_b1]
  (try refine ⟨rfl, ?_⟩); (try refine ⟨rfl, ?_⟩)
  first | (intro acts; rw [hret _ acts rfl rfl rfl]) | rw [hret _ _ rfl rfl rfl]
  exact Steps.refl _
/-- what holds at the law's entry: the machine, the code, the tables' words (any of lw_tbl by 'hts w (by decide +kernel)'), the script of L ints xs at the cell b, what the Statement gives of the start (any of its parts by flat_of_before) -/
def lw_At (p : Program) (s : State) (m : MethodId) (meth : Method) (c : Code) (b L : Nat) (xs : Nat → Int32) : Prop :=
  p.tables.exec = Jvm.exec ∧ c.code = code ∧ meth.sig.returnType = ret ∧ c.maxLocals = 4 ∧ s.vm.findClass R_law = some m.cls ∧ (∀ w ∈ lw_tbl, w.before #[Value.ref b] s = true) ∧ va_X b L xs s s.heap ∧ b < s.heap.size ∧ meth.locks = false ∧ (Jvm.Cond.and given_1 narrow_1).before #[Value.ref b] s = true
end
section
/-! the law: calls over a world of two blocks -/
section FTLAW
variable {p : Program} {l : Launch} {e : Env} {R : Room} {s : State} {m : MethodId} {args : Array Value} {below : List Frame} {meth : Method} {c : Code} {H : Heap} {locs : List Loc} {cells slots : Nat} {Q : State → Prop}
variable {pc : Nat} {ls : Array Slot} {st0 rest : List Value} {D : va_G} {A : Nat → Prop} {X Y : va_W} {H0 : Heap} {S : Type} {post : Int32 → S → Prop} {X1 : S → va_W} {a : Array Value}
theorem ft_callL (hr : va_Run p l e R s m args below meth c H locs cells slots 0 0 (F0 m pc ls st0) rest (ftXi D X H.size post X1 a) (va_A X H.size)) (hP : va_P D vwCl (X ++ Y) H) (hD : va_D A (X ++ Y)) (hS : va_S A H0 H locs) (hA : ∀ q, H0.size ≤ q → A q)
    (kk : ∀ (r : Int32) (u : S), post r u → ∀ (H1 : Heap) (locs1 : List Loc), va_P D vwCl (X1 u ++ Y) H1 → va_D A (X1 u ++ Y) → va_S A H0 H1 locs1 → W p l e R s m args below meth c H1 locs1 cells slots Q (F0 m (pc + 3) ls (.int r :: rest))) : W p l e R s m args below meth c H locs cells slots Q (F0 m pc ls st0) := by
  have hFc := va_free (wc := X) hD hS hA (List.range' 0 X.length) (ft_mL X Y)
  refine va_calli hr hS (fun q _ h => hFc q h) hFc (fun r u t H1 locs1 ht hvm hw hB hz1 hk1 hS1 => ?_)
  obtain ⟨hP1, hD1⟩ := hB
  rw [ht] at hP1
  obtain ⟨hP2, hD2⟩ := va_join (wr := Y) (w1 := X1 u) hP hD (List.range' 0 X.length) (List.range' X.length Y.length) (ft_mL X Y) (ft_mR X Y) (ft_ndr _ _) (ft_dLR X Y) hk1 hFc hP1 hD1
  exact kk r u hw H1 locs1 (ft_PS hP2) (ft_DS hD2) hS1
theorem ft_callR (hr : va_Run p l e R s m args below meth c H locs cells slots 0 0 (F0 m pc ls st0) rest (ftXi D Y H.size post X1 a) (va_A Y H.size)) (hP : va_P D vwCl (X ++ Y) H) (hD : va_D A (X ++ Y)) (hS : va_S A H0 H locs) (hA : ∀ q, H0.size ≤ q → A q)
    (kk : ∀ (r : Int32) (u : S), post r u → ∀ (H1 : Heap) (locs1 : List Loc), va_P D vwCl (X ++ X1 u) H1 → va_D A (X ++ X1 u) → va_S A H0 H1 locs1 → W p l e R s m args below meth c H1 locs1 cells slots Q (F0 m (pc + 3) ls (.int r :: rest))) : W p l e R s m args below meth c H locs cells slots Q (F0 m pc ls st0) := by
  have hFc := va_free (wc := Y) hD hS hA (List.range' X.length Y.length) (ft_mR X Y)
  refine va_calli hr hS (fun q _ h => hFc q h) hFc (fun r u t H1 locs1 ht hvm hw hB hz1 hk1 hS1 => ?_)
  obtain ⟨hP1, hD1⟩ := hB
  rw [ht] at hP1
  obtain ⟨hP2, hD2⟩ := va_join (wr := X) (w1 := X1 u) hP hD (List.range' X.length Y.length) (List.range' 0 X.length) (ft_mR X Y) (ft_mL X Y) (ft_ndr _ _) (ft_dRL X Y) hk1 hFc hP1 hD1
  exact kk r u hw H1 locs1 hP2 hD2 hS1
end FTLAW
section FTLPRE
variable {D : va_G} {cI cS : ClassId} {sK sV : Nat → Nat} {As : List Value} {X Y : va_W} {s : State} {H : Heap} {A : Nat → Prop} {locs : List Loc} {a ci : Nat} {q : vw_C} {fs : List Value}
theorem ft_preL (hP : va_P D vwCl (X ++ Y) H) (hD : va_D A (X ++ Y)) (hK : ftK D cI cS s) (hSt : ftSt sK sV A s s.heap) (hS : va_S A s.heap H locs) (hA : ∀ q, s.heap.size ≤ q → A q) (hc : vwCl[ci]? = some q) (he : X[0]? = some (a, .inr (ci, fs))) : PreV s H q.1 a (ftRWS D cI cS sK sV (.ref a :: As) X H.size) As :=
  ⟨ft_blindRWS, va_recv hK.1 hP hc (ft_gL he), fun U hU hW => ⟨rfl, by rw [hU], by rw [hU]; exact ft_PL hP, hK.warm hW, (ft_DL hD).weaken (fun _ _ _ _ => trivial), hSt.go hS (va_free hD hS hA (List.range' 0 X.length) (ft_mL X Y)) hU hW⟩⟩
theorem ft_preR (hP : va_P D vwCl (X ++ Y) H) (hD : va_D A (X ++ Y)) (hK : ftK D cI cS s) (hSt : ftSt sK sV A s s.heap) (hS : va_S A s.heap H locs) (hA : ∀ q, s.heap.size ≤ q → A q) (hc : vwCl[ci]? = some q) (he : Y[0]? = some (a, .inr (ci, fs))) : PreV s H q.1 a (ftRWS D cI cS sK sV (.ref a :: As) Y H.size) As :=
  ⟨ft_blindRWS, va_recv hK.1 hP hc (ft_gR he), fun U hU hW => ⟨rfl, by rw [hU], by rw [hU]; exact ft_PR hP, hK.warm hW, (ft_DR hD).weaken (fun _ _ _ _ => trivial), hSt.go hS (va_free hD hS hA (List.range' X.length Y.length) (ft_mR X Y)) hU hW⟩⟩
end FTLPRE
theorem ft_gt5 {i L : Nat} (hi : i < 2 ^ 31) (hL : L < 2 ^ 31) : Int32.ofNat L - 5 < nI i ↔ L < i + 5 := by
  by_cases h : 5 ≤ L
  · rw [show Int32.ofNat L - 5 = nI (L - 5) from ft_subN (a := L) (b := 5) h, nI_ltI (by omega) hi]
    omega
  · have h0 : Int32.ofNat L - 5 < 0 := by
      match L, h with
      | 0, _ => decide
      | 1, _ => decide
      | 2, _ => decide
      | 3, _ => decide
      | 4, _ => decide
      | L + 5, h => exact absurd (by omega) h
    exact ⟨fun _ => by omega, fun _ => Int32.lt_of_lt_of_le h0 (nI_le (a := 0) (b := i) (Nat.zero_le i) hi)⟩
/-- what stays the same in the law -/
def lw_Cx (p : Program) (s : State) (m : MethodId) (meth : Method) (c : Code) (b L : Nat) (xs : Nat → Int32) (D : va_G) (cI cS : ClassId) (sK sV : Nat → Nat) : Prop :=
  lw_At p s m meth c b L xs ∧ ftK D cI cS s ∧ ftSt sK sV (fun q => s.heap.size ≤ q) s s.heap ∧ L < 2 ^ 30
abbrev ftLW (l : Launch) (p : Program) (e : Env) (s : State) (m : MethodId) (below : List Frame) (meth : Method) (c : Code) (b : Nat) (H : Heap) (locs : List Loc) (g : JFrame) : Prop := W p l e room_1 s m #[Value.ref b] below meth c H locs 600000 7302250 (lw_Z below #[Value.ref b] s) g
abbrev ftLs (ls : Array Slot) (b o0 m0 i : Nat) : Prop := lv_has ls 4 [(0, .ref b), (1, .ref o0), (2, .ref m0), (3, .int (nI i))]
/-- at the loop's head, the script read: the law ends with true -/
theorem lw_exit {l : Launch} {p : Program} {e : Env} {s : State} {m : MethodId} {below : List Frame} {meth : Method} {c : Code} {b L : Nat} {xs : Nat → Int32} {D : va_G} {cI cS : ClassId} {sK sV : Nat → Nat} (C0 : lw_Cx p s m meth c b L xs D cI cS sK sV) {o0 m0 i : Nat} (hi : i < 2 ^ 30) (hLi : L < i + 5) {H : Heap} {locs : List Loc} (hS : va_S (fun q => s.heap.size ≤ q) s.heap H locs) {ls : Array Slot} (hl : ftLs ls b o0 m0 i) : ftLW l p e s m below meth c b H locs (F0 m 18 ls []) := by
  obtain ⟨⟨hx, hb, hr, hml, hown, hts, hX, hbl, hlocks, hgv⟩, -, -, hL30⟩ := C0
  have hbA : ¬ (fun q : Nat => s.heap.size ≤ q) b := Nat.not_le.mpr hbl
  refine lv_iload_n hx hb dL_law_18 rfl (lv_at hl 3 rfl) ?_
  refine lv_aload_n hx hb dL_law_19 rfl (lv_at hl 0 rfl) ?_
  refine va_slen hx hb hX hbl hbA hS dL_law_20 ?_
  refine lv_iconst (v := 5) hx hb dL_law_21 (by decide) ?_
  refine lv_isub hx hb dL_law_22 ?_
  refine lv_icmp_gt (tgt := 705) hx hb dL_law_23 (by decide) (fun _ => ?_) (fun c23 => ?_)
  · refine lv_iconst (v := 1) hx hb dL_law_705 (by decide) ?_
    refine va_forget (fun q hq => hS.2.2 q hq) ?_
    exact lw_ret hx hb hr hlocks dL_law_706
  · exact absurd ((ft_gt5 (by omega) (by omega)).mpr hLi) c23
/-- behind a call: on to the loop's head -/
theorem lw_next {l : Launch} {p : Program} {e : Env} {s : State} {m : MethodId} {below : List Frame} {meth : Method} {c : Code} {b L : Nat} {xs : Nat → Int32} {D : va_G} {cI cS : ClassId} {sK sV : Nat → Nat} (C0 : lw_Cx p s m meth c b L xs D cI cS sK sV) {o0 m0 i : Nat} {H : Heap} {locs : List Loc} {ls : Array Slot} (hl : ftLs ls b o0 m0 i) (kk : ∀ ls : Array Slot, ftLs ls b o0 m0 (i + 5) → ftLW l p e s m below meth c b H locs (F0 m 18 ls [])) : ftLW l p e s m below meth c b H locs (F0 m 699 ls []) := by
  obtain ⟨⟨hx, hb, hr, hml, hown, hts, hX, hbl, hlocks, hgv⟩, -, -, hL30⟩ := C0
  refine lv_iinc (v := nI (i + 5)) (lv' := [(3, .int (nI (i + 5))), (0, .ref b), (1, .ref o0), (2, .ref m0)]) hx hb dL_law_699 hl (k := 3) rfl (ft_addN i 5) (by decide) rfl (fun ls hl => ?_)
  refine lv_goto (tgt := 18) hx hb dL_law_702 (by decide) ?_
  exact kk ls (lv_sub hl [1, 2, 3, 0] rfl)
/-- at the loop's head, five numbers left: on to the switch -/
theorem lw_head {l : Launch} {p : Program} {e : Env} {s : State} {m : MethodId} {below : List Frame} {meth : Method} {c : Code} {b L : Nat} {xs : Nat → Int32} {D : va_G} {cI cS : ClassId} {sK sV : Nat → Nat} (C0 : lw_Cx p s m meth c b L xs D cI cS sK sV) {o0 m0 i : Nat} (hLi : i + 5 ≤ L) {H : Heap} {locs : List Loc} (hS : va_S (fun q => s.heap.size ≤ q) s.heap H locs) {ls : Array Slot} (hl : ftLs ls b o0 m0 i) (kk : ∀ x : Int32, ftLW l p e s m below meth c b H locs (F0 m 32 ls [.int x])) : ftLW l p e s m below meth c b H locs (F0 m 18 ls []) := by
  obtain ⟨⟨hx, hb, hr, hml, hown, hts, hX, hbl, hlocks, hgv⟩, -, -, hL30⟩ := C0
  have hbA : ¬ (fun q : Nat => s.heap.size ≤ q) b := Nat.not_le.mpr hbl
  refine lv_iload_n hx hb dL_law_18 rfl (lv_at hl 3 rfl) ?_
  refine lv_aload_n hx hb dL_law_19 rfl (lv_at hl 0 rfl) ?_
  refine va_slen hx hb hX hbl hbA hS dL_law_20 ?_
  refine lv_iconst (v := 5) hx hb dL_law_21 (by decide) ?_
  refine lv_isub hx hb dL_law_22 ?_
  refine lv_icmp_gt (tgt := 705) hx hb dL_law_23 (by decide) (fun c23 => ?_) (fun _ => ?_)
  · exact absurd ((ft_gt5 (by omega) (by omega)).mp c23) (by omega)
  · refine lv_aload_n hx hb dL_law_26 rfl (lv_at hl 0 rfl) ?_
    refine lv_iload_n hx hb dL_law_27 rfl (lv_at hl 3 rfl) ?_
    refine va_sld hx hb hX hbl hbA hS (vp_in_nI (by omega) (by omega)) dL_law_28 ?_
    refine lv_bipush (v := 31) hx hb dL_law_29 (by decide) ?_
    refine lv_iand hx hb dL_law_31 ?_
    exact kk _
end
