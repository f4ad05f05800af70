theorem dL_0 : decode code 0 = .ok (.new 7, 3) := by decide +kernel
theorem dL_3 : decode code 3 = .ok (.dup, 1) := by decide +kernel
theorem dL_4 : decode code 4 = .ok (.invokespecial 9, 3) := by decide +kernel
theorem dL_7 : decode code 7 = .ok (.astore_n 1, 1) := by decide +kernel
theorem dL_8 : decode code 8 = .ok (.new 10, 3) := by decide +kernel
theorem dL_11 : decode code 11 = .ok (.dup, 1) := by decide +kernel
theorem dL_12 : decode code 12 = .ok (.invokespecial 12, 3) := by decide +kernel
theorem dL_15 : decode code 15 = .ok (.astore_n 2, 1) := by decide +kernel
theorem dL_16 : decode code 16 = .ok (.iconst 0, 1) := by decide +kernel
theorem dL_17 : decode code 17 = .ok (.istore_n 3, 1) := by decide +kernel
theorem dL_18 : decode code 18 = .ok (.iload_n 3, 1) := by decide +kernel
theorem dL_19 : decode code 19 = .ok (.aload_n 0, 1) := by decide +kernel
theorem dL_20 : decode code 20 = .ok (.arraylength, 1) := by decide +kernel
theorem dL_21 : decode code 21 = .ok (.iconst 5, 1) := by decide +kernel
theorem dL_22 : decode code 22 = .ok (.isub, 1) := by decide +kernel
theorem dL_23 : decode code 23 = .ok (.if_icmp .gt 702, 3) := by decide +kernel
theorem dL_26 : decode code 26 = .ok (.aload_n 0, 1) := by decide +kernel
theorem dL_27 : decode code 27 = .ok (.iload_n 3, 1) := by decide +kernel
theorem dL_28 : decode code 28 = .ok (.iaload, 1) := by decide +kernel
theorem dL_29 : decode code 29 = .ok (.bipush 31, 2) := by decide +kernel
theorem dL_31 : decode code 31 = .ok (.iand, 1) := by decide +kernel
theorem dL_32 : decode code 32 = .ok (.tableswitch 687 0 16 #[84, 147, 170, 193, 206, 219, 232, 289, 334, 389, 422, 445, 478, 521, 574, 609, 642], 84) := by decide +kernel
theorem dL_116 : decode code 116 = .ok (.aload_n 1, 1) := by decide +kernel
theorem dL_117 : decode code 117 = .ok (.aload_n 0, 1) := by decide +kernel
theorem dL_118 : decode code 118 = .ok (.iload_n 3, 1) := by decide +kernel
theorem dL_119 : decode code 119 = .ok (.iconst 1, 1) := by decide +kernel
theorem dL_120 : decode code 120 = .ok (.iadd, 1) := by decide +kernel
theorem dL_121 : decode code 121 = .ok (.iaload, 1) := by decide +kernel
theorem dL_122 : decode code 122 = .ok (.i2l, 1) := by decide +kernel
theorem dL_123 : decode code 123 = .ok (.bipush 32, 2) := by decide +kernel
theorem dL_125 : decode code 125 = .ok (.lshl, 1) := by decide +kernel
theorem dL_126 : decode code 126 = .ok (.aload_n 0, 1) := by decide +kernel
theorem dL_127 : decode code 127 = .ok (.iload_n 3, 1) := by decide +kernel
theorem dL_128 : decode code 128 = .ok (.iconst 2, 1) := by decide +kernel
theorem dL_129 : decode code 129 = .ok (.iadd, 1) := by decide +kernel
theorem dL_130 : decode code 130 = .ok (.iaload, 1) := by decide +kernel
theorem dL_131 : decode code 131 = .ok (.i2l, 1) := by decide +kernel
theorem dL_132 : decode code 132 = .ok (.ldc2_w 13, 3) := by decide +kernel
theorem dL_135 : decode code 135 = .ok (.land, 1) := by decide +kernel
theorem dL_136 : decode code 136 = .ok (.lor, 1) := by decide +kernel
theorem dL_137 : decode code 137 = .ok (.aload_n 0, 1) := by decide +kernel
theorem dL_138 : decode code 138 = .ok (.iload_n 3, 1) := by decide +kernel
theorem dL_139 : decode code 139 = .ok (.iconst 3, 1) := by decide +kernel
theorem dL_140 : decode code 140 = .ok (.iadd, 1) := by decide +kernel
theorem dL_141 : decode code 141 = .ok (.iaload, 1) := by decide +kernel
theorem dL_142 : decode code 142 = .ok (.invokevirtual 15, 3) := by decide +kernel
theorem dL_145 : decode code 145 = .ok (.aload_n 2, 1) := by decide +kernel
theorem dL_146 : decode code 146 = .ok (.aload_n 0, 1) := by decide +kernel
theorem dL_147 : decode code 147 = .ok (.iload_n 3, 1) := by decide +kernel
theorem dL_148 : decode code 148 = .ok (.iconst 1, 1) := by decide +kernel
theorem dL_149 : decode code 149 = .ok (.iadd, 1) := by decide +kernel
theorem dL_150 : decode code 150 = .ok (.iaload, 1) := by decide +kernel
theorem dL_151 : decode code 151 = .ok (.i2l, 1) := by decide +kernel
theorem dL_152 : decode code 152 = .ok (.bipush 32, 2) := by decide +kernel
theorem dL_154 : decode code 154 = .ok (.lshl, 1) := by decide +kernel
theorem dL_155 : decode code 155 = .ok (.aload_n 0, 1) := by decide +kernel
theorem dL_156 : decode code 156 = .ok (.iload_n 3, 1) := by decide +kernel
theorem dL_157 : decode code 157 = .ok (.iconst 2, 1) := by decide +kernel
theorem dL_158 : decode code 158 = .ok (.iadd, 1) := by decide +kernel
theorem dL_159 : decode code 159 = .ok (.iaload, 1) := by decide +kernel
theorem dL_160 : decode code 160 = .ok (.i2l, 1) := by decide +kernel
theorem dL_161 : decode code 161 = .ok (.ldc2_w 13, 3) := by decide +kernel
theorem dL_164 : decode code 164 = .ok (.land, 1) := by decide +kernel
theorem dL_165 : decode code 165 = .ok (.lor, 1) := by decide +kernel
theorem dL_166 : decode code 166 = .ok (.aload_n 0, 1) := by decide +kernel
theorem dL_167 : decode code 167 = .ok (.iload_n 3, 1) := by decide +kernel
theorem dL_168 : decode code 168 = .ok (.iconst 3, 1) := by decide +kernel
theorem dL_169 : decode code 169 = .ok (.iadd, 1) := by decide +kernel
theorem dL_170 : decode code 170 = .ok (.iaload, 1) := by decide +kernel
theorem dL_171 : decode code 171 = .ok (.invokevirtual 19, 3) := by decide +kernel
theorem dL_174 : decode code 174 = .ok (.if_icmp .eq 545, 3) := by decide +kernel
theorem dL_177 : decode code 177 = .ok (.iconst 0, 1) := by decide +kernel
theorem dL_178 : decode code 178 = .ok (.ireturn, 1) := by decide +kernel
theorem dL_179 : decode code 179 = .ok (.aload_n 1, 1) := by decide +kernel
theorem dL_180 : decode code 180 = .ok (.aload_n 0, 1) := by decide +kernel
theorem dL_181 : decode code 181 = .ok (.iload_n 3, 1) := by decide +kernel
theorem dL_182 : decode code 182 = .ok (.iconst 1, 1) := by decide +kernel
theorem dL_183 : decode code 183 = .ok (.iadd, 1) := by decide +kernel
theorem dL_184 : decode code 184 = .ok (.iaload, 1) := by decide +kernel
theorem dL_185 : decode code 185 = .ok (.invokevirtual 20, 3) := by decide +kernel
theorem dL_188 : decode code 188 = .ok (.aload_n 2, 1) := by decide +kernel
theorem dL_189 : decode code 189 = .ok (.aload_n 0, 1) := by decide +kernel
theorem dL_190 : decode code 190 = .ok (.iload_n 3, 1) := by decide +kernel
theorem dL_191 : decode code 191 = .ok (.iconst 1, 1) := by decide +kernel
theorem dL_192 : decode code 192 = .ok (.iadd, 1) := by decide +kernel
theorem dL_193 : decode code 193 = .ok (.iaload, 1) := by decide +kernel
theorem dL_194 : decode code 194 = .ok (.invokevirtual 24, 3) := by decide +kernel
theorem dL_197 : decode code 197 = .ok (.if_icmp .eq 522, 3) := by decide +kernel
theorem dL_200 : decode code 200 = .ok (.iconst 0, 1) := by decide +kernel
theorem dL_201 : decode code 201 = .ok (.ireturn, 1) := by decide +kernel
theorem dL_202 : decode code 202 = .ok (.aload_n 1, 1) := by decide +kernel
theorem dL_203 : decode code 203 = .ok (.aload_n 0, 1) := by decide +kernel
theorem dL_204 : decode code 204 = .ok (.iload_n 3, 1) := by decide +kernel
theorem dL_205 : decode code 205 = .ok (.iconst 1, 1) := by decide +kernel
theorem dL_206 : decode code 206 = .ok (.iadd, 1) := by decide +kernel
theorem dL_207 : decode code 207 = .ok (.iaload, 1) := by decide +kernel
theorem dL_208 : decode code 208 = .ok (.invokevirtual 25, 3) := by decide +kernel
theorem dL_211 : decode code 211 = .ok (.aload_n 2, 1) := by decide +kernel
theorem dL_212 : decode code 212 = .ok (.aload_n 0, 1) := by decide +kernel
theorem dL_213 : decode code 213 = .ok (.iload_n 3, 1) := by decide +kernel
theorem dL_214 : decode code 214 = .ok (.iconst 1, 1) := by decide +kernel
theorem dL_215 : decode code 215 = .ok (.iadd, 1) := by decide +kernel
theorem dL_216 : decode code 216 = .ok (.iaload, 1) := by decide +kernel
theorem dL_217 : decode code 217 = .ok (.invokevirtual 28, 3) := by decide +kernel
theorem dL_220 : decode code 220 = .ok (.if_icmp .eq 499, 3) := by decide +kernel
theorem dL_223 : decode code 223 = .ok (.iconst 0, 1) := by decide +kernel
theorem dL_224 : decode code 224 = .ok (.ireturn, 1) := by decide +kernel
theorem dL_225 : decode code 225 = .ok (.aload_n 1, 1) := by decide +kernel
theorem dL_226 : decode code 226 = .ok (.invokevirtual 29, 3) := by decide +kernel
theorem dL_229 : decode code 229 = .ok (.aload_n 2, 1) := by decide +kernel
theorem dL_230 : decode code 230 = .ok (.invokevirtual 33, 3) := by decide +kernel
theorem dL_233 : decode code 233 = .ok (.if_icmp .eq 486, 3) := by decide +kernel
theorem dL_236 : decode code 236 = .ok (.iconst 0, 1) := by decide +kernel
theorem dL_237 : decode code 237 = .ok (.ireturn, 1) := by decide +kernel
theorem dL_238 : decode code 238 = .ok (.aload_n 1, 1) := by decide +kernel
theorem dL_239 : decode code 239 = .ok (.invokevirtual 34, 3) := by decide +kernel
theorem dL_242 : decode code 242 = .ok (.aload_n 2, 1) := by decide +kernel
theorem dL_243 : decode code 243 = .ok (.invokevirtual 37, 3) := by decide +kernel
theorem dL_246 : decode code 246 = .ok (.if_icmp .eq 473, 3) := by decide +kernel
theorem dL_249 : decode code 249 = .ok (.iconst 0, 1) := by decide +kernel
theorem dL_250 : decode code 250 = .ok (.ireturn, 1) := by decide +kernel
theorem dL_251 : decode code 251 = .ok (.aload_n 1, 1) := by decide +kernel
theorem dL_252 : decode code 252 = .ok (.invokevirtual 38, 3) := by decide +kernel
theorem dL_255 : decode code 255 = .ok (.aload_n 2, 1) := by decide +kernel
theorem dL_256 : decode code 256 = .ok (.invokevirtual 41, 3) := by decide +kernel
theorem dL_259 : decode code 259 = .ok (.if_icmp .eq 460, 3) := by decide +kernel
theorem dL_262 : decode code 262 = .ok (.iconst 0, 1) := by decide +kernel
theorem dL_263 : decode code 263 = .ok (.ireturn, 1) := by decide +kernel
theorem dL_264 : decode code 264 = .ok (.aload_n 1, 1) := by decide +kernel
theorem dL_265 : decode code 265 = .ok (.aload_n 0, 1) := by decide +kernel
theorem dL_266 : decode code 266 = .ok (.iload_n 3, 1) := by decide +kernel
theorem dL_267 : decode code 267 = .ok (.iconst 1, 1) := by decide +kernel
theorem dL_268 : decode code 268 = .ok (.iadd, 1) := by decide +kernel
theorem dL_269 : decode code 269 = .ok (.iaload, 1) := by decide +kernel
theorem dL_270 : decode code 270 = .ok (.aload_n 0, 1) := by decide +kernel
theorem dL_271 : decode code 271 = .ok (.iload_n 3, 1) := by decide +kernel
theorem dL_272 : decode code 272 = .ok (.iconst 2, 1) := by decide +kernel
theorem dL_273 : decode code 273 = .ok (.iadd, 1) := by decide +kernel
theorem dL_274 : decode code 274 = .ok (.iaload, 1) := by decide +kernel
theorem dL_275 : decode code 275 = .ok (.aload_n 0, 1) := by decide +kernel
theorem dL_276 : decode code 276 = .ok (.iload_n 3, 1) := by decide +kernel
theorem dL_277 : decode code 277 = .ok (.iconst 3, 1) := by decide +kernel
theorem dL_278 : decode code 278 = .ok (.iadd, 1) := by decide +kernel
theorem dL_279 : decode code 279 = .ok (.iaload, 1) := by decide +kernel
theorem dL_280 : decode code 280 = .ok (.i2c, 1) := by decide +kernel
theorem dL_281 : decode code 281 = .ok (.aload_n 0, 1) := by decide +kernel
theorem dL_282 : decode code 282 = .ok (.iload_n 3, 1) := by decide +kernel
theorem dL_283 : decode code 283 = .ok (.iconst 4, 1) := by decide +kernel
theorem dL_284 : decode code 284 = .ok (.iadd, 1) := by decide +kernel
theorem dL_285 : decode code 285 = .ok (.iaload, 1) := by decide +kernel
theorem dL_286 : decode code 286 = .ok (.i2c, 1) := by decide +kernel
theorem dL_287 : decode code 287 = .ok (.invokevirtual 42, 3) := by decide +kernel
theorem dL_290 : decode code 290 = .ok (.aload_n 2, 1) := by decide +kernel
theorem dL_291 : decode code 291 = .ok (.aload_n 0, 1) := by decide +kernel
theorem dL_292 : decode code 292 = .ok (.iload_n 3, 1) := by decide +kernel
theorem dL_293 : decode code 293 = .ok (.iconst 1, 1) := by decide +kernel
theorem dL_294 : decode code 294 = .ok (.iadd, 1) := by decide +kernel
theorem dL_295 : decode code 295 = .ok (.iaload, 1) := by decide +kernel
theorem dL_296 : decode code 296 = .ok (.aload_n 0, 1) := by decide +kernel
theorem dL_297 : decode code 297 = .ok (.iload_n 3, 1) := by decide +kernel
theorem dL_298 : decode code 298 = .ok (.iconst 2, 1) := by decide +kernel
theorem dL_299 : decode code 299 = .ok (.iadd, 1) := by decide +kernel
theorem dL_300 : decode code 300 = .ok (.iaload, 1) := by decide +kernel
theorem dL_301 : decode code 301 = .ok (.aload_n 0, 1) := by decide +kernel
theorem dL_302 : decode code 302 = .ok (.iload_n 3, 1) := by decide +kernel
theorem dL_303 : decode code 303 = .ok (.iconst 3, 1) := by decide +kernel
theorem dL_304 : decode code 304 = .ok (.iadd, 1) := by decide +kernel
theorem dL_305 : decode code 305 = .ok (.iaload, 1) := by decide +kernel
theorem dL_306 : decode code 306 = .ok (.i2c, 1) := by decide +kernel
theorem dL_307 : decode code 307 = .ok (.aload_n 0, 1) := by decide +kernel
theorem dL_308 : decode code 308 = .ok (.iload_n 3, 1) := by decide +kernel
theorem dL_309 : decode code 309 = .ok (.iconst 4, 1) := by decide +kernel
theorem dL_310 : decode code 310 = .ok (.iadd, 1) := by decide +kernel
theorem dL_311 : decode code 311 = .ok (.iaload, 1) := by decide +kernel
theorem dL_312 : decode code 312 = .ok (.i2c, 1) := by decide +kernel
theorem dL_313 : decode code 313 = .ok (.invokevirtual 46, 3) := by decide +kernel
theorem dL_316 : decode code 316 = .ok (.if_icmp .eq 403, 3) := by decide +kernel
theorem dL_319 : decode code 319 = .ok (.iconst 0, 1) := by decide +kernel
theorem dL_320 : decode code 320 = .ok (.ireturn, 1) := by decide +kernel
theorem dL_321 : decode code 321 = .ok (.aload_n 1, 1) := by decide +kernel
theorem dL_322 : decode code 322 = .ok (.aload_n 0, 1) := by decide +kernel
theorem dL_323 : decode code 323 = .ok (.iload_n 3, 1) := by decide +kernel
theorem dL_324 : decode code 324 = .ok (.iconst 1, 1) := by decide +kernel
theorem dL_325 : decode code 325 = .ok (.iadd, 1) := by decide +kernel
theorem dL_326 : decode code 326 = .ok (.iaload, 1) := by decide +kernel
theorem dL_327 : decode code 327 = .ok (.aload_n 0, 1) := by decide +kernel
theorem dL_328 : decode code 328 = .ok (.iload_n 3, 1) := by decide +kernel
theorem dL_329 : decode code 329 = .ok (.iconst 2, 1) := by decide +kernel
theorem dL_330 : decode code 330 = .ok (.iadd, 1) := by decide +kernel
theorem dL_331 : decode code 331 = .ok (.iaload, 1) := by decide +kernel
theorem dL_332 : decode code 332 = .ok (.aload_n 0, 1) := by decide +kernel
theorem dL_333 : decode code 333 = .ok (.iload_n 3, 1) := by decide +kernel
theorem dL_334 : decode code 334 = .ok (.iconst 3, 1) := by decide +kernel
theorem dL_335 : decode code 335 = .ok (.iadd, 1) := by decide +kernel
theorem dL_336 : decode code 336 = .ok (.iaload, 1) := by decide +kernel
theorem dL_337 : decode code 337 = .ok (.i2c, 1) := by decide +kernel
theorem dL_338 : decode code 338 = .ok (.invokevirtual 47, 3) := by decide +kernel
theorem dL_341 : decode code 341 = .ok (.aload_n 2, 1) := by decide +kernel
theorem dL_342 : decode code 342 = .ok (.aload_n 0, 1) := by decide +kernel
theorem dL_343 : decode code 343 = .ok (.iload_n 3, 1) := by decide +kernel
theorem dL_344 : decode code 344 = .ok (.iconst 1, 1) := by decide +kernel
theorem dL_345 : decode code 345 = .ok (.iadd, 1) := by decide +kernel
theorem dL_346 : decode code 346 = .ok (.iaload, 1) := by decide +kernel
theorem dL_347 : decode code 347 = .ok (.aload_n 0, 1) := by decide +kernel
theorem dL_348 : decode code 348 = .ok (.iload_n 3, 1) := by decide +kernel
theorem dL_349 : decode code 349 = .ok (.iconst 2, 1) := by decide +kernel
theorem dL_350 : decode code 350 = .ok (.iadd, 1) := by decide +kernel
theorem dL_351 : decode code 351 = .ok (.iaload, 1) := by decide +kernel
theorem dL_352 : decode code 352 = .ok (.aload_n 0, 1) := by decide +kernel
theorem dL_353 : decode code 353 = .ok (.iload_n 3, 1) := by decide +kernel
theorem dL_354 : decode code 354 = .ok (.iconst 3, 1) := by decide +kernel
theorem dL_355 : decode code 355 = .ok (.iadd, 1) := by decide +kernel
theorem dL_356 : decode code 356 = .ok (.iaload, 1) := by decide +kernel
theorem dL_357 : decode code 357 = .ok (.i2c, 1) := by decide +kernel
theorem dL_358 : decode code 358 = .ok (.invokevirtual 51, 3) := by decide +kernel
theorem dL_361 : decode code 361 = .ok (.if_icmp .eq 358, 3) := by decide +kernel
theorem dL_364 : decode code 364 = .ok (.iconst 0, 1) := by decide +kernel
theorem dL_365 : decode code 365 = .ok (.ireturn, 1) := by decide +kernel
theorem dL_366 : decode code 366 = .ok (.aload_n 1, 1) := by decide +kernel
theorem dL_367 : decode code 367 = .ok (.aload_n 0, 1) := by decide +kernel
theorem dL_368 : decode code 368 = .ok (.iload_n 3, 1) := by decide +kernel
theorem dL_369 : decode code 369 = .ok (.iconst 1, 1) := by decide +kernel
theorem dL_370 : decode code 370 = .ok (.iadd, 1) := by decide +kernel
theorem dL_371 : decode code 371 = .ok (.iaload, 1) := by decide +kernel
theorem dL_372 : decode code 372 = .ok (.aload_n 0, 1) := by decide +kernel
theorem dL_373 : decode code 373 = .ok (.iload_n 3, 1) := by decide +kernel
theorem dL_374 : decode code 374 = .ok (.iconst 2, 1) := by decide +kernel
theorem dL_375 : decode code 375 = .ok (.iadd, 1) := by decide +kernel
theorem dL_376 : decode code 376 = .ok (.iaload, 1) := by decide +kernel
theorem dL_377 : decode code 377 = .ok (.aload_n 0, 1) := by decide +kernel
theorem dL_378 : decode code 378 = .ok (.iload_n 3, 1) := by decide +kernel
theorem dL_379 : decode code 379 = .ok (.iconst 3, 1) := by decide +kernel
theorem dL_380 : decode code 380 = .ok (.iadd, 1) := by decide +kernel
theorem dL_381 : decode code 381 = .ok (.iaload, 1) := by decide +kernel
theorem dL_382 : decode code 382 = .ok (.aload_n 0, 1) := by decide +kernel
theorem dL_383 : decode code 383 = .ok (.iload_n 3, 1) := by decide +kernel
theorem dL_384 : decode code 384 = .ok (.iconst 4, 1) := by decide +kernel
theorem dL_385 : decode code 385 = .ok (.iadd, 1) := by decide +kernel
theorem dL_386 : decode code 386 = .ok (.iaload, 1) := by decide +kernel
theorem dL_387 : decode code 387 = .ok (.i2c, 1) := by decide +kernel
theorem dL_388 : decode code 388 = .ok (.invokevirtual 52, 3) := by decide +kernel
theorem dL_391 : decode code 391 = .ok (.aload_n 2, 1) := by decide +kernel
theorem dL_392 : decode code 392 = .ok (.aload_n 0, 1) := by decide +kernel
theorem dL_393 : decode code 393 = .ok (.iload_n 3, 1) := by decide +kernel
theorem dL_394 : decode code 394 = .ok (.iconst 1, 1) := by decide +kernel
theorem dL_395 : decode code 395 = .ok (.iadd, 1) := by decide +kernel
theorem dL_396 : decode code 396 = .ok (.iaload, 1) := by decide +kernel
theorem dL_397 : decode code 397 = .ok (.aload_n 0, 1) := by decide +kernel
theorem dL_398 : decode code 398 = .ok (.iload_n 3, 1) := by decide +kernel
theorem dL_399 : decode code 399 = .ok (.iconst 2, 1) := by decide +kernel
theorem dL_400 : decode code 400 = .ok (.iadd, 1) := by decide +kernel
theorem dL_401 : decode code 401 = .ok (.iaload, 1) := by decide +kernel
theorem dL_402 : decode code 402 = .ok (.aload_n 0, 1) := by decide +kernel
theorem dL_403 : decode code 403 = .ok (.iload_n 3, 1) := by decide +kernel
theorem dL_404 : decode code 404 = .ok (.iconst 3, 1) := by decide +kernel
theorem dL_405 : decode code 405 = .ok (.iadd, 1) := by decide +kernel
theorem dL_406 : decode code 406 = .ok (.iaload, 1) := by decide +kernel
theorem dL_407 : decode code 407 = .ok (.aload_n 0, 1) := by decide +kernel
theorem dL_408 : decode code 408 = .ok (.iload_n 3, 1) := by decide +kernel
theorem dL_409 : decode code 409 = .ok (.iconst 4, 1) := by decide +kernel
theorem dL_410 : decode code 410 = .ok (.iadd, 1) := by decide +kernel
theorem dL_411 : decode code 411 = .ok (.iaload, 1) := by decide +kernel
theorem dL_412 : decode code 412 = .ok (.i2c, 1) := by decide +kernel
theorem dL_413 : decode code 413 = .ok (.invokevirtual 56, 3) := by decide +kernel
theorem dL_416 : decode code 416 = .ok (.if_icmp .eq 303, 3) := by decide +kernel
theorem dL_419 : decode code 419 = .ok (.iconst 0, 1) := by decide +kernel
theorem dL_420 : decode code 420 = .ok (.ireturn, 1) := by decide +kernel
theorem dL_421 : decode code 421 = .ok (.aload_n 1, 1) := by decide +kernel
theorem dL_422 : decode code 422 = .ok (.aload_n 0, 1) := by decide +kernel
theorem dL_423 : decode code 423 = .ok (.iload_n 3, 1) := by decide +kernel
theorem dL_424 : decode code 424 = .ok (.iconst 1, 1) := by decide +kernel
theorem dL_425 : decode code 425 = .ok (.iadd, 1) := by decide +kernel
theorem dL_426 : decode code 426 = .ok (.iaload, 1) := by decide +kernel
theorem dL_427 : decode code 427 = .ok (.aload_n 0, 1) := by decide +kernel
theorem dL_428 : decode code 428 = .ok (.iload_n 3, 1) := by decide +kernel
theorem dL_429 : decode code 429 = .ok (.iconst 2, 1) := by decide +kernel
theorem dL_430 : decode code 430 = .ok (.iadd, 1) := by decide +kernel
theorem dL_431 : decode code 431 = .ok (.iaload, 1) := by decide +kernel
theorem dL_432 : decode code 432 = .ok (.invokevirtual 57, 3) := by decide +kernel
theorem dL_435 : decode code 435 = .ok (.aload_n 2, 1) := by decide +kernel
theorem dL_436 : decode code 436 = .ok (.aload_n 0, 1) := by decide +kernel
theorem dL_437 : decode code 437 = .ok (.iload_n 3, 1) := by decide +kernel
theorem dL_438 : decode code 438 = .ok (.iconst 1, 1) := by decide +kernel
theorem dL_439 : decode code 439 = .ok (.iadd, 1) := by decide +kernel
theorem dL_440 : decode code 440 = .ok (.iaload, 1) := by decide +kernel
theorem dL_441 : decode code 441 = .ok (.aload_n 0, 1) := by decide +kernel
theorem dL_442 : decode code 442 = .ok (.iload_n 3, 1) := by decide +kernel
theorem dL_443 : decode code 443 = .ok (.iconst 2, 1) := by decide +kernel
theorem dL_444 : decode code 444 = .ok (.iadd, 1) := by decide +kernel
theorem dL_445 : decode code 445 = .ok (.iaload, 1) := by decide +kernel
theorem dL_446 : decode code 446 = .ok (.invokevirtual 61, 3) := by decide +kernel
theorem dL_449 : decode code 449 = .ok (.if_icmp .eq 270, 3) := by decide +kernel
theorem dL_452 : decode code 452 = .ok (.iconst 0, 1) := by decide +kernel
theorem dL_453 : decode code 453 = .ok (.ireturn, 1) := by decide +kernel
theorem dL_454 : decode code 454 = .ok (.aload_n 1, 1) := by decide +kernel
theorem dL_455 : decode code 455 = .ok (.aload_n 0, 1) := by decide +kernel
theorem dL_456 : decode code 456 = .ok (.iload_n 3, 1) := by decide +kernel
theorem dL_457 : decode code 457 = .ok (.iconst 1, 1) := by decide +kernel
theorem dL_458 : decode code 458 = .ok (.iadd, 1) := by decide +kernel
theorem dL_459 : decode code 459 = .ok (.iaload, 1) := by decide +kernel
theorem dL_460 : decode code 460 = .ok (.invokevirtual 62, 3) := by decide +kernel
theorem dL_463 : decode code 463 = .ok (.aload_n 2, 1) := by decide +kernel
theorem dL_464 : decode code 464 = .ok (.aload_n 0, 1) := by decide +kernel
theorem dL_465 : decode code 465 = .ok (.iload_n 3, 1) := by decide +kernel
theorem dL_466 : decode code 466 = .ok (.iconst 1, 1) := by decide +kernel
theorem dL_467 : decode code 467 = .ok (.iadd, 1) := by decide +kernel
theorem dL_468 : decode code 468 = .ok (.iaload, 1) := by decide +kernel
theorem dL_469 : decode code 469 = .ok (.invokevirtual 65, 3) := by decide +kernel
theorem dL_472 : decode code 472 = .ok (.if_icmp .eq 247, 3) := by decide +kernel
theorem dL_475 : decode code 475 = .ok (.iconst 0, 1) := by decide +kernel
theorem dL_476 : decode code 476 = .ok (.ireturn, 1) := by decide +kernel
theorem dL_477 : decode code 477 = .ok (.aload_n 1, 1) := by decide +kernel
theorem dL_478 : decode code 478 = .ok (.aload_n 0, 1) := by decide +kernel
theorem dL_479 : decode code 479 = .ok (.iload_n 3, 1) := by decide +kernel
theorem dL_480 : decode code 480 = .ok (.iconst 1, 1) := by decide +kernel
theorem dL_481 : decode code 481 = .ok (.iadd, 1) := by decide +kernel
theorem dL_482 : decode code 482 = .ok (.iaload, 1) := by decide +kernel
theorem dL_483 : decode code 483 = .ok (.aload_n 0, 1) := by decide +kernel
theorem dL_484 : decode code 484 = .ok (.iload_n 3, 1) := by decide +kernel
theorem dL_485 : decode code 485 = .ok (.iconst 2, 1) := by decide +kernel
theorem dL_486 : decode code 486 = .ok (.iadd, 1) := by decide +kernel
theorem dL_487 : decode code 487 = .ok (.iaload, 1) := by decide +kernel
theorem dL_488 : decode code 488 = .ok (.invokevirtual 66, 3) := by decide +kernel
theorem dL_491 : decode code 491 = .ok (.aload_n 2, 1) := by decide +kernel
theorem dL_492 : decode code 492 = .ok (.aload_n 0, 1) := by decide +kernel
theorem dL_493 : decode code 493 = .ok (.iload_n 3, 1) := by decide +kernel
theorem dL_494 : decode code 494 = .ok (.iconst 1, 1) := by decide +kernel
theorem dL_495 : decode code 495 = .ok (.iadd, 1) := by decide +kernel
theorem dL_496 : decode code 496 = .ok (.iaload, 1) := by decide +kernel
theorem dL_497 : decode code 497 = .ok (.aload_n 0, 1) := by decide +kernel
theorem dL_498 : decode code 498 = .ok (.iload_n 3, 1) := by decide +kernel
theorem dL_499 : decode code 499 = .ok (.iconst 2, 1) := by decide +kernel
theorem dL_500 : decode code 500 = .ok (.iadd, 1) := by decide +kernel
theorem dL_501 : decode code 501 = .ok (.iaload, 1) := by decide +kernel
theorem dL_502 : decode code 502 = .ok (.invokevirtual 70, 3) := by decide +kernel
theorem dL_505 : decode code 505 = .ok (.if_icmp .eq 214, 3) := by decide +kernel
theorem dL_508 : decode code 508 = .ok (.iconst 0, 1) := by decide +kernel
theorem dL_509 : decode code 509 = .ok (.ireturn, 1) := by decide +kernel
theorem dL_510 : decode code 510 = .ok (.aload_n 1, 1) := by decide +kernel
theorem dL_511 : decode code 511 = .ok (.aload_n 0, 1) := by decide +kernel
theorem dL_512 : decode code 512 = .ok (.iload_n 3, 1) := by decide +kernel
theorem dL_513 : decode code 513 = .ok (.iconst 1, 1) := by decide +kernel
theorem dL_514 : decode code 514 = .ok (.iadd, 1) := by decide +kernel
theorem dL_515 : decode code 515 = .ok (.iaload, 1) := by decide +kernel
theorem dL_516 : decode code 516 = .ok (.aload_n 0, 1) := by decide +kernel
theorem dL_517 : decode code 517 = .ok (.iload_n 3, 1) := by decide +kernel
theorem dL_518 : decode code 518 = .ok (.iconst 2, 1) := by decide +kernel
theorem dL_519 : decode code 519 = .ok (.iadd, 1) := by decide +kernel
theorem dL_520 : decode code 520 = .ok (.iaload, 1) := by decide +kernel
theorem dL_521 : decode code 521 = .ok (.aload_n 0, 1) := by decide +kernel
theorem dL_522 : decode code 522 = .ok (.iload_n 3, 1) := by decide +kernel
theorem dL_523 : decode code 523 = .ok (.iconst 3, 1) := by decide +kernel
theorem dL_524 : decode code 524 = .ok (.iadd, 1) := by decide +kernel
theorem dL_525 : decode code 525 = .ok (.iaload, 1) := by decide +kernel
theorem dL_526 : decode code 526 = .ok (.invokevirtual 71, 3) := by decide +kernel
theorem dL_529 : decode code 529 = .ok (.aload_n 2, 1) := by decide +kernel
theorem dL_530 : decode code 530 = .ok (.aload_n 0, 1) := by decide +kernel
theorem dL_531 : decode code 531 = .ok (.iload_n 3, 1) := by decide +kernel
theorem dL_532 : decode code 532 = .ok (.iconst 1, 1) := by decide +kernel
theorem dL_533 : decode code 533 = .ok (.iadd, 1) := by decide +kernel
theorem dL_534 : decode code 534 = .ok (.iaload, 1) := by decide +kernel
theorem dL_535 : decode code 535 = .ok (.aload_n 0, 1) := by decide +kernel
theorem dL_536 : decode code 536 = .ok (.iload_n 3, 1) := by decide +kernel
theorem dL_537 : decode code 537 = .ok (.iconst 2, 1) := by decide +kernel
theorem dL_538 : decode code 538 = .ok (.iadd, 1) := by decide +kernel
theorem dL_539 : decode code 539 = .ok (.iaload, 1) := by decide +kernel
theorem dL_540 : decode code 540 = .ok (.aload_n 0, 1) := by decide +kernel
theorem dL_541 : decode code 541 = .ok (.iload_n 3, 1) := by decide +kernel
theorem dL_542 : decode code 542 = .ok (.iconst 3, 1) := by decide +kernel
theorem dL_543 : decode code 543 = .ok (.iadd, 1) := by decide +kernel
theorem dL_544 : decode code 544 = .ok (.iaload, 1) := by decide +kernel
theorem dL_545 : decode code 545 = .ok (.invokevirtual 75, 3) := by decide +kernel
theorem dL_548 : decode code 548 = .ok (.if_icmp .eq 171, 3) := by decide +kernel
theorem dL_551 : decode code 551 = .ok (.iconst 0, 1) := by decide +kernel
theorem dL_552 : decode code 552 = .ok (.ireturn, 1) := by decide +kernel
theorem dL_553 : decode code 553 = .ok (.aload_n 1, 1) := by decide +kernel
theorem dL_554 : decode code 554 = .ok (.aload_n 0, 1) := by decide +kernel
theorem dL_555 : decode code 555 = .ok (.iload_n 3, 1) := by decide +kernel
theorem dL_556 : decode code 556 = .ok (.iconst 1, 1) := by decide +kernel
theorem dL_557 : decode code 557 = .ok (.iadd, 1) := by decide +kernel
theorem dL_558 : decode code 558 = .ok (.iaload, 1) := by decide +kernel
theorem dL_559 : decode code 559 = .ok (.aload_n 0, 1) := by decide +kernel
theorem dL_560 : decode code 560 = .ok (.iload_n 3, 1) := by decide +kernel
theorem dL_561 : decode code 561 = .ok (.iconst 2, 1) := by decide +kernel
theorem dL_562 : decode code 562 = .ok (.iadd, 1) := by decide +kernel
theorem dL_563 : decode code 563 = .ok (.iaload, 1) := by decide +kernel
theorem dL_564 : decode code 564 = .ok (.aload_n 0, 1) := by decide +kernel
theorem dL_565 : decode code 565 = .ok (.iload_n 3, 1) := by decide +kernel
theorem dL_566 : decode code 566 = .ok (.iconst 3, 1) := by decide +kernel
theorem dL_567 : decode code 567 = .ok (.iadd, 1) := by decide +kernel
theorem dL_568 : decode code 568 = .ok (.iaload, 1) := by decide +kernel
theorem dL_569 : decode code 569 = .ok (.aload_n 0, 1) := by decide +kernel
theorem dL_570 : decode code 570 = .ok (.iload_n 3, 1) := by decide +kernel
theorem dL_571 : decode code 571 = .ok (.iconst 4, 1) := by decide +kernel
theorem dL_572 : decode code 572 = .ok (.iadd, 1) := by decide +kernel
theorem dL_573 : decode code 573 = .ok (.iaload, 1) := by decide +kernel
theorem dL_574 : decode code 574 = .ok (.invokevirtual 76, 3) := by decide +kernel
theorem dL_577 : decode code 577 = .ok (.aload_n 2, 1) := by decide +kernel
theorem dL_578 : decode code 578 = .ok (.aload_n 0, 1) := by decide +kernel
theorem dL_579 : decode code 579 = .ok (.iload_n 3, 1) := by decide +kernel
theorem dL_580 : decode code 580 = .ok (.iconst 1, 1) := by decide +kernel
theorem dL_581 : decode code 581 = .ok (.iadd, 1) := by decide +kernel
theorem dL_582 : decode code 582 = .ok (.iaload, 1) := by decide +kernel
theorem dL_583 : decode code 583 = .ok (.aload_n 0, 1) := by decide +kernel
theorem dL_584 : decode code 584 = .ok (.iload_n 3, 1) := by decide +kernel
theorem dL_585 : decode code 585 = .ok (.iconst 2, 1) := by decide +kernel
theorem dL_586 : decode code 586 = .ok (.iadd, 1) := by decide +kernel
theorem dL_587 : decode code 587 = .ok (.iaload, 1) := by decide +kernel
theorem dL_588 : decode code 588 = .ok (.aload_n 0, 1) := by decide +kernel
theorem dL_589 : decode code 589 = .ok (.iload_n 3, 1) := by decide +kernel
theorem dL_590 : decode code 590 = .ok (.iconst 3, 1) := by decide +kernel
theorem dL_591 : decode code 591 = .ok (.iadd, 1) := by decide +kernel
theorem dL_592 : decode code 592 = .ok (.iaload, 1) := by decide +kernel
theorem dL_593 : decode code 593 = .ok (.aload_n 0, 1) := by decide +kernel
theorem dL_594 : decode code 594 = .ok (.iload_n 3, 1) := by decide +kernel
theorem dL_595 : decode code 595 = .ok (.iconst 4, 1) := by decide +kernel
theorem dL_596 : decode code 596 = .ok (.iadd, 1) := by decide +kernel
theorem dL_597 : decode code 597 = .ok (.iaload, 1) := by decide +kernel
theorem dL_598 : decode code 598 = .ok (.invokevirtual 80, 3) := by decide +kernel
theorem dL_601 : decode code 601 = .ok (.if_icmp .eq 118, 3) := by decide +kernel
theorem dL_604 : decode code 604 = .ok (.iconst 0, 1) := by decide +kernel
theorem dL_605 : decode code 605 = .ok (.ireturn, 1) := by decide +kernel
theorem dL_606 : decode code 606 = .ok (.aload_n 1, 1) := by decide +kernel
theorem dL_607 : decode code 607 = .ok (.aload_n 0, 1) := by decide +kernel
theorem dL_608 : decode code 608 = .ok (.iload_n 3, 1) := by decide +kernel
theorem dL_609 : decode code 609 = .ok (.iconst 1, 1) := by decide +kernel
theorem dL_610 : decode code 610 = .ok (.iadd, 1) := by decide +kernel
theorem dL_611 : decode code 611 = .ok (.iaload, 1) := by decide +kernel
theorem dL_612 : decode code 612 = .ok (.aload_n 0, 1) := by decide +kernel
theorem dL_613 : decode code 613 = .ok (.iload_n 3, 1) := by decide +kernel
theorem dL_614 : decode code 614 = .ok (.iconst 2, 1) := by decide +kernel
theorem dL_615 : decode code 615 = .ok (.iadd, 1) := by decide +kernel
theorem dL_616 : decode code 616 = .ok (.iaload, 1) := by decide +kernel
theorem dL_617 : decode code 617 = .ok (.i2c, 1) := by decide +kernel
theorem dL_618 : decode code 618 = .ok (.invokevirtual 81, 3) := by decide +kernel
theorem dL_621 : decode code 621 = .ok (.aload_n 2, 1) := by decide +kernel
theorem dL_622 : decode code 622 = .ok (.aload_n 0, 1) := by decide +kernel
theorem dL_623 : decode code 623 = .ok (.iload_n 3, 1) := by decide +kernel
theorem dL_624 : decode code 624 = .ok (.iconst 1, 1) := by decide +kernel
theorem dL_625 : decode code 625 = .ok (.iadd, 1) := by decide +kernel
theorem dL_626 : decode code 626 = .ok (.iaload, 1) := by decide +kernel
theorem dL_627 : decode code 627 = .ok (.aload_n 0, 1) := by decide +kernel
theorem dL_628 : decode code 628 = .ok (.iload_n 3, 1) := by decide +kernel
theorem dL_629 : decode code 629 = .ok (.iconst 2, 1) := by decide +kernel
theorem dL_630 : decode code 630 = .ok (.iadd, 1) := by decide +kernel
theorem dL_631 : decode code 631 = .ok (.iaload, 1) := by decide +kernel
theorem dL_632 : decode code 632 = .ok (.i2c, 1) := by decide +kernel
theorem dL_633 : decode code 633 = .ok (.invokevirtual 85, 3) := by decide +kernel
theorem dL_636 : decode code 636 = .ok (.if_icmp .eq 83, 3) := by decide +kernel
theorem dL_639 : decode code 639 = .ok (.iconst 0, 1) := by decide +kernel
theorem dL_640 : decode code 640 = .ok (.ireturn, 1) := by decide +kernel
theorem dL_641 : decode code 641 = .ok (.aload_n 1, 1) := by decide +kernel
theorem dL_642 : decode code 642 = .ok (.aload_n 0, 1) := by decide +kernel
theorem dL_643 : decode code 643 = .ok (.iload_n 3, 1) := by decide +kernel
theorem dL_644 : decode code 644 = .ok (.iconst 1, 1) := by decide +kernel
theorem dL_645 : decode code 645 = .ok (.iadd, 1) := by decide +kernel
theorem dL_646 : decode code 646 = .ok (.iaload, 1) := by decide +kernel
theorem dL_647 : decode code 647 = .ok (.aload_n 0, 1) := by decide +kernel
theorem dL_648 : decode code 648 = .ok (.iload_n 3, 1) := by decide +kernel
theorem dL_649 : decode code 649 = .ok (.iconst 2, 1) := by decide +kernel
theorem dL_650 : decode code 650 = .ok (.iadd, 1) := by decide +kernel
theorem dL_651 : decode code 651 = .ok (.iaload, 1) := by decide +kernel
theorem dL_652 : decode code 652 = .ok (.invokevirtual 86, 3) := by decide +kernel
theorem dL_655 : decode code 655 = .ok (.aload_n 2, 1) := by decide +kernel
theorem dL_656 : decode code 656 = .ok (.aload_n 0, 1) := by decide +kernel
theorem dL_657 : decode code 657 = .ok (.iload_n 3, 1) := by decide +kernel
theorem dL_658 : decode code 658 = .ok (.iconst 1, 1) := by decide +kernel
theorem dL_659 : decode code 659 = .ok (.iadd, 1) := by decide +kernel
theorem dL_660 : decode code 660 = .ok (.iaload, 1) := by decide +kernel
theorem dL_661 : decode code 661 = .ok (.aload_n 0, 1) := by decide +kernel
theorem dL_662 : decode code 662 = .ok (.iload_n 3, 1) := by decide +kernel
theorem dL_663 : decode code 663 = .ok (.iconst 2, 1) := by decide +kernel
theorem dL_664 : decode code 664 = .ok (.iadd, 1) := by decide +kernel
theorem dL_665 : decode code 665 = .ok (.iaload, 1) := by decide +kernel
theorem dL_666 : decode code 666 = .ok (.invokevirtual 89, 3) := by decide +kernel
theorem dL_669 : decode code 669 = .ok (.if_icmp .eq 50, 3) := by decide +kernel
theorem dL_672 : decode code 672 = .ok (.iconst 0, 1) := by decide +kernel
theorem dL_673 : decode code 673 = .ok (.ireturn, 1) := by decide +kernel
theorem dL_674 : decode code 674 = .ok (.aload_n 1, 1) := by decide +kernel
theorem dL_675 : decode code 675 = .ok (.aload_n 0, 1) := by decide +kernel
theorem dL_676 : decode code 676 = .ok (.iload_n 3, 1) := by decide +kernel
theorem dL_677 : decode code 677 = .ok (.iconst 1, 1) := by decide +kernel
theorem dL_678 : decode code 678 = .ok (.iadd, 1) := by decide +kernel
theorem dL_679 : decode code 679 = .ok (.iaload, 1) := by decide +kernel
theorem dL_680 : decode code 680 = .ok (.aload_n 0, 1) := by decide +kernel
theorem dL_681 : decode code 681 = .ok (.iload_n 3, 1) := by decide +kernel
theorem dL_682 : decode code 682 = .ok (.iconst 2, 1) := by decide +kernel
theorem dL_683 : decode code 683 = .ok (.iadd, 1) := by decide +kernel
theorem dL_684 : decode code 684 = .ok (.iaload, 1) := by decide +kernel
theorem dL_685 : decode code 685 = .ok (.i2c, 1) := by decide +kernel
theorem dL_686 : decode code 686 = .ok (.aload_n 0, 1) := by decide +kernel
theorem dL_687 : decode code 687 = .ok (.iload_n 3, 1) := by decide +kernel
theorem dL_688 : decode code 688 = .ok (.iconst 3, 1) := by decide +kernel
theorem dL_689 : decode code 689 = .ok (.iadd, 1) := by decide +kernel
theorem dL_690 : decode code 690 = .ok (.iaload, 1) := by decide +kernel
theorem dL_691 : decode code 691 = .ok (.invokevirtual 90, 3) := by decide +kernel
theorem dL_694 : decode code 694 = .ok (.aload_n 2, 1) := by decide +kernel
theorem dL_695 : decode code 695 = .ok (.aload_n 0, 1) := by decide +kernel
theorem dL_696 : decode code 696 = .ok (.iload_n 3, 1) := by decide +kernel
theorem dL_697 : decode code 697 = .ok (.iconst 1, 1) := by decide +kernel
theorem dL_698 : decode code 698 = .ok (.iadd, 1) := by decide +kernel
theorem dL_699 : decode code 699 = .ok (.iaload, 1) := by decide +kernel
theorem dL_700 : decode code 700 = .ok (.aload_n 0, 1) := by decide +kernel
theorem dL_701 : decode code 701 = .ok (.iload_n 3, 1) := by decide +kernel
theorem dL_702 : decode code 702 = .ok (.iconst 2, 1) := by decide +kernel
theorem dL_703 : decode code 703 = .ok (.iadd, 1) := by decide +kernel
theorem dL_704 : decode code 704 = .ok (.iaload, 1) := by decide +kernel
theorem dL_705 : decode code 705 = .ok (.i2c, 1) := by decide +kernel
theorem dL_706 : decode code 706 = .ok (.aload_n 0, 1) := by decide +kernel
theorem dL_707 : decode code 707 = .ok (.iload_n 3, 1) := by decide +kernel
theorem dL_708 : decode code 708 = .ok (.iconst 3, 1) := by decide +kernel
theorem dL_709 : decode code 709 = .ok (.iadd, 1) := by decide +kernel
theorem dL_710 : decode code 710 = .ok (.iaload, 1) := by decide +kernel
theorem dL_711 : decode code 711 = .ok (.invokevirtual 94, 3) := by decide +kernel
theorem dL_714 : decode code 714 = .ok (.if_icmp .eq 5, 3) := by decide +kernel
theorem dL_717 : decode code 717 = .ok (.iconst 0, 1) := by decide +kernel
theorem dL_718 : decode code 718 = .ok (.ireturn, 1) := by decide +kernel
theorem dL_719 : decode code 719 = .ok (.iinc 3 5, 3) := by decide +kernel
theorem dL_722 : decode code 722 = .ok (.goto (-704), 3) := by decide +kernel
theorem dL_725 : decode code 725 = .ok (.iconst 1, 1) := by decide +kernel
theorem dL_726 : decode code 726 = .ok (.ireturn, 1) := by decide +kernel
theorem wtl {w : Cond} (h : w ∈ WA) : w ∈ lw_tbl := wa_tbl h
theorem gw0L {c1 : Cond} (h : c1 ∈ WA) : GoodIn lw_tbl (c1 :: WA) := fun w hw => (List.mem_cons.mp hw).elim (fun e => e ▸ ⟨wa_tbl h, wa_good h⟩) (fun h2 => ⟨wa_tbl h2, wa_good h2⟩)
theorem gwVL {own C : String} {idx n : Nat} {y : MethodName} {cc : ByteArray} {r : Option FieldType} (h1 : Cond.methodLink own idx y ∈ WA) (h2 : Cond.instanceMethod y ∈ WA) (h3 : Cond.selects C y y ∈ WA) (h4 : Cond.initialized C ∈ WA) (h5 : Cond.code y cc n r ∈ WA) : GoodIn lw_tbl (wsV own idx C y (Cond.code y cc n r :: WA)) := by
  intro w hw
  rcases List.mem_cons.mp (gwV (c0 := Cond.code y cc n r) h1 h2 h3 h4 h5 w hw).1 with e | h
  · exact ⟨e ▸ wa_tbl h5, (gwV (c0 := Cond.code y cc n r) h1 h2 h3 h4 h5 w hw).2⟩
  · exact ⟨wa_tbl h, wa_good h⟩
theorem lw_gt {L k : Nat} (h : L < k + 5) (hL : L < 2 ^ 30) (hk : k < 2 ^ 30) : Int32.ofNat L - 5 < nI k := by
  have h1 : (nI L - nI 5).toInt = (L : Int) - (5 : Nat) := pk_sub_toInt hL (by decide)
  have h2 : (nI k).toInt = (k : Int) := nI_toInt (by omega)
  apply Int32.lt_iff_toInt_lt.mpr
  show (nI L - nI 5).toInt < (nI k).toInt
  rw [h1, h2]
  omega
theorem lw_ngt {L k : Nat} (h : k + 5 ≤ L) (hL : L < 2 ^ 30) : ¬ Int32.ofNat L - 5 < nI k := by
  intro q
  have h1 : (nI L - nI 5).toInt = (L : Int) - (5 : Nat) := pk_sub_toInt hL (by decide)
  have h2 : (nI k).toInt = (k : Int) := nI_toInt (by omega)
  have q2 : (nI L - nI 5).toInt < (nI k).toInt := Int32.lt_iff_toInt_lt.mp q
  rw [h1, h2] at q2
  omega
def SSL (b q v : Nat) (U : State) (H : Heap) : Prop := vk_R "RecordShelf$Card" 26 "nam a   " q U ∧ va_O "java/lang/String" q (fun z => b ≤ z) U H ∧ va_OF "java/lang/String" "coder" "B" (.int 0) q (fun z => b ≤ z) U H ∧ va_OF "java/lang/String" "value" "[B" (.ref v) q (fun z => b ≤ z) U H ∧ va_T .byte v 8 (fun j => .int (sg_nam j)) (fun z => b ≤ z) U H ∧ va_Z "java/lang/String" "COMPACT_STRINGS" "Z" (.int 1) (fun z => b ≤ z) U H ∧ va_Zq "jdk/internal/util/Preconditions" "SIOOBE_FORMATTER" "Ljava/util/function/BiFunction;" (fun z => b ≤ z) U H
theorem SSL.go {b q v : Nat} {s U : State} {H : Heap} {locs : List Loc} (h : SSL b q v s s.heap) (hS : va_S (fun z => b ≤ z) s.heap H locs) (hW : s.WarmedH U.vm) (hU : U.heap = H) : SS b q v U U.heap := by
  rw [hU]
  have hk := hS.2.1
  have hn : ∀ z, sg_A b 892 z → b ≤ z := fun z h => h.1
  exact ⟨h.1.warm hW, va_O.moved hW.alike ((h.2.1.kept hk).narrow hn), va_OF.moved hW.alike ((h.2.2.1.kept hk).narrow hn), va_OF.moved hW.alike ((h.2.2.2.1.kept hk).narrow hn), va_T.moved hW.alike ((h.2.2.2.2.1.kept hk).narrow hn), va_Z.moved hW.alike ((h.2.2.2.2.2.1.kept hk).narrow hn), va_Zq.moved hW.alike ((h.2.2.2.2.2.2.kept hk).narrow hn)⟩
theorem CWL_preV {D : va_G} {κ : Nat → ClassId} {b q v : Nat} {σ : Sg} {H : Heap} {s : State} {locs : List Loc} (hK : KK D κ s) (hC : CW D κ b σ H) (hV : SSL b q v s s.heap) (hS : va_S (fun z => b ≤ z) s.heap H locs) {As : List Value} {a z ci : Nat} {fs : List Value} {r : vw_C} (hg : (sg_L 892 (lyC κ b) b σ)[z]? = some (a, .inr (ci, fs))) (hc : vwCl[ci]? = some r) : PreV s H r.1 a (va_Pc (.ref a :: As) (fun U => KK D κ U ∧ CW D κ b σ U.heap ∧ SS b q v U U.heap)) As :=
  ⟨fun a U g mk z => ⟨z.1, z.2.1.call, z.2.2.1, z.2.2.2.call⟩, va_recv hK.1 hC.1 hc hg, fun U hU hW => ⟨rfl, hK.warm hW, by rw [hU]; exact hC, hV.go hS hW hU⟩⟩
theorem MW_kept {D : va_G} {κ : Nat → ClassId} {b m : Nat} {τ : Sg} {H H1 : Heap} (hm : m = b + 892) (hM : MW D κ m τ H) (hk : ∀ q : Nat, q < H.size → ¬ sg_A b 892 q → H1[q]? = H[q]?) : MW D κ m τ H1 := by
  refine ⟨hM.1.kept (fun k q hq => hk q.1 (hM.1 k q hq).lt (fun h => ?_)), trivial⟩
  have hl : k < 16 := by have := (List.getElem?_eq_some_iff.mp hq).1; rwa [sg_len] at this
  rw [sg_nth hl] at hq
  have e : q.1 = m + k := by rw [← Option.some.inj hq]
  rw [e] at h
  have := h.2
  omega
theorem CW_kept {D : va_G} {κ : Nat → ClassId} {b m : Nat} {σ : Sg} {H H1 : Heap} (hm : m = b + 892) (hC : CW D κ b σ H) (hk : ∀ q : Nat, q < H.size → ¬ sg_A m 16 q → H1[q]? = H[q]?) : CW D κ b σ H1 := by
  refine ⟨hC.1.kept (fun k q hq => hk q.1 (hC.1 k q hq).lt (fun h => ?_)), hC.2⟩
  have hl : k < 892 := by have := (List.getElem?_eq_some_iff.mp hq).1; rwa [sg_len] at this
  rw [sg_nth hl] at hq
  have e : q.1 = b + k := by rw [← Option.some.inj hq]
  rw [e] at h
  have := h.1
  omega
/-- what holds all along the law -/
def sg_ZL (p : Program) (c : Code) (s : State) (mm : MethodId) (D : va_G) (κ : Nat → ClassId) (bs L : Nat) (xs : Nat → Int32) (b m qs vs : Nat) : Prop := p.tables.exec = Jvm.exec ∧ c.code = code ∧ c.maxLocals = 4 ∧ s.vm.findClass R_law = some mm.cls ∧ (∀ w ∈ lw_tbl, w.before #[Value.ref bs] s = true) ∧ KK D κ s ∧ va_X bs L xs s s.heap ∧ bs < s.heap.size ∧ b = s.heap.size ∧ m = b + 892 ∧ SSL b qs vs s s.heap
set_option maxHeartbeats 4000000 in
set_option maxRecDepth 100000 in
theorem lw_c0 {p : Program} {l : Launch} {e : Env} {s : State} {mm : MethodId} {below : List Frame} {meth : Method} {c : Code} {Q : State → Prop} {D : va_G} {κ : Nat → ClassId} {bs L b m qs vs : Nat} {xs : Nat → Int32} (hZ : sg_ZL p c s mm D κ bs L xs b m qs vs) {i : Int32} (h1 : vp_in (i + 1) L) (h2 : vp_in (i + 2) L) (h3 : vp_in (i + 3) L) (h4 : vp_in (i + 4) L) {σ τ : Sg} {H : Heap} {locs : List Loc} {ls : Array Slot} (hl : lv_has ls 4 [(0, .ref bs), (1, .ref b), (2, .ref m), (3, .int i)]) (hJ : JJ b σ m τ) (hC : CW D κ b σ H) (hM : MW D κ m τ H) (hS : va_S (fun z => b ≤ z) s.heap H locs) (hk : ∀ {σ' τ' : Sg} {H' : Heap} {locs' : List Loc}, JJ b σ' m τ' → CW D κ b σ' H' → MW D κ m τ' H' → va_S (fun z => b ≤ z) s.heap H' locs' → W p l e room_1 s mm #[Value.ref bs] below meth c H' locs' 908 20920 Q (F0 mm 719 ls [])) : W p l e room_1 s mm #[Value.ref bs] below meth c H locs 908 20920 Q (F0 mm 116 ls []) := by
  obtain ⟨hx, hb, hml, hown, hts, hK, hX, hbl, hbe, hm, hV⟩ := hZ
  have hbA : ¬ (b ≤ bs) := by omega
  have hbm : b ≤ m := by omega
  refine lv_aload_n hx hb dL_116 rfl (lv_at hl 1 rfl) ?_
  refine lv_aload_n hx hb dL_117 rfl (lv_at hl 0 rfl) ?_
  refine lv_iload_n hx hb dL_118 rfl (lv_at hl 3 rfl) ?_
  refine lv_iconst (v := 1) hx hb dL_119 (by decide) ?_
  refine lv_iadd hx hb dL_120 ?_
  refine va_sld hx hb hX hbl hbA hS h1 dL_121 ?_
  refine lv_i2l (v := (((xs (sg_x (i + 1))) : Int32).toInt64)) hx hb dL_122 rfl ?_
  refine lv_bipush (v := 32) hx hb dL_123 (by decide) ?_
  refine lv_lshl (v := ((((xs (sg_x (i + 1))) : Int32).toInt64) <<< (((32 : Int32).toInt64) &&& 63))) hx hb dL_125 rfl ?_
  refine lv_aload_n hx hb dL_126 rfl (lv_at hl 0 rfl) ?_
  refine lv_iload_n hx hb dL_127 rfl (lv_at hl 3 rfl) ?_
  refine lv_iconst (v := 2) hx hb dL_128 (by decide) ?_
  refine lv_iadd hx hb dL_129 ?_
  refine va_sld hx hb hX hbl hbA hS h2 dL_130 ?_
  refine lv_i2l (v := (((xs (sg_x (i + 2))) : Int32).toInt64)) hx hb dL_131 rfl ?_
  refine lv_ldc2 (v := 4294967295) hx hb hown (hts _ (wtl wt_891)) dL_132 ?_
  refine lv_land hx hb dL_135 ?_
  refine lv_lor hx hb dL_136 ?_
  refine lv_aload_n hx hb dL_137 rfl (lv_at hl 0 rfl) ?_
  refine lv_iload_n hx hb dL_138 rfl (lv_at hl 3 rfl) ?_
  refine lv_iconst (v := 3) hx hb dL_139 (by decide) ?_
  refine lv_iadd hx hb dL_140 ?_
  refine va_sld hx hb hX hbl hbA hS h3 dL_141 ?_
  obtain ⟨r0, σ1, τ1, eC, eM, hJ⟩ := op_feed hJ (((((xs (sg_x (i + 1))) : Int32).toInt64) <<< (((32 : Int32).toInt64) &&& 63)) ||| ((((xs (sg_x (i + 2))) : Int32).toInt64) &&& 4294967295)) (xs (sg_x (i + 3)))
  refine va_calli (va_runV (As := [.long (((((xs (sg_x (i + 1))) : Int32).toInt64) <<< (((32 : Int32).toInt64) &&& 63)) ||| ((((xs (sg_x (i + 2))) : Int32).toInt64) &&& 4294967295)), .int (xs (sg_x (i + 3)))]) (rest := []) ⟨hx, hb, hml, hown, hts⟩ (c_X7_feed l D κ b σ (((((xs (sg_x (i + 1))) : Int32).toInt64) <<< (((32 : Int32).toInt64) &&& 63)) ||| ((((xs (sg_x (i + 2))) : Int32).toInt64) &&& 4294967295)) (xs (sg_x (i + 3))) _ eC) (cwV 2 hts (gwVL wt_211 wt_212 wt_213 wt_1 wt_214) rfl rfl rfl (by decide +kernel) ⟨Nat.le_of_ble_eq_true rfl, Nat.le_of_ble_eq_true rfl⟩) (CW_preV hK hC sg_gShelf rfl) rfl rfl hl.1 rfl (lv_room (Nat.le_of_ble_eq_true rfl)) dL_142 ⟨Nat.le_of_ble_eq_true rfl, Nat.le_of_ble_eq_true rfl⟩) hS (fun _ _ h => h.1) (fun _ h => h.1) (fun r u t H locs ht _ hp hB _ hk1 hS => ?_)
  refine sg_topi (y := r0) hp.1 ?_
  have hC : CW D κ b σ1 H := CW_b hB ht hp.2
  have hM := MW_kept hm hM hk1
  refine lv_aload_n hx hb dL_145 rfl (lv_at hl 2 rfl) ?_
  refine lv_aload_n hx hb dL_146 rfl (lv_at hl 0 rfl) ?_
  refine lv_iload_n hx hb dL_147 rfl (lv_at hl 3 rfl) ?_
  refine lv_iconst (v := 1) hx hb dL_148 (by decide) ?_
  refine lv_iadd hx hb dL_149 ?_
  refine va_sld hx hb hX hbl hbA hS h1 dL_150 ?_
  refine lv_i2l (v := (((xs (sg_x (i + 1))) : Int32).toInt64)) hx hb dL_151 rfl ?_
  refine lv_bipush (v := 32) hx hb dL_152 (by decide) ?_
  refine lv_lshl (v := ((((xs (sg_x (i + 1))) : Int32).toInt64) <<< (((32 : Int32).toInt64) &&& 63))) hx hb dL_154 rfl ?_
  refine lv_aload_n hx hb dL_155 rfl (lv_at hl 0 rfl) ?_
  refine lv_iload_n hx hb dL_156 rfl (lv_at hl 3 rfl) ?_
  refine lv_iconst (v := 2) hx hb dL_157 (by decide) ?_
  refine lv_iadd hx hb dL_158 ?_
  refine va_sld hx hb hX hbl hbA hS h2 dL_159 ?_
  refine lv_i2l (v := (((xs (sg_x (i + 2))) : Int32).toInt64)) hx hb dL_160 rfl ?_
  refine lv_ldc2 (v := 4294967295) hx hb hown (hts _ (wtl wt_891)) dL_161 ?_
  refine lv_land hx hb dL_164 ?_
  refine lv_lor hx hb dL_165 ?_
  refine lv_aload_n hx hb dL_166 rfl (lv_at hl 0 rfl) ?_
  refine lv_iload_n hx hb dL_167 rfl (lv_at hl 3 rfl) ?_
  refine lv_iconst (v := 3) hx hb dL_168 (by decide) ?_
  refine lv_iadd hx hb dL_169 ?_
  refine va_sld hx hb hX hbl hbA hS h3 dL_170 ?_
  refine va_calli (va_runV (As := [.long (((((xs (sg_x (i + 1))) : Int32).toInt64) <<< (((32 : Int32).toInt64) &&& 63)) ||| ((((xs (sg_x (i + 2))) : Int32).toInt64) &&& 4294967295)), .int (xs (sg_x (i + 3)))]) (rest := [.int r0]) ⟨hx, hb, hml, hown, hts⟩ (c_X8_feed l D κ m τ (((((xs (sg_x (i + 1))) : Int32).toInt64) <<< (((32 : Int32).toInt64) &&& 63)) ||| ((((xs (sg_x (i + 2))) : Int32).toInt64) &&& 4294967295)) (xs (sg_x (i + 3))) _ eM) (cwV 2 hts (gwVL wt_712 wt_713 wt_714 wt_9 wt_715) rfl rfl rfl (by decide +kernel) ⟨Nat.le_of_ble_eq_true rfl, Nat.le_of_ble_eq_true rfl⟩) (MW_preV hK hM sg_gModel rfl) rfl rfl hl.1 rfl (lv_room (Nat.le_of_ble_eq_true rfl)) dL_171 ⟨Nat.le_of_ble_eq_true rfl, Nat.le_of_ble_eq_true rfl⟩) hS (fun _ _ h => Nat.le_trans hbm h.1) (fun _ h => Nat.le_trans hbm h.1) (fun r u t H locs ht _ hp hB _ hk1 hS => ?_)
  refine sg_topi (y := r0) hp.1 ?_
  have hM : MW D κ m τ1 H := MW_b hB ht hp.2
  have hC := CW_kept hm hC hk1
  exact lv_icmp_eq (tgt := 719) hx hb dL_174 (by decide) (fun _ => hk hJ hC hM hS) (fun hc => absurd rfl hc)
set_option maxHeartbeats 4000000 in
set_option maxRecDepth 100000 in
theorem lw_c1 {p : Program} {l : Launch} {e : Env} {s : State} {mm : MethodId} {below : List Frame} {meth : Method} {c : Code} {Q : State → Prop} {D : va_G} {κ : Nat → ClassId} {bs L b m qs vs : Nat} {xs : Nat → Int32} (hZ : sg_ZL p c s mm D κ bs L xs b m qs vs) {i : Int32} (h1 : vp_in (i + 1) L) (h2 : vp_in (i + 2) L) (h3 : vp_in (i + 3) L) (h4 : vp_in (i + 4) L) {σ τ : Sg} {H : Heap} {locs : List Loc} {ls : Array Slot} (hl : lv_has ls 4 [(0, .ref bs), (1, .ref b), (2, .ref m), (3, .int i)]) (hJ : JJ b σ m τ) (hC : CW D κ b σ H) (hM : MW D κ m τ H) (hS : va_S (fun z => b ≤ z) s.heap H locs) (hk : ∀ {σ' τ' : Sg} {H' : Heap} {locs' : List Loc}, JJ b σ' m τ' → CW D κ b σ' H' → MW D κ m τ' H' → va_S (fun z => b ≤ z) s.heap H' locs' → W p l e room_1 s mm #[Value.ref bs] below meth c H' locs' 908 20920 Q (F0 mm 719 ls [])) : W p l e room_1 s mm #[Value.ref bs] below meth c H locs 908 20920 Q (F0 mm 179 ls []) := by
  obtain ⟨hx, hb, hml, hown, hts, hK, hX, hbl, hbe, hm, hV⟩ := hZ
  have hbA : ¬ (b ≤ bs) := by omega
  have hbm : b ≤ m := by omega
  refine lv_aload_n hx hb dL_179 rfl (lv_at hl 1 rfl) ?_
  refine lv_aload_n hx hb dL_180 rfl (lv_at hl 0 rfl) ?_
  refine lv_iload_n hx hb dL_181 rfl (lv_at hl 3 rfl) ?_
  refine lv_iconst (v := 1) hx hb dL_182 (by decide) ?_
  refine lv_iadd hx hb dL_183 ?_
  refine va_sld hx hb hX hbl hbA hS h1 dL_184 ?_
  obtain ⟨r0, σ1, τ1, eC, eM, hJ⟩ := op_cut hJ (xs (sg_x (i + 1)))
  refine va_calli (va_runV (As := [.int (xs (sg_x (i + 1)))]) (rest := []) ⟨hx, hb, hml, hown, hts⟩ (c_X7_cut l D κ b σ (xs (sg_x (i + 1))) _ eC) (cwV 1 hts (gwVL wt_225 wt_226 wt_227 wt_1 wt_228) rfl rfl rfl (by decide +kernel) ⟨Nat.le_of_ble_eq_true rfl, Nat.le_of_ble_eq_true rfl⟩) (CW_preV hK hC sg_gShelf rfl) rfl rfl hl.1 rfl (lv_room (Nat.le_of_ble_eq_true rfl)) dL_185 ⟨Nat.le_of_ble_eq_true rfl, Nat.le_of_ble_eq_true rfl⟩) hS (fun _ _ h => h.1) (fun _ h => h.1) (fun r u t H locs ht _ hp hB _ hk1 hS => ?_)
  refine sg_topi (y := r0) hp.1 ?_
  have hC : CW D κ b σ1 H := CW_b hB ht hp.2
  have hM := MW_kept hm hM hk1
  refine lv_aload_n hx hb dL_188 rfl (lv_at hl 2 rfl) ?_
  refine lv_aload_n hx hb dL_189 rfl (lv_at hl 0 rfl) ?_
  refine lv_iload_n hx hb dL_190 rfl (lv_at hl 3 rfl) ?_
  refine lv_iconst (v := 1) hx hb dL_191 (by decide) ?_
  refine lv_iadd hx hb dL_192 ?_
  refine va_sld hx hb hX hbl hbA hS h1 dL_193 ?_
  refine va_calli (va_runV (As := [.int (xs (sg_x (i + 1)))]) (rest := [.int r0]) ⟨hx, hb, hml, hown, hts⟩ (c_X8_cut l D κ m τ (xs (sg_x (i + 1))) _ eM) (cwV 1 hts (gwVL wt_721 wt_722 wt_723 wt_9 wt_724) rfl rfl rfl (by decide +kernel) ⟨Nat.le_of_ble_eq_true rfl, Nat.le_of_ble_eq_true rfl⟩) (MW_preV hK hM sg_gModel rfl) rfl rfl hl.1 rfl (lv_room (Nat.le_of_ble_eq_true rfl)) dL_194 ⟨Nat.le_of_ble_eq_true rfl, Nat.le_of_ble_eq_true rfl⟩) hS (fun _ _ h => Nat.le_trans hbm h.1) (fun _ h => Nat.le_trans hbm h.1) (fun r u t H locs ht _ hp hB _ hk1 hS => ?_)
  refine sg_topi (y := r0) hp.1 ?_
  have hM : MW D κ m τ1 H := MW_b hB ht hp.2
  have hC := CW_kept hm hC hk1
  exact lv_icmp_eq (tgt := 719) hx hb dL_197 (by decide) (fun _ => hk hJ hC hM hS) (fun hc => absurd rfl hc)
set_option maxHeartbeats 4000000 in
set_option maxRecDepth 100000 in
theorem lw_c2 {p : Program} {l : Launch} {e : Env} {s : State} {mm : MethodId} {below : List Frame} {meth : Method} {c : Code} {Q : State → Prop} {D : va_G} {κ : Nat → ClassId} {bs L b m qs vs : Nat} {xs : Nat → Int32} (hZ : sg_ZL p c s mm D κ bs L xs b m qs vs) {i : Int32} (h1 : vp_in (i + 1) L) (h2 : vp_in (i + 2) L) (h3 : vp_in (i + 3) L) (h4 : vp_in (i + 4) L) {σ τ : Sg} {H : Heap} {locs : List Loc} {ls : Array Slot} (hl : lv_has ls 4 [(0, .ref bs), (1, .ref b), (2, .ref m), (3, .int i)]) (hJ : JJ b σ m τ) (hC : CW D κ b σ H) (hM : MW D κ m τ H) (hS : va_S (fun z => b ≤ z) s.heap H locs) (hk : ∀ {σ' τ' : Sg} {H' : Heap} {locs' : List Loc}, JJ b σ' m τ' → CW D κ b σ' H' → MW D κ m τ' H' → va_S (fun z => b ≤ z) s.heap H' locs' → W p l e room_1 s mm #[Value.ref bs] below meth c H' locs' 908 20920 Q (F0 mm 719 ls [])) : W p l e room_1 s mm #[Value.ref bs] below meth c H locs 908 20920 Q (F0 mm 202 ls []) := by
  obtain ⟨hx, hb, hml, hown, hts, hK, hX, hbl, hbe, hm, hV⟩ := hZ
  have hbA : ¬ (b ≤ bs) := by omega
  have hbm : b ≤ m := by omega
  refine lv_aload_n hx hb dL_202 rfl (lv_at hl 1 rfl) ?_
  refine lv_aload_n hx hb dL_203 rfl (lv_at hl 0 rfl) ?_
  refine lv_iload_n hx hb dL_204 rfl (lv_at hl 3 rfl) ?_
  refine lv_iconst (v := 1) hx hb dL_205 (by decide) ?_
  refine lv_iadd hx hb dL_206 ?_
  refine va_sld hx hb hX hbl hbA hS h1 dL_207 ?_
  obtain ⟨r0, eC, eM⟩ := op_letter hJ (xs (sg_x (i + 1)))
  refine va_calli (va_runV (As := [.int (xs (sg_x (i + 1)))]) (rest := []) ⟨hx, hb, hml, hown, hts⟩ (c_X7_letter l D κ b σ (xs (sg_x (i + 1))) _ eC) (cwV 1 hts (gwVL wt_239 wt_240 wt_241 wt_1 wt_242) rfl rfl rfl (by decide +kernel) ⟨Nat.le_of_ble_eq_true rfl, Nat.le_of_ble_eq_true rfl⟩) (CW_preV hK hC sg_gShelf rfl) rfl rfl hl.1 rfl (lv_room (Nat.le_of_ble_eq_true rfl)) dL_208 ⟨Nat.le_of_ble_eq_true rfl, Nat.le_of_ble_eq_true rfl⟩) hS (fun _ _ h => h.1) (fun _ h => h.1) (fun r u t H locs ht _ hp hB _ hk1 hS => ?_)
  refine sg_topi (y := r0) hp.1 ?_
  have hC : CW D κ b σ H := CW_b hB ht hp.2
  have hM := MW_kept hm hM hk1
  refine lv_aload_n hx hb dL_211 rfl (lv_at hl 2 rfl) ?_
  refine lv_aload_n hx hb dL_212 rfl (lv_at hl 0 rfl) ?_
  refine lv_iload_n hx hb dL_213 rfl (lv_at hl 3 rfl) ?_
  refine lv_iconst (v := 1) hx hb dL_214 (by decide) ?_
  refine lv_iadd hx hb dL_215 ?_
  refine va_sld hx hb hX hbl hbA hS h1 dL_216 ?_
  refine va_calli (va_runV (As := [.int (xs (sg_x (i + 1)))]) (rest := [.int r0]) ⟨hx, hb, hml, hown, hts⟩ (c_X8_letter l D κ m τ (xs (sg_x (i + 1))) _ eM) (cwV 1 hts (gwVL wt_725 wt_726 wt_727 wt_9 wt_728) rfl rfl rfl (by decide +kernel) ⟨Nat.le_of_ble_eq_true rfl, Nat.le_of_ble_eq_true rfl⟩) (MW_preV hK hM sg_gModel rfl) rfl rfl hl.1 rfl (lv_room (Nat.le_of_ble_eq_true rfl)) dL_217 ⟨Nat.le_of_ble_eq_true rfl, Nat.le_of_ble_eq_true rfl⟩) hS (fun _ _ h => Nat.le_trans hbm h.1) (fun _ h => Nat.le_trans hbm h.1) (fun r u t H locs ht _ hp hB _ hk1 hS => ?_)
  refine sg_topi (y := r0) hp.1 ?_
  have hM : MW D κ m τ H := MW_b hB ht hp.2
  have hC := CW_kept hm hC hk1
  exact lv_icmp_eq (tgt := 719) hx hb dL_220 (by decide) (fun _ => hk hJ hC hM hS) (fun hc => absurd rfl hc)
set_option maxHeartbeats 4000000 in
set_option maxRecDepth 100000 in
theorem lw_c3 {p : Program} {l : Launch} {e : Env} {s : State} {mm : MethodId} {below : List Frame} {meth : Method} {c : Code} {Q : State → Prop} {D : va_G} {κ : Nat → ClassId} {bs L b m qs vs : Nat} {xs : Nat → Int32} (hZ : sg_ZL p c s mm D κ bs L xs b m qs vs) {i : Int32} (h1 : vp_in (i + 1) L) (h2 : vp_in (i + 2) L) (h3 : vp_in (i + 3) L) (h4 : vp_in (i + 4) L) {σ τ : Sg} {H : Heap} {locs : List Loc} {ls : Array Slot} (hl : lv_has ls 4 [(0, .ref bs), (1, .ref b), (2, .ref m), (3, .int i)]) (hJ : JJ b σ m τ) (hC : CW D κ b σ H) (hM : MW D κ m τ H) (hS : va_S (fun z => b ≤ z) s.heap H locs) (hk : ∀ {σ' τ' : Sg} {H' : Heap} {locs' : List Loc}, JJ b σ' m τ' → CW D κ b σ' H' → MW D κ m τ' H' → va_S (fun z => b ≤ z) s.heap H' locs' → W p l e room_1 s mm #[Value.ref bs] below meth c H' locs' 908 20920 Q (F0 mm 719 ls [])) : W p l e room_1 s mm #[Value.ref bs] below meth c H locs 908 20920 Q (F0 mm 225 ls []) := by
  obtain ⟨hx, hb, hml, hown, hts, hK, hX, hbl, hbe, hm, hV⟩ := hZ
  have hbA : ¬ (b ≤ bs) := by omega
  have hbm : b ≤ m := by omega
  refine lv_aload_n hx hb dL_225 rfl (lv_at hl 1 rfl) ?_
  obtain ⟨r0, σ1, τ1, eC, eM, hJ⟩ := op_read hJ
  refine va_calli (va_runV (As := []) (rest := []) ⟨hx, hb, hml, hown, hts⟩ (c_X7_read l D κ b σ qs vs  _ eC) (cwV 0 hts (gwVL wt_247 wt_248 wt_249 wt_1 wt_250) rfl rfl rfl (by decide +kernel) ⟨Nat.le_of_ble_eq_true rfl, Nat.le_of_ble_eq_true rfl⟩) (CWL_preV hK hC hV hS sg_gShelf rfl) rfl rfl hl.1 rfl (lv_room (Nat.le_of_ble_eq_true rfl)) dL_226 ⟨Nat.le_of_ble_eq_true rfl, Nat.le_of_ble_eq_true rfl⟩) hS (fun _ _ h => h.1) (fun _ h => h.1) (fun r u t H locs ht _ hp hB _ hk1 hS => ?_)
  refine sg_topi (y := r0) hp.1 ?_
  have hC : CW D κ b σ1 H := CW_b hB ht hp.2
  have hM := MW_kept hm hM hk1
  refine lv_aload_n hx hb dL_229 rfl (lv_at hl 2 rfl) ?_
  refine va_calli (va_runV (As := []) (rest := [.int r0]) ⟨hx, hb, hml, hown, hts⟩ (c_X8_read l D κ m τ  _ eM) (cwV 0 hts (gwVL wt_729 wt_730 wt_731 wt_9 wt_732) rfl rfl rfl (by decide +kernel) ⟨Nat.le_of_ble_eq_true rfl, Nat.le_of_ble_eq_true rfl⟩) (MW_preV hK hM sg_gModel rfl) rfl rfl hl.1 rfl (lv_room (Nat.le_of_ble_eq_true rfl)) dL_230 ⟨Nat.le_of_ble_eq_true rfl, Nat.le_of_ble_eq_true rfl⟩) hS (fun _ _ h => Nat.le_trans hbm h.1) (fun _ h => Nat.le_trans hbm h.1) (fun r u t H locs ht _ hp hB _ hk1 hS => ?_)
  refine sg_topi (y := r0) hp.1 ?_
  have hM : MW D κ m τ1 H := MW_b hB ht hp.2
  have hC := CW_kept hm hC hk1
  exact lv_icmp_eq (tgt := 719) hx hb dL_233 (by decide) (fun _ => hk hJ hC hM hS) (fun hc => absurd rfl hc)
set_option maxHeartbeats 4000000 in
set_option maxRecDepth 100000 in
theorem lw_c4 {p : Program} {l : Launch} {e : Env} {s : State} {mm : MethodId} {below : List Frame} {meth : Method} {c : Code} {Q : State → Prop} {D : va_G} {κ : Nat → ClassId} {bs L b m qs vs : Nat} {xs : Nat → Int32} (hZ : sg_ZL p c s mm D κ bs L xs b m qs vs) {i : Int32} (h1 : vp_in (i + 1) L) (h2 : vp_in (i + 2) L) (h3 : vp_in (i + 3) L) (h4 : vp_in (i + 4) L) {σ τ : Sg} {H : Heap} {locs : List Loc} {ls : Array Slot} (hl : lv_has ls 4 [(0, .ref bs), (1, .ref b), (2, .ref m), (3, .int i)]) (hJ : JJ b σ m τ) (hC : CW D κ b σ H) (hM : MW D κ m τ H) (hS : va_S (fun z => b ≤ z) s.heap H locs) (hk : ∀ {σ' τ' : Sg} {H' : Heap} {locs' : List Loc}, JJ b σ' m τ' → CW D κ b σ' H' → MW D κ m τ' H' → va_S (fun z => b ≤ z) s.heap H' locs' → W p l e room_1 s mm #[Value.ref bs] below meth c H' locs' 908 20920 Q (F0 mm 719 ls [])) : W p l e room_1 s mm #[Value.ref bs] below meth c H locs 908 20920 Q (F0 mm 238 ls []) := by
  obtain ⟨hx, hb, hml, hown, hts, hK, hX, hbl, hbe, hm, hV⟩ := hZ
  have hbA : ¬ (b ≤ bs) := by omega
  have hbm : b ≤ m := by omega
  refine lv_aload_n hx hb dL_238 rfl (lv_at hl 1 rfl) ?_
  obtain ⟨r0, eC, eM⟩ := op_place hJ
  refine va_calli (va_runV (As := []) (rest := []) ⟨hx, hb, hml, hown, hts⟩ (c_X7_place l D κ b σ  _ eC) (cwV 0 hts (gwVL wt_433 wt_434 wt_435 wt_1 wt_436) rfl rfl rfl (by decide +kernel) ⟨Nat.le_of_ble_eq_true rfl, Nat.le_of_ble_eq_true rfl⟩) (CW_preV hK hC sg_gShelf rfl) rfl rfl hl.1 rfl (lv_room (Nat.le_of_ble_eq_true rfl)) dL_239 ⟨Nat.le_of_ble_eq_true rfl, Nat.le_of_ble_eq_true rfl⟩) hS (fun _ _ h => h.1) (fun _ h => h.1) (fun r u t H locs ht _ hp hB _ hk1 hS => ?_)
  refine sg_topi (y := r0) hp.1 ?_
  have hC : CW D κ b σ H := CW_b hB ht hp.2
  have hM := MW_kept hm hM hk1
  refine lv_aload_n hx hb dL_242 rfl (lv_at hl 2 rfl) ?_
  refine va_calli (va_runV (As := []) (rest := [.int r0]) ⟨hx, hb, hml, hown, hts⟩ (c_X8_place l D κ m τ  _ eM) (cwV 0 hts (gwVL wt_788 wt_789 wt_790 wt_9 wt_791) rfl rfl rfl (by decide +kernel) ⟨Nat.le_of_ble_eq_true rfl, Nat.le_of_ble_eq_true rfl⟩) (MW_preV hK hM sg_gModel rfl) rfl rfl hl.1 rfl (lv_room (Nat.le_of_ble_eq_true rfl)) dL_243 ⟨Nat.le_of_ble_eq_true rfl, Nat.le_of_ble_eq_true rfl⟩) hS (fun _ _ h => Nat.le_trans hbm h.1) (fun _ h => Nat.le_trans hbm h.1) (fun r u t H locs ht _ hp hB _ hk1 hS => ?_)
  refine sg_topi (y := r0) hp.1 ?_
  have hM : MW D κ m τ H := MW_b hB ht hp.2
  have hC := CW_kept hm hC hk1
  exact lv_icmp_eq (tgt := 719) hx hb dL_246 (by decide) (fun _ => hk hJ hC hM hS) (fun hc => absurd rfl hc)
set_option maxHeartbeats 4000000 in
set_option maxRecDepth 100000 in
theorem lw_c5 {p : Program} {l : Launch} {e : Env} {s : State} {mm : MethodId} {below : List Frame} {meth : Method} {c : Code} {Q : State → Prop} {D : va_G} {κ : Nat → ClassId} {bs L b m qs vs : Nat} {xs : Nat → Int32} (hZ : sg_ZL p c s mm D κ bs L xs b m qs vs) {i : Int32} (h1 : vp_in (i + 1) L) (h2 : vp_in (i + 2) L) (h3 : vp_in (i + 3) L) (h4 : vp_in (i + 4) L) {σ τ : Sg} {H : Heap} {locs : List Loc} {ls : Array Slot} (hl : lv_has ls 4 [(0, .ref bs), (1, .ref b), (2, .ref m), (3, .int i)]) (hJ : JJ b σ m τ) (hC : CW D κ b σ H) (hM : MW D κ m τ H) (hS : va_S (fun z => b ≤ z) s.heap H locs) (hk : ∀ {σ' τ' : Sg} {H' : Heap} {locs' : List Loc}, JJ b σ' m τ' → CW D κ b σ' H' → MW D κ m τ' H' → va_S (fun z => b ≤ z) s.heap H' locs' → W p l e room_1 s mm #[Value.ref bs] below meth c H' locs' 908 20920 Q (F0 mm 719 ls [])) : W p l e room_1 s mm #[Value.ref bs] below meth c H locs 908 20920 Q (F0 mm 251 ls []) := by
  obtain ⟨hx, hb, hml, hown, hts, hK, hX, hbl, hbe, hm, hV⟩ := hZ
  have hbA : ¬ (b ≤ bs) := by omega
  have hbm : b ≤ m := by omega
  refine lv_aload_n hx hb dL_251 rfl (lv_at hl 1 rfl) ?_
  obtain ⟨r0, σ1, τ1, eC, eM, hJ⟩ := op_fresh hJ
  refine va_calli (va_runV (As := []) (rest := []) ⟨hx, hb, hml, hown, hts⟩ (c_X7_fresh l D κ b σ qs vs  _ eC) (cwV 0 hts (gwVL wt_437 wt_438 wt_439 wt_1 wt_440) rfl rfl rfl (by decide +kernel) ⟨Nat.le_of_ble_eq_true rfl, Nat.le_of_ble_eq_true rfl⟩) (CWL_preV hK hC hV hS sg_gShelf rfl) rfl rfl hl.1 rfl (lv_room (Nat.le_of_ble_eq_true rfl)) dL_252 ⟨Nat.le_of_ble_eq_true rfl, Nat.le_of_ble_eq_true rfl⟩) hS (fun _ _ h => h.1) (fun _ h => h.1) (fun r u t H locs ht _ hp hB _ hk1 hS => ?_)
  refine sg_topi (y := r0) hp.1 ?_
  have hC : CW D κ b σ1 H := CW_b hB ht hp.2
  have hM := MW_kept hm hM hk1
  refine lv_aload_n hx hb dL_255 rfl (lv_at hl 2 rfl) ?_
  refine va_calli (va_runV (As := []) (rest := [.int r0]) ⟨hx, hb, hml, hown, hts⟩ (c_X8_fresh l D κ m τ  _ eM) (cwV 0 hts (gwVL wt_792 wt_793 wt_794 wt_9 wt_795) rfl rfl rfl (by decide +kernel) ⟨Nat.le_of_ble_eq_true rfl, Nat.le_of_ble_eq_true rfl⟩) (MW_preV hK hM sg_gModel rfl) rfl rfl hl.1 rfl (lv_room (Nat.le_of_ble_eq_true rfl)) dL_256 ⟨Nat.le_of_ble_eq_true rfl, Nat.le_of_ble_eq_true rfl⟩) hS (fun _ _ h => Nat.le_trans hbm h.1) (fun _ h => Nat.le_trans hbm h.1) (fun r u t H locs ht _ hp hB _ hk1 hS => ?_)
  refine sg_topi (y := r0) hp.1 ?_
  have hM : MW D κ m τ1 H := MW_b hB ht hp.2
  have hC := CW_kept hm hC hk1
  exact lv_icmp_eq (tgt := 719) hx hb dL_259 (by decide) (fun _ => hk hJ hC hM hS) (fun hc => absurd rfl hc)
set_option maxHeartbeats 4000000 in
set_option maxRecDepth 100000 in
theorem lw_c6 {p : Program} {l : Launch} {e : Env} {s : State} {mm : MethodId} {below : List Frame} {meth : Method} {c : Code} {Q : State → Prop} {D : va_G} {κ : Nat → ClassId} {bs L b m qs vs : Nat} {xs : Nat → Int32} (hZ : sg_ZL p c s mm D κ bs L xs b m qs vs) {i : Int32} (h1 : vp_in (i + 1) L) (h2 : vp_in (i + 2) L) (h3 : vp_in (i + 3) L) (h4 : vp_in (i + 4) L) {σ τ : Sg} {H : Heap} {locs : List Loc} {ls : Array Slot} (hl : lv_has ls 4 [(0, .ref bs), (1, .ref b), (2, .ref m), (3, .int i)]) (hJ : JJ b σ m τ) (hC : CW D κ b σ H) (hM : MW D κ m τ H) (hS : va_S (fun z => b ≤ z) s.heap H locs) (hk : ∀ {σ' τ' : Sg} {H' : Heap} {locs' : List Loc}, JJ b σ' m τ' → CW D κ b σ' H' → MW D κ m τ' H' → va_S (fun z => b ≤ z) s.heap H' locs' → W p l e room_1 s mm #[Value.ref bs] below meth c H' locs' 908 20920 Q (F0 mm 719 ls [])) : W p l e room_1 s mm #[Value.ref bs] below meth c H locs 908 20920 Q (F0 mm 264 ls []) := by
  obtain ⟨hx, hb, hml, hown, hts, hK, hX, hbl, hbe, hm, hV⟩ := hZ
  have hbA : ¬ (b ≤ bs) := by omega
  have hbm : b ≤ m := by omega
  refine lv_aload_n hx hb dL_264 rfl (lv_at hl 1 rfl) ?_
  refine lv_aload_n hx hb dL_265 rfl (lv_at hl 0 rfl) ?_
  refine lv_iload_n hx hb dL_266 rfl (lv_at hl 3 rfl) ?_
  refine lv_iconst (v := 1) hx hb dL_267 (by decide) ?_
  refine lv_iadd hx hb dL_268 ?_
  refine va_sld hx hb hX hbl hbA hS h1 dL_269 ?_
  refine lv_aload_n hx hb dL_270 rfl (lv_at hl 0 rfl) ?_
  refine lv_iload_n hx hb dL_271 rfl (lv_at hl 3 rfl) ?_
  refine lv_iconst (v := 2) hx hb dL_272 (by decide) ?_
  refine lv_iadd hx hb dL_273 ?_
  refine va_sld hx hb hX hbl hbA hS h2 dL_274 ?_
  refine lv_aload_n hx hb dL_275 rfl (lv_at hl 0 rfl) ?_
  refine lv_iload_n hx hb dL_276 rfl (lv_at hl 3 rfl) ?_
  refine lv_iconst (v := 3) hx hb dL_277 (by decide) ?_
  refine lv_iadd hx hb dL_278 ?_
  refine va_sld hx hb hX hbl hbA hS h3 dL_279 ?_
  refine lv_i2c (v := (sg_c (xs (sg_x (i + 3))))) hx hb dL_280 rfl ?_
  refine lv_aload_n hx hb dL_281 rfl (lv_at hl 0 rfl) ?_
  refine lv_iload_n hx hb dL_282 rfl (lv_at hl 3 rfl) ?_
  refine lv_iconst (v := 4) hx hb dL_283 (by decide) ?_
  refine lv_iadd hx hb dL_284 ?_
  refine va_sld hx hb hX hbl hbA hS h4 dL_285 ?_
  refine lv_i2c (v := (sg_c (xs (sg_x (i + 4))))) hx hb dL_286 rfl ?_
  obtain ⟨r0, σ1, τ1, eC, eM, hJ⟩ := op_field hJ (xs (sg_x (i + 1))) (xs (sg_x (i + 2))) (sg_c (xs (sg_x (i + 3)))) (sg_c (xs (sg_x (i + 4)))) (sg_cc _) (sg_cc _)
  refine va_calli (va_runV (As := [.int (xs (sg_x (i + 1))), .int (xs (sg_x (i + 2))), .int (sg_c (xs (sg_x (i + 3)))), .int (sg_c (xs (sg_x (i + 4))))]) (rest := []) ⟨hx, hb, hml, hown, hts⟩ (c_X7_field l D κ b σ (xs (sg_x (i + 1))) (xs (sg_x (i + 2))) (sg_c (xs (sg_x (i + 3)))) (sg_c (xs (sg_x (i + 4)))) _ eC) (cwV 4 hts (gwVL wt_442 wt_443 wt_444 wt_1 wt_445) rfl rfl rfl (by decide +kernel) ⟨Nat.le_of_ble_eq_true rfl, Nat.le_of_ble_eq_true rfl⟩) (CW_preV hK hC sg_gShelf rfl) rfl rfl hl.1 rfl (lv_room (Nat.le_of_ble_eq_true rfl)) dL_287 ⟨Nat.le_of_ble_eq_true rfl, Nat.le_of_ble_eq_true rfl⟩) hS (fun _ _ h => h.1) (fun _ h => h.1) (fun r u t H locs ht _ hp hB _ hk1 hS => ?_)
  refine sg_topi (y := r0) hp.1 ?_
  have hC : CW D κ b σ1 H := CW_b hB ht hp.2
  have hM := MW_kept hm hM hk1
  refine lv_aload_n hx hb dL_290 rfl (lv_at hl 2 rfl) ?_
  refine lv_aload_n hx hb dL_291 rfl (lv_at hl 0 rfl) ?_
  refine lv_iload_n hx hb dL_292 rfl (lv_at hl 3 rfl) ?_
  refine lv_iconst (v := 1) hx hb dL_293 (by decide) ?_
  refine lv_iadd hx hb dL_294 ?_
  refine va_sld hx hb hX hbl hbA hS h1 dL_295 ?_
  refine lv_aload_n hx hb dL_296 rfl (lv_at hl 0 rfl) ?_
  refine lv_iload_n hx hb dL_297 rfl (lv_at hl 3 rfl) ?_
  refine lv_iconst (v := 2) hx hb dL_298 (by decide) ?_
  refine lv_iadd hx hb dL_299 ?_
  refine va_sld hx hb hX hbl hbA hS h2 dL_300 ?_
  refine lv_aload_n hx hb dL_301 rfl (lv_at hl 0 rfl) ?_
  refine lv_iload_n hx hb dL_302 rfl (lv_at hl 3 rfl) ?_
  refine lv_iconst (v := 3) hx hb dL_303 (by decide) ?_
  refine lv_iadd hx hb dL_304 ?_
  refine va_sld hx hb hX hbl hbA hS h3 dL_305 ?_
  refine lv_i2c (v := (sg_c (xs (sg_x (i + 3))))) hx hb dL_306 rfl ?_
  refine lv_aload_n hx hb dL_307 rfl (lv_at hl 0 rfl) ?_
  refine lv_iload_n hx hb dL_308 rfl (lv_at hl 3 rfl) ?_
  refine lv_iconst (v := 4) hx hb dL_309 (by decide) ?_
  refine lv_iadd hx hb dL_310 ?_
  refine va_sld hx hb hX hbl hbA hS h4 dL_311 ?_
  refine lv_i2c (v := (sg_c (xs (sg_x (i + 4))))) hx hb dL_312 rfl ?_
  refine va_calli (va_runV (As := [.int (xs (sg_x (i + 1))), .int (xs (sg_x (i + 2))), .int (sg_c (xs (sg_x (i + 3)))), .int (sg_c (xs (sg_x (i + 4))))]) (rest := [.int r0]) ⟨hx, hb, hml, hown, hts⟩ (c_X8_field l D κ m τ (xs (sg_x (i + 1))) (xs (sg_x (i + 2))) (sg_c (xs (sg_x (i + 3)))) (sg_c (xs (sg_x (i + 4)))) _ eM) (cwV 4 hts (gwVL wt_796 wt_797 wt_798 wt_9 wt_799) rfl rfl rfl (by decide +kernel) ⟨Nat.le_of_ble_eq_true rfl, Nat.le_of_ble_eq_true rfl⟩) (MW_preV hK hM sg_gModel rfl) rfl rfl hl.1 rfl (lv_room (Nat.le_of_ble_eq_true rfl)) dL_313 ⟨Nat.le_of_ble_eq_true rfl, Nat.le_of_ble_eq_true rfl⟩) hS (fun _ _ h => Nat.le_trans hbm h.1) (fun _ h => Nat.le_trans hbm h.1) (fun r u t H locs ht _ hp hB _ hk1 hS => ?_)
  refine sg_topi (y := r0) hp.1 ?_
  have hM : MW D κ m τ1 H := MW_b hB ht hp.2
  have hC := CW_kept hm hC hk1
  exact lv_icmp_eq (tgt := 719) hx hb dL_316 (by decide) (fun _ => hk hJ hC hM hS) (fun hc => absurd rfl hc)
set_option maxHeartbeats 4000000 in
set_option maxRecDepth 100000 in
theorem lw_c7 {p : Program} {l : Launch} {e : Env} {s : State} {mm : MethodId} {below : List Frame} {meth : Method} {c : Code} {Q : State → Prop} {D : va_G} {κ : Nat → ClassId} {bs L b m qs vs : Nat} {xs : Nat → Int32} (hZ : sg_ZL p c s mm D κ bs L xs b m qs vs) {i : Int32} (h1 : vp_in (i + 1) L) (h2 : vp_in (i + 2) L) (h3 : vp_in (i + 3) L) (h4 : vp_in (i + 4) L) {σ τ : Sg} {H : Heap} {locs : List Loc} {ls : Array Slot} (hl : lv_has ls 4 [(0, .ref bs), (1, .ref b), (2, .ref m), (3, .int i)]) (hJ : JJ b σ m τ) (hC : CW D κ b σ H) (hM : MW D κ m τ H) (hS : va_S (fun z => b ≤ z) s.heap H locs) (hk : ∀ {σ' τ' : Sg} {H' : Heap} {locs' : List Loc}, JJ b σ' m τ' → CW D κ b σ' H' → MW D κ m τ' H' → va_S (fun z => b ≤ z) s.heap H' locs' → W p l e room_1 s mm #[Value.ref bs] below meth c H' locs' 908 20920 Q (F0 mm 719 ls [])) : W p l e room_1 s mm #[Value.ref bs] below meth c H locs 908 20920 Q (F0 mm 321 ls []) := by
  obtain ⟨hx, hb, hml, hown, hts, hK, hX, hbl, hbe, hm, hV⟩ := hZ
  have hbA : ¬ (b ≤ bs) := by omega
  have hbm : b ≤ m := by omega
  refine lv_aload_n hx hb dL_321 rfl (lv_at hl 1 rfl) ?_
  refine lv_aload_n hx hb dL_322 rfl (lv_at hl 0 rfl) ?_
  refine lv_iload_n hx hb dL_323 rfl (lv_at hl 3 rfl) ?_
  refine lv_iconst (v := 1) hx hb dL_324 (by decide) ?_
  refine lv_iadd hx hb dL_325 ?_
  refine va_sld hx hb hX hbl hbA hS h1 dL_326 ?_
  refine lv_aload_n hx hb dL_327 rfl (lv_at hl 0 rfl) ?_
  refine lv_iload_n hx hb dL_328 rfl (lv_at hl 3 rfl) ?_
  refine lv_iconst (v := 2) hx hb dL_329 (by decide) ?_
  refine lv_iadd hx hb dL_330 ?_
  refine va_sld hx hb hX hbl hbA hS h2 dL_331 ?_
  refine lv_aload_n hx hb dL_332 rfl (lv_at hl 0 rfl) ?_
  refine lv_iload_n hx hb dL_333 rfl (lv_at hl 3 rfl) ?_
  refine lv_iconst (v := 3) hx hb dL_334 (by decide) ?_
  refine lv_iadd hx hb dL_335 ?_
  refine va_sld hx hb hX hbl hbA hS h3 dL_336 ?_
  refine lv_i2c (v := (sg_c (xs (sg_x (i + 3))))) hx hb dL_337 rfl ?_
  obtain ⟨r0, σ1, τ1, eC, eM, hJ⟩ := op_subfield hJ (xs (sg_x (i + 1))) (xs (sg_x (i + 2))) (sg_c (xs (sg_x (i + 3)))) (sg_cc _)
  refine va_calli (va_runV (As := [.int (xs (sg_x (i + 1))), .int (xs (sg_x (i + 2))), .int (sg_c (xs (sg_x (i + 3))))]) (rest := []) ⟨hx, hb, hml, hown, hts⟩ (c_X7_subfield l D κ b σ (xs (sg_x (i + 1))) (xs (sg_x (i + 2))) (sg_c (xs (sg_x (i + 3)))) _ eC) (cwV 3 hts (gwVL wt_457 wt_458 wt_459 wt_1 wt_460) rfl rfl rfl (by decide +kernel) ⟨Nat.le_of_ble_eq_true rfl, Nat.le_of_ble_eq_true rfl⟩) (CW_preV hK hC sg_gShelf rfl) rfl rfl hl.1 rfl (lv_room (Nat.le_of_ble_eq_true rfl)) dL_338 ⟨Nat.le_of_ble_eq_true rfl, Nat.le_of_ble_eq_true rfl⟩) hS (fun _ _ h => h.1) (fun _ h => h.1) (fun r u t H locs ht _ hp hB _ hk1 hS => ?_)
  refine sg_topi (y := r0) hp.1 ?_
  have hC : CW D κ b σ1 H := CW_b hB ht hp.2
  have hM := MW_kept hm hM hk1
  refine lv_aload_n hx hb dL_341 rfl (lv_at hl 2 rfl) ?_
  refine lv_aload_n hx hb dL_342 rfl (lv_at hl 0 rfl) ?_
  refine lv_iload_n hx hb dL_343 rfl (lv_at hl 3 rfl) ?_
  refine lv_iconst (v := 1) hx hb dL_344 (by decide) ?_
  refine lv_iadd hx hb dL_345 ?_
  refine va_sld hx hb hX hbl hbA hS h1 dL_346 ?_
  refine lv_aload_n hx hb dL_347 rfl (lv_at hl 0 rfl) ?_
  refine lv_iload_n hx hb dL_348 rfl (lv_at hl 3 rfl) ?_
  refine lv_iconst (v := 2) hx hb dL_349 (by decide) ?_
  refine lv_iadd hx hb dL_350 ?_
  refine va_sld hx hb hX hbl hbA hS h2 dL_351 ?_
  refine lv_aload_n hx hb dL_352 rfl (lv_at hl 0 rfl) ?_
  refine lv_iload_n hx hb dL_353 rfl (lv_at hl 3 rfl) ?_
  refine lv_iconst (v := 3) hx hb dL_354 (by decide) ?_
  refine lv_iadd hx hb dL_355 ?_
  refine va_sld hx hb hX hbl hbA hS h3 dL_356 ?_
  refine lv_i2c (v := (sg_c (xs (sg_x (i + 3))))) hx hb dL_357 rfl ?_
  refine va_calli (va_runV (As := [.int (xs (sg_x (i + 1))), .int (xs (sg_x (i + 2))), .int (sg_c (xs (sg_x (i + 3))))]) (rest := [.int r0]) ⟨hx, hb, hml, hown, hts⟩ (c_X8_subfield l D κ m τ (xs (sg_x (i + 1))) (xs (sg_x (i + 2))) (sg_c (xs (sg_x (i + 3)))) _ eM) (cwV 3 hts (gwVL wt_804 wt_805 wt_806 wt_9 wt_807) rfl rfl rfl (by decide +kernel) ⟨Nat.le_of_ble_eq_true rfl, Nat.le_of_ble_eq_true rfl⟩) (MW_preV hK hM sg_gModel rfl) rfl rfl hl.1 rfl (lv_room (Nat.le_of_ble_eq_true rfl)) dL_358 ⟨Nat.le_of_ble_eq_true rfl, Nat.le_of_ble_eq_true rfl⟩) hS (fun _ _ h => Nat.le_trans hbm h.1) (fun _ h => Nat.le_trans hbm h.1) (fun r u t H locs ht _ hp hB _ hk1 hS => ?_)
  refine sg_topi (y := r0) hp.1 ?_
  have hM : MW D κ m τ1 H := MW_b hB ht hp.2
  have hC := CW_kept hm hC hk1
  exact lv_icmp_eq (tgt := 719) hx hb dL_361 (by decide) (fun _ => hk hJ hC hM hS) (fun hc => absurd rfl hc)
set_option maxHeartbeats 4000000 in
set_option maxRecDepth 100000 in
theorem lw_c8 {p : Program} {l : Launch} {e : Env} {s : State} {mm : MethodId} {below : List Frame} {meth : Method} {c : Code} {Q : State → Prop} {D : va_G} {κ : Nat → ClassId} {bs L b m qs vs : Nat} {xs : Nat → Int32} (hZ : sg_ZL p c s mm D κ bs L xs b m qs vs) {i : Int32} (h1 : vp_in (i + 1) L) (h2 : vp_in (i + 2) L) (h3 : vp_in (i + 3) L) (h4 : vp_in (i + 4) L) {σ τ : Sg} {H : Heap} {locs : List Loc} {ls : Array Slot} (hl : lv_has ls 4 [(0, .ref bs), (1, .ref b), (2, .ref m), (3, .int i)]) (hJ : JJ b σ m τ) (hC : CW D κ b σ H) (hM : MW D κ m τ H) (hS : va_S (fun z => b ≤ z) s.heap H locs) (hk : ∀ {σ' τ' : Sg} {H' : Heap} {locs' : List Loc}, JJ b σ' m τ' → CW D κ b σ' H' → MW D κ m τ' H' → va_S (fun z => b ≤ z) s.heap H' locs' → W p l e room_1 s mm #[Value.ref bs] below meth c H' locs' 908 20920 Q (F0 mm 719 ls [])) : W p l e room_1 s mm #[Value.ref bs] below meth c H locs 908 20920 Q (F0 mm 366 ls []) := by
  obtain ⟨hx, hb, hml, hown, hts, hK, hX, hbl, hbe, hm, hV⟩ := hZ
  have hbA : ¬ (b ≤ bs) := by omega
  have hbm : b ≤ m := by omega
  refine lv_aload_n hx hb dL_366 rfl (lv_at hl 1 rfl) ?_
  refine lv_aload_n hx hb dL_367 rfl (lv_at hl 0 rfl) ?_
  refine lv_iload_n hx hb dL_368 rfl (lv_at hl 3 rfl) ?_
  refine lv_iconst (v := 1) hx hb dL_369 (by decide) ?_
  refine lv_iadd hx hb dL_370 ?_
  refine va_sld hx hb hX hbl hbA hS h1 dL_371 ?_
  refine lv_aload_n hx hb dL_372 rfl (lv_at hl 0 rfl) ?_
  refine lv_iload_n hx hb dL_373 rfl (lv_at hl 3 rfl) ?_
  refine lv_iconst (v := 2) hx hb dL_374 (by decide) ?_
  refine lv_iadd hx hb dL_375 ?_
  refine va_sld hx hb hX hbl hbA hS h2 dL_376 ?_
  refine lv_aload_n hx hb dL_377 rfl (lv_at hl 0 rfl) ?_
  refine lv_iload_n hx hb dL_378 rfl (lv_at hl 3 rfl) ?_
  refine lv_iconst (v := 3) hx hb dL_379 (by decide) ?_
  refine lv_iadd hx hb dL_380 ?_
  refine va_sld hx hb hX hbl hbA hS h3 dL_381 ?_
  refine lv_aload_n hx hb dL_382 rfl (lv_at hl 0 rfl) ?_
  refine lv_iload_n hx hb dL_383 rfl (lv_at hl 3 rfl) ?_
  refine lv_iconst (v := 4) hx hb dL_384 (by decide) ?_
  refine lv_iadd hx hb dL_385 ?_
  refine va_sld hx hb hX hbl hbA hS h4 dL_386 ?_
  refine lv_i2c (v := (sg_c (xs (sg_x (i + 4))))) hx hb dL_387 rfl ?_
  obtain ⟨r0, σ1, τ1, eC, eM, hJ⟩ := op_append hJ (xs (sg_x (i + 1))) (xs (sg_x (i + 2))) (xs (sg_x (i + 3))) (sg_c (xs (sg_x (i + 4)))) (sg_cc _)
  refine va_calli (va_runV (As := [.int (xs (sg_x (i + 1))), .int (xs (sg_x (i + 2))), .int (xs (sg_x (i + 3))), .int (sg_c (xs (sg_x (i + 4))))]) (rest := []) ⟨hx, hb, hml, hown, hts⟩ (c_X7_append l D κ b σ (xs (sg_x (i + 1))) (xs (sg_x (i + 2))) (xs (sg_x (i + 3))) (sg_c (xs (sg_x (i + 4)))) _ eC) (cwV 4 hts (gwVL wt_468 wt_469 wt_470 wt_1 wt_471) rfl rfl rfl (by decide +kernel) ⟨Nat.le_of_ble_eq_true rfl, Nat.le_of_ble_eq_true rfl⟩) (CW_preV hK hC sg_gShelf rfl) rfl rfl hl.1 rfl (lv_room (Nat.le_of_ble_eq_true rfl)) dL_388 ⟨Nat.le_of_ble_eq_true rfl, Nat.le_of_ble_eq_true rfl⟩) hS (fun _ _ h => h.1) (fun _ h => h.1) (fun r u t H locs ht _ hp hB _ hk1 hS => ?_)
  refine sg_topi (y := r0) hp.1 ?_
  have hC : CW D κ b σ1 H := CW_b hB ht hp.2
  have hM := MW_kept hm hM hk1
  refine lv_aload_n hx hb dL_391 rfl (lv_at hl 2 rfl) ?_
  refine lv_aload_n hx hb dL_392 rfl (lv_at hl 0 rfl) ?_
  refine lv_iload_n hx hb dL_393 rfl (lv_at hl 3 rfl) ?_
  refine lv_iconst (v := 1) hx hb dL_394 (by decide) ?_
  refine lv_iadd hx hb dL_395 ?_
  refine va_sld hx hb hX hbl hbA hS h1 dL_396 ?_
  refine lv_aload_n hx hb dL_397 rfl (lv_at hl 0 rfl) ?_
  refine lv_iload_n hx hb dL_398 rfl (lv_at hl 3 rfl) ?_
  refine lv_iconst (v := 2) hx hb dL_399 (by decide) ?_
  refine lv_iadd hx hb dL_400 ?_
  refine va_sld hx hb hX hbl hbA hS h2 dL_401 ?_
  refine lv_aload_n hx hb dL_402 rfl (lv_at hl 0 rfl) ?_
  refine lv_iload_n hx hb dL_403 rfl (lv_at hl 3 rfl) ?_
  refine lv_iconst (v := 3) hx hb dL_404 (by decide) ?_
  refine lv_iadd hx hb dL_405 ?_
  refine va_sld hx hb hX hbl hbA hS h3 dL_406 ?_
  refine lv_aload_n hx hb dL_407 rfl (lv_at hl 0 rfl) ?_
  refine lv_iload_n hx hb dL_408 rfl (lv_at hl 3 rfl) ?_
  refine lv_iconst (v := 4) hx hb dL_409 (by decide) ?_
  refine lv_iadd hx hb dL_410 ?_
  refine va_sld hx hb hX hbl hbA hS h4 dL_411 ?_
  refine lv_i2c (v := (sg_c (xs (sg_x (i + 4))))) hx hb dL_412 rfl ?_
  refine va_calli (va_runV (As := [.int (xs (sg_x (i + 1))), .int (xs (sg_x (i + 2))), .int (xs (sg_x (i + 3))), .int (sg_c (xs (sg_x (i + 4))))]) (rest := [.int r0]) ⟨hx, hb, hml, hown, hts⟩ (c_X8_append l D κ m τ (xs (sg_x (i + 1))) (xs (sg_x (i + 2))) (xs (sg_x (i + 3))) (sg_c (xs (sg_x (i + 4)))) _ eM) (cwV 4 hts (gwVL wt_812 wt_813 wt_814 wt_9 wt_815) rfl rfl rfl (by decide +kernel) ⟨Nat.le_of_ble_eq_true rfl, Nat.le_of_ble_eq_true rfl⟩) (MW_preV hK hM sg_gModel rfl) rfl rfl hl.1 rfl (lv_room (Nat.le_of_ble_eq_true rfl)) dL_413 ⟨Nat.le_of_ble_eq_true rfl, Nat.le_of_ble_eq_true rfl⟩) hS (fun _ _ h => Nat.le_trans hbm h.1) (fun _ h => Nat.le_trans hbm h.1) (fun r u t H locs ht _ hp hB _ hk1 hS => ?_)
  refine sg_topi (y := r0) hp.1 ?_
  have hM : MW D κ m τ1 H := MW_b hB ht hp.2
  have hC := CW_kept hm hC hk1
  exact lv_icmp_eq (tgt := 719) hx hb dL_416 (by decide) (fun _ => hk hJ hC hM hS) (fun hc => absurd rfl hc)
set_option maxHeartbeats 4000000 in
set_option maxRecDepth 100000 in
theorem lw_c9 {p : Program} {l : Launch} {e : Env} {s : State} {mm : MethodId} {below : List Frame} {meth : Method} {c : Code} {Q : State → Prop} {D : va_G} {κ : Nat → ClassId} {bs L b m qs vs : Nat} {xs : Nat → Int32} (hZ : sg_ZL p c s mm D κ bs L xs b m qs vs) {i : Int32} (h1 : vp_in (i + 1) L) (h2 : vp_in (i + 2) L) (h3 : vp_in (i + 3) L) (h4 : vp_in (i + 4) L) {σ τ : Sg} {H : Heap} {locs : List Loc} {ls : Array Slot} (hl : lv_has ls 4 [(0, .ref bs), (1, .ref b), (2, .ref m), (3, .int i)]) (hJ : JJ b σ m τ) (hC : CW D κ b σ H) (hM : MW D κ m τ H) (hS : va_S (fun z => b ≤ z) s.heap H locs) (hk : ∀ {σ' τ' : Sg} {H' : Heap} {locs' : List Loc}, JJ b σ' m τ' → CW D κ b σ' H' → MW D κ m τ' H' → va_S (fun z => b ≤ z) s.heap H' locs' → W p l e room_1 s mm #[Value.ref bs] below meth c H' locs' 908 20920 Q (F0 mm 719 ls [])) : W p l e room_1 s mm #[Value.ref bs] below meth c H locs 908 20920 Q (F0 mm 421 ls []) := by
  obtain ⟨hx, hb, hml, hown, hts, hK, hX, hbl, hbe, hm, hV⟩ := hZ
  have hbA : ¬ (b ≤ bs) := by omega
  have hbm : b ≤ m := by omega
  refine lv_aload_n hx hb dL_421 rfl (lv_at hl 1 rfl) ?_
  refine lv_aload_n hx hb dL_422 rfl (lv_at hl 0 rfl) ?_
  refine lv_iload_n hx hb dL_423 rfl (lv_at hl 3 rfl) ?_
  refine lv_iconst (v := 1) hx hb dL_424 (by decide) ?_
  refine lv_iadd hx hb dL_425 ?_
  refine va_sld hx hb hX hbl hbA hS h1 dL_426 ?_
  refine lv_aload_n hx hb dL_427 rfl (lv_at hl 0 rfl) ?_
  refine lv_iload_n hx hb dL_428 rfl (lv_at hl 3 rfl) ?_
  refine lv_iconst (v := 2) hx hb dL_429 (by decide) ?_
  refine lv_iadd hx hb dL_430 ?_
  refine va_sld hx hb hX hbl hbA hS h2 dL_431 ?_
  obtain ⟨r0, σ1, τ1, eC, eM, hJ⟩ := op_drop hJ (xs (sg_x (i + 1))) (xs (sg_x (i + 2)))
  refine va_calli (va_runV (As := [.int (xs (sg_x (i + 1))), .int (xs (sg_x (i + 2)))]) (rest := []) ⟨hx, hb, hml, hown, hts⟩ (c_X7_drop l D κ b σ (xs (sg_x (i + 1))) (xs (sg_x (i + 2))) _ eC) (cwV 2 hts (gwVL wt_479 wt_480 wt_481 wt_1 wt_482) rfl rfl rfl (by decide +kernel) ⟨Nat.le_of_ble_eq_true rfl, Nat.le_of_ble_eq_true rfl⟩) (CW_preV hK hC sg_gShelf rfl) rfl rfl hl.1 rfl (lv_room (Nat.le_of_ble_eq_true rfl)) dL_432 ⟨Nat.le_of_ble_eq_true rfl, Nat.le_of_ble_eq_true rfl⟩) hS (fun _ _ h => h.1) (fun _ h => h.1) (fun r u t H locs ht _ hp hB _ hk1 hS => ?_)
  refine sg_topi (y := r0) hp.1 ?_
  have hC : CW D κ b σ1 H := CW_b hB ht hp.2
  have hM := MW_kept hm hM hk1
  refine lv_aload_n hx hb dL_435 rfl (lv_at hl 2 rfl) ?_
  refine lv_aload_n hx hb dL_436 rfl (lv_at hl 0 rfl) ?_
  refine lv_iload_n hx hb dL_437 rfl (lv_at hl 3 rfl) ?_
  refine lv_iconst (v := 1) hx hb dL_438 (by decide) ?_
  refine lv_iadd hx hb dL_439 ?_
  refine va_sld hx hb hX hbl hbA hS h1 dL_440 ?_
  refine lv_aload_n hx hb dL_441 rfl (lv_at hl 0 rfl) ?_
  refine lv_iload_n hx hb dL_442 rfl (lv_at hl 3 rfl) ?_
  refine lv_iconst (v := 2) hx hb dL_443 (by decide) ?_
  refine lv_iadd hx hb dL_444 ?_
  refine va_sld hx hb hX hbl hbA hS h2 dL_445 ?_
  refine va_calli (va_runV (As := [.int (xs (sg_x (i + 1))), .int (xs (sg_x (i + 2)))]) (rest := [.int r0]) ⟨hx, hb, hml, hown, hts⟩ (c_X8_drop l D κ m τ (xs (sg_x (i + 1))) (xs (sg_x (i + 2))) _ eM) (cwV 2 hts (gwVL wt_820 wt_821 wt_822 wt_9 wt_823) rfl rfl rfl (by decide +kernel) ⟨Nat.le_of_ble_eq_true rfl, Nat.le_of_ble_eq_true rfl⟩) (MW_preV hK hM sg_gModel rfl) rfl rfl hl.1 rfl (lv_room (Nat.le_of_ble_eq_true rfl)) dL_446 ⟨Nat.le_of_ble_eq_true rfl, Nat.le_of_ble_eq_true rfl⟩) hS (fun _ _ h => Nat.le_trans hbm h.1) (fun _ h => Nat.le_trans hbm h.1) (fun r u t H locs ht _ hp hB _ hk1 hS => ?_)
  refine sg_topi (y := r0) hp.1 ?_
  have hM : MW D κ m τ1 H := MW_b hB ht hp.2
  have hC := CW_kept hm hC hk1
  exact lv_icmp_eq (tgt := 719) hx hb dL_449 (by decide) (fun _ => hk hJ hC hM hS) (fun hc => absurd rfl hc)
set_option maxHeartbeats 4000000 in
set_option maxRecDepth 100000 in
theorem lw_c10 {p : Program} {l : Launch} {e : Env} {s : State} {mm : MethodId} {below : List Frame} {meth : Method} {c : Code} {Q : State → Prop} {D : va_G} {κ : Nat → ClassId} {bs L b m qs vs : Nat} {xs : Nat → Int32} (hZ : sg_ZL p c s mm D κ bs L xs b m qs vs) {i : Int32} (h1 : vp_in (i + 1) L) (h2 : vp_in (i + 2) L) (h3 : vp_in (i + 3) L) (h4 : vp_in (i + 4) L) {σ τ : Sg} {H : Heap} {locs : List Loc} {ls : Array Slot} (hl : lv_has ls 4 [(0, .ref bs), (1, .ref b), (2, .ref m), (3, .int i)]) (hJ : JJ b σ m τ) (hC : CW D κ b σ H) (hM : MW D κ m τ H) (hS : va_S (fun z => b ≤ z) s.heap H locs) (hk : ∀ {σ' τ' : Sg} {H' : Heap} {locs' : List Loc}, JJ b σ' m τ' → CW D κ b σ' H' → MW D κ m τ' H' → va_S (fun z => b ≤ z) s.heap H' locs' → W p l e room_1 s mm #[Value.ref bs] below meth c H' locs' 908 20920 Q (F0 mm 719 ls [])) : W p l e room_1 s mm #[Value.ref bs] below meth c H locs 908 20920 Q (F0 mm 454 ls []) := by
  obtain ⟨hx, hb, hml, hown, hts, hK, hX, hbl, hbe, hm, hV⟩ := hZ
  have hbA : ¬ (b ≤ bs) := by omega
  have hbm : b ≤ m := by omega
  refine lv_aload_n hx hb dL_454 rfl (lv_at hl 1 rfl) ?_
  refine lv_aload_n hx hb dL_455 rfl (lv_at hl 0 rfl) ?_
  refine lv_iload_n hx hb dL_456 rfl (lv_at hl 3 rfl) ?_
  refine lv_iconst (v := 1) hx hb dL_457 (by decide) ?_
  refine lv_iadd hx hb dL_458 ?_
  refine va_sld hx hb hX hbl hbA hS h1 dL_459 ?_
  obtain ⟨r0, σ1, τ1, eC, eM, hJ⟩ := op_write hJ (xs (sg_x (i + 1)))
  refine va_calli (va_runV (As := [.int (xs (sg_x (i + 1)))]) (rest := []) ⟨hx, hb, hml, hown, hts⟩ (c_X7_write l D κ b σ (xs (sg_x (i + 1))) _ eC) (cwV 1 hts (gwVL wt_487 wt_488 wt_489 wt_1 wt_490) rfl rfl rfl (by decide +kernel) ⟨Nat.le_of_ble_eq_true rfl, Nat.le_of_ble_eq_true rfl⟩) (CW_preV hK hC sg_gShelf rfl) rfl rfl hl.1 rfl (lv_room (Nat.le_of_ble_eq_true rfl)) dL_460 ⟨Nat.le_of_ble_eq_true rfl, Nat.le_of_ble_eq_true rfl⟩) hS (fun _ _ h => h.1) (fun _ h => h.1) (fun r u t H locs ht _ hp hB _ hk1 hS => ?_)
  refine sg_topi (y := r0) hp.1 ?_
  have hC : CW D κ b σ1 H := CW_b hB ht hp.2
  have hM := MW_kept hm hM hk1
  refine lv_aload_n hx hb dL_463 rfl (lv_at hl 2 rfl) ?_
  refine lv_aload_n hx hb dL_464 rfl (lv_at hl 0 rfl) ?_
  refine lv_iload_n hx hb dL_465 rfl (lv_at hl 3 rfl) ?_
  refine lv_iconst (v := 1) hx hb dL_466 (by decide) ?_
  refine lv_iadd hx hb dL_467 ?_
  refine va_sld hx hb hX hbl hbA hS h1 dL_468 ?_
  refine va_calli (va_runV (As := [.int (xs (sg_x (i + 1)))]) (rest := [.int r0]) ⟨hx, hb, hml, hown, hts⟩ (c_X8_write l D κ m τ (xs (sg_x (i + 1))) _ eM) (cwV 1 hts (gwVL wt_824 wt_825 wt_826 wt_9 wt_827) rfl rfl rfl (by decide +kernel) ⟨Nat.le_of_ble_eq_true rfl, Nat.le_of_ble_eq_true rfl⟩) (MW_preV hK hM sg_gModel rfl) rfl rfl hl.1 rfl (lv_room (Nat.le_of_ble_eq_true rfl)) dL_469 ⟨Nat.le_of_ble_eq_true rfl, Nat.le_of_ble_eq_true rfl⟩) hS (fun _ _ h => Nat.le_trans hbm h.1) (fun _ h => Nat.le_trans hbm h.1) (fun r u t H locs ht _ hp hB _ hk1 hS => ?_)
  refine sg_topi (y := r0) hp.1 ?_
  have hM : MW D κ m τ1 H := MW_b hB ht hp.2
  have hC := CW_kept hm hC hk1
  exact lv_icmp_eq (tgt := 719) hx hb dL_472 (by decide) (fun _ => hk hJ hC hM hS) (fun hc => absurd rfl hc)
set_option maxHeartbeats 4000000 in
set_option maxRecDepth 100000 in
theorem lw_c11 {p : Program} {l : Launch} {e : Env} {s : State} {mm : MethodId} {below : List Frame} {meth : Method} {c : Code} {Q : State → Prop} {D : va_G} {κ : Nat → ClassId} {bs L b m qs vs : Nat} {xs : Nat → Int32} (hZ : sg_ZL p c s mm D κ bs L xs b m qs vs) {i : Int32} (h1 : vp_in (i + 1) L) (h2 : vp_in (i + 2) L) (h3 : vp_in (i + 3) L) (h4 : vp_in (i + 4) L) {σ τ : Sg} {H : Heap} {locs : List Loc} {ls : Array Slot} (hl : lv_has ls 4 [(0, .ref bs), (1, .ref b), (2, .ref m), (3, .int i)]) (hJ : JJ b σ m τ) (hC : CW D κ b σ H) (hM : MW D κ m τ H) (hS : va_S (fun z => b ≤ z) s.heap H locs) (hk : ∀ {σ' τ' : Sg} {H' : Heap} {locs' : List Loc}, JJ b σ' m τ' → CW D κ b σ' H' → MW D κ m τ' H' → va_S (fun z => b ≤ z) s.heap H' locs' → W p l e room_1 s mm #[Value.ref bs] below meth c H' locs' 908 20920 Q (F0 mm 719 ls [])) : W p l e room_1 s mm #[Value.ref bs] below meth c H locs 908 20920 Q (F0 mm 477 ls []) := by
  obtain ⟨hx, hb, hml, hown, hts, hK, hX, hbl, hbe, hm, hV⟩ := hZ
  have hbA : ¬ (b ≤ bs) := by omega
  have hbm : b ≤ m := by omega
  refine lv_aload_n hx hb dL_477 rfl (lv_at hl 1 rfl) ?_
  refine lv_aload_n hx hb dL_478 rfl (lv_at hl 0 rfl) ?_
  refine lv_iload_n hx hb dL_479 rfl (lv_at hl 3 rfl) ?_
  refine lv_iconst (v := 1) hx hb dL_480 (by decide) ?_
  refine lv_iadd hx hb dL_481 ?_
  refine va_sld hx hb hX hbl hbA hS h1 dL_482 ?_
  refine lv_aload_n hx hb dL_483 rfl (lv_at hl 0 rfl) ?_
  refine lv_iload_n hx hb dL_484 rfl (lv_at hl 3 rfl) ?_
  refine lv_iconst (v := 2) hx hb dL_485 (by decide) ?_
  refine lv_iadd hx hb dL_486 ?_
  refine va_sld hx hb hX hbl hbA hS h2 dL_487 ?_
  obtain ⟨r0, eC, eM⟩ := op_many hJ (xs (sg_x (i + 1))) (xs (sg_x (i + 2)))
  refine va_calli (va_runV (As := [.int (xs (sg_x (i + 1))), .int (xs (sg_x (i + 2)))]) (rest := []) ⟨hx, hb, hml, hown, hts⟩ (c_X7_many l D κ b σ (xs (sg_x (i + 1))) (xs (sg_x (i + 2))) _ eC) (cwV 2 hts (gwVL wt_542 wt_543 wt_544 wt_1 wt_545) rfl rfl rfl (by decide +kernel) ⟨Nat.le_of_ble_eq_true rfl, Nat.le_of_ble_eq_true rfl⟩) (CW_preV hK hC sg_gShelf rfl) rfl rfl hl.1 rfl (lv_room (Nat.le_of_ble_eq_true rfl)) dL_488 ⟨Nat.le_of_ble_eq_true rfl, Nat.le_of_ble_eq_true rfl⟩) hS (fun _ _ h => h.1) (fun _ h => h.1) (fun r u t H locs ht _ hp hB _ hk1 hS => ?_)
  refine sg_topi (y := r0) hp.1 ?_
  have hC : CW D κ b σ H := CW_b hB ht hp.2
  have hM := MW_kept hm hM hk1
  refine lv_aload_n hx hb dL_491 rfl (lv_at hl 2 rfl) ?_
  refine lv_aload_n hx hb dL_492 rfl (lv_at hl 0 rfl) ?_
  refine lv_iload_n hx hb dL_493 rfl (lv_at hl 3 rfl) ?_
  refine lv_iconst (v := 1) hx hb dL_494 (by decide) ?_
  refine lv_iadd hx hb dL_495 ?_
  refine va_sld hx hb hX hbl hbA hS h1 dL_496 ?_
  refine lv_aload_n hx hb dL_497 rfl (lv_at hl 0 rfl) ?_
  refine lv_iload_n hx hb dL_498 rfl (lv_at hl 3 rfl) ?_
  refine lv_iconst (v := 2) hx hb dL_499 (by decide) ?_
  refine lv_iadd hx hb dL_500 ?_
  refine va_sld hx hb hX hbl hbA hS h2 dL_501 ?_
  refine va_calli (va_runV (As := [.int (xs (sg_x (i + 1))), .int (xs (sg_x (i + 2)))]) (rest := [.int r0]) ⟨hx, hb, hml, hown, hts⟩ (c_X8_many l D κ m τ (xs (sg_x (i + 1))) (xs (sg_x (i + 2))) _ eM) (cwV 2 hts (gwVL wt_840 wt_841 wt_842 wt_9 wt_843) rfl rfl rfl (by decide +kernel) ⟨Nat.le_of_ble_eq_true rfl, Nat.le_of_ble_eq_true rfl⟩) (MW_preV hK hM sg_gModel rfl) rfl rfl hl.1 rfl (lv_room (Nat.le_of_ble_eq_true rfl)) dL_502 ⟨Nat.le_of_ble_eq_true rfl, Nat.le_of_ble_eq_true rfl⟩) hS (fun _ _ h => Nat.le_trans hbm h.1) (fun _ h => Nat.le_trans hbm h.1) (fun r u t H locs ht _ hp hB _ hk1 hS => ?_)
  refine sg_topi (y := r0) hp.1 ?_
  have hM : MW D κ m τ H := MW_b hB ht hp.2
  have hC := CW_kept hm hC hk1
  exact lv_icmp_eq (tgt := 719) hx hb dL_505 (by decide) (fun _ => hk hJ hC hM hS) (fun hc => absurd rfl hc)
set_option maxHeartbeats 4000000 in
set_option maxRecDepth 100000 in
theorem lw_c12 {p : Program} {l : Launch} {e : Env} {s : State} {mm : MethodId} {below : List Frame} {meth : Method} {c : Code} {Q : State → Prop} {D : va_G} {κ : Nat → ClassId} {bs L b m qs vs : Nat} {xs : Nat → Int32} (hZ : sg_ZL p c s mm D κ bs L xs b m qs vs) {i : Int32} (h1 : vp_in (i + 1) L) (h2 : vp_in (i + 2) L) (h3 : vp_in (i + 3) L) (h4 : vp_in (i + 4) L) {σ τ : Sg} {H : Heap} {locs : List Loc} {ls : Array Slot} (hl : lv_has ls 4 [(0, .ref bs), (1, .ref b), (2, .ref m), (3, .int i)]) (hJ : JJ b σ m τ) (hC : CW D κ b σ H) (hM : MW D κ m τ H) (hS : va_S (fun z => b ≤ z) s.heap H locs) (hk : ∀ {σ' τ' : Sg} {H' : Heap} {locs' : List Loc}, JJ b σ' m τ' → CW D κ b σ' H' → MW D κ m τ' H' → va_S (fun z => b ≤ z) s.heap H' locs' → W p l e room_1 s mm #[Value.ref bs] below meth c H' locs' 908 20920 Q (F0 mm 719 ls [])) : W p l e room_1 s mm #[Value.ref bs] below meth c H locs 908 20920 Q (F0 mm 510 ls []) := by
  obtain ⟨hx, hb, hml, hown, hts, hK, hX, hbl, hbe, hm, hV⟩ := hZ
  have hbA : ¬ (b ≤ bs) := by omega
  have hbm : b ≤ m := by omega
  refine lv_aload_n hx hb dL_510 rfl (lv_at hl 1 rfl) ?_
  refine lv_aload_n hx hb dL_511 rfl (lv_at hl 0 rfl) ?_
  refine lv_iload_n hx hb dL_512 rfl (lv_at hl 3 rfl) ?_
  refine lv_iconst (v := 1) hx hb dL_513 (by decide) ?_
  refine lv_iadd hx hb dL_514 ?_
  refine va_sld hx hb hX hbl hbA hS h1 dL_515 ?_
  refine lv_aload_n hx hb dL_516 rfl (lv_at hl 0 rfl) ?_
  refine lv_iload_n hx hb dL_517 rfl (lv_at hl 3 rfl) ?_
  refine lv_iconst (v := 2) hx hb dL_518 (by decide) ?_
  refine lv_iadd hx hb dL_519 ?_
  refine va_sld hx hb hX hbl hbA hS h2 dL_520 ?_
  refine lv_aload_n hx hb dL_521 rfl (lv_at hl 0 rfl) ?_
  refine lv_iload_n hx hb dL_522 rfl (lv_at hl 3 rfl) ?_
  refine lv_iconst (v := 3) hx hb dL_523 (by decide) ?_
  refine lv_iadd hx hb dL_524 ?_
  refine va_sld hx hb hX hbl hbA hS h3 dL_525 ?_
  obtain ⟨r0, eC, eM⟩ := op_mark hJ (xs (sg_x (i + 1))) (xs (sg_x (i + 2))) (xs (sg_x (i + 3)))
  refine va_calli (va_runV (As := [.int (xs (sg_x (i + 1))), .int (xs (sg_x (i + 2))), .int (xs (sg_x (i + 3)))]) (rest := []) ⟨hx, hb, hml, hown, hts⟩ (c_X7_mark l D κ b σ (xs (sg_x (i + 1))) (xs (sg_x (i + 2))) (xs (sg_x (i + 3))) _ eC) (cwV 3 hts (gwVL wt_546 wt_547 wt_548 wt_1 wt_549) rfl rfl rfl (by decide +kernel) ⟨Nat.le_of_ble_eq_true rfl, Nat.le_of_ble_eq_true rfl⟩) (CW_preV hK hC sg_gShelf rfl) rfl rfl hl.1 rfl (lv_room (Nat.le_of_ble_eq_true rfl)) dL_526 ⟨Nat.le_of_ble_eq_true rfl, Nat.le_of_ble_eq_true rfl⟩) hS (fun _ _ h => h.1) (fun _ h => h.1) (fun r u t H locs ht _ hp hB _ hk1 hS => ?_)
  refine sg_topi (y := r0) hp.1 ?_
  have hC : CW D κ b σ H := CW_b hB ht hp.2
  have hM := MW_kept hm hM hk1
  refine lv_aload_n hx hb dL_529 rfl (lv_at hl 2 rfl) ?_
  refine lv_aload_n hx hb dL_530 rfl (lv_at hl 0 rfl) ?_
  refine lv_iload_n hx hb dL_531 rfl (lv_at hl 3 rfl) ?_
  refine lv_iconst (v := 1) hx hb dL_532 (by decide) ?_
  refine lv_iadd hx hb dL_533 ?_
  refine va_sld hx hb hX hbl hbA hS h1 dL_534 ?_
  refine lv_aload_n hx hb dL_535 rfl (lv_at hl 0 rfl) ?_
  refine lv_iload_n hx hb dL_536 rfl (lv_at hl 3 rfl) ?_
  refine lv_iconst (v := 2) hx hb dL_537 (by decide) ?_
  refine lv_iadd hx hb dL_538 ?_
  refine va_sld hx hb hX hbl hbA hS h2 dL_539 ?_
  refine lv_aload_n hx hb dL_540 rfl (lv_at hl 0 rfl) ?_
  refine lv_iload_n hx hb dL_541 rfl (lv_at hl 3 rfl) ?_
  refine lv_iconst (v := 3) hx hb dL_542 (by decide) ?_
  refine lv_iadd hx hb dL_543 ?_
  refine va_sld hx hb hX hbl hbA hS h3 dL_544 ?_
  refine va_calli (va_runV (As := [.int (xs (sg_x (i + 1))), .int (xs (sg_x (i + 2))), .int (xs (sg_x (i + 3)))]) (rest := [.int r0]) ⟨hx, hb, hml, hown, hts⟩ (c_X8_mark l D κ m τ (xs (sg_x (i + 1))) (xs (sg_x (i + 2))) (xs (sg_x (i + 3))) _ eM) (cwV 3 hts (gwVL wt_844 wt_845 wt_846 wt_9 wt_847) rfl rfl rfl (by decide +kernel) ⟨Nat.le_of_ble_eq_true rfl, Nat.le_of_ble_eq_true rfl⟩) (MW_preV hK hM sg_gModel rfl) rfl rfl hl.1 rfl (lv_room (Nat.le_of_ble_eq_true rfl)) dL_545 ⟨Nat.le_of_ble_eq_true rfl, Nat.le_of_ble_eq_true rfl⟩) hS (fun _ _ h => Nat.le_trans hbm h.1) (fun _ h => Nat.le_trans hbm h.1) (fun r u t H locs ht _ hp hB _ hk1 hS => ?_)
  refine sg_topi (y := r0) hp.1 ?_
  have hM : MW D κ m τ H := MW_b hB ht hp.2
  have hC := CW_kept hm hC hk1
  exact lv_icmp_eq (tgt := 719) hx hb dL_548 (by decide) (fun _ => hk hJ hC hM hS) (fun hc => absurd rfl hc)
set_option maxHeartbeats 4000000 in
set_option maxRecDepth 100000 in
theorem lw_c13 {p : Program} {l : Launch} {e : Env} {s : State} {mm : MethodId} {below : List Frame} {meth : Method} {c : Code} {Q : State → Prop} {D : va_G} {κ : Nat → ClassId} {bs L b m qs vs : Nat} {xs : Nat → Int32} (hZ : sg_ZL p c s mm D κ bs L xs b m qs vs) {i : Int32} (h1 : vp_in (i + 1) L) (h2 : vp_in (i + 2) L) (h3 : vp_in (i + 3) L) (h4 : vp_in (i + 4) L) {σ τ : Sg} {H : Heap} {locs : List Loc} {ls : Array Slot} (hl : lv_has ls 4 [(0, .ref bs), (1, .ref b), (2, .ref m), (3, .int i)]) (hJ : JJ b σ m τ) (hC : CW D κ b σ H) (hM : MW D κ m τ H) (hS : va_S (fun z => b ≤ z) s.heap H locs) (hk : ∀ {σ' τ' : Sg} {H' : Heap} {locs' : List Loc}, JJ b σ' m τ' → CW D κ b σ' H' → MW D κ m τ' H' → va_S (fun z => b ≤ z) s.heap H' locs' → W p l e room_1 s mm #[Value.ref bs] below meth c H' locs' 908 20920 Q (F0 mm 719 ls [])) : W p l e room_1 s mm #[Value.ref bs] below meth c H locs 908 20920 Q (F0 mm 553 ls []) := by
  obtain ⟨hx, hb, hml, hown, hts, hK, hX, hbl, hbe, hm, hV⟩ := hZ
  have hbA : ¬ (b ≤ bs) := by omega
  have hbm : b ≤ m := by omega
  refine lv_aload_n hx hb dL_553 rfl (lv_at hl 1 rfl) ?_
  refine lv_aload_n hx hb dL_554 rfl (lv_at hl 0 rfl) ?_
  refine lv_iload_n hx hb dL_555 rfl (lv_at hl 3 rfl) ?_
  refine lv_iconst (v := 1) hx hb dL_556 (by decide) ?_
  refine lv_iadd hx hb dL_557 ?_
  refine va_sld hx hb hX hbl hbA hS h1 dL_558 ?_
  refine lv_aload_n hx hb dL_559 rfl (lv_at hl 0 rfl) ?_
  refine lv_iload_n hx hb dL_560 rfl (lv_at hl 3 rfl) ?_
  refine lv_iconst (v := 2) hx hb dL_561 (by decide) ?_
  refine lv_iadd hx hb dL_562 ?_
  refine va_sld hx hb hX hbl hbA hS h2 dL_563 ?_
  refine lv_aload_n hx hb dL_564 rfl (lv_at hl 0 rfl) ?_
  refine lv_iload_n hx hb dL_565 rfl (lv_at hl 3 rfl) ?_
  refine lv_iconst (v := 3) hx hb dL_566 (by decide) ?_
  refine lv_iadd hx hb dL_567 ?_
  refine va_sld hx hb hX hbl hbA hS h3 dL_568 ?_
  refine lv_aload_n hx hb dL_569 rfl (lv_at hl 0 rfl) ?_
  refine lv_iload_n hx hb dL_570 rfl (lv_at hl 3 rfl) ?_
  refine lv_iconst (v := 4) hx hb dL_571 (by decide) ?_
  refine lv_iadd hx hb dL_572 ?_
  refine va_sld hx hb hX hbl hbA hS h4 dL_573 ?_
  obtain ⟨r0, eC, eM⟩ := op_shown hJ (xs (sg_x (i + 1))) (xs (sg_x (i + 2))) (xs (sg_x (i + 3))) (xs (sg_x (i + 4)))
  refine va_calli (va_runV (As := [.int (xs (sg_x (i + 1))), .int (xs (sg_x (i + 2))), .int (xs (sg_x (i + 3))), .int (xs (sg_x (i + 4)))]) (rest := []) ⟨hx, hb, hml, hown, hts⟩ (c_X7_shown l D κ b σ (xs (sg_x (i + 1))) (xs (sg_x (i + 2))) (xs (sg_x (i + 3))) (xs (sg_x (i + 4))) _ eC) (cwV 4 hts (gwVL wt_550 wt_551 wt_552 wt_1 wt_553) rfl rfl rfl (by decide +kernel) ⟨Nat.le_of_ble_eq_true rfl, Nat.le_of_ble_eq_true rfl⟩) (CW_preV hK hC sg_gShelf rfl) rfl rfl hl.1 rfl (lv_room (Nat.le_of_ble_eq_true rfl)) dL_574 ⟨Nat.le_of_ble_eq_true rfl, Nat.le_of_ble_eq_true rfl⟩) hS (fun _ _ h => h.1) (fun _ h => h.1) (fun r u t H locs ht _ hp hB _ hk1 hS => ?_)
  refine sg_topi (y := r0) hp.1 ?_
  have hC : CW D κ b σ H := CW_b hB ht hp.2
  have hM := MW_kept hm hM hk1
  refine lv_aload_n hx hb dL_577 rfl (lv_at hl 2 rfl) ?_
  refine lv_aload_n hx hb dL_578 rfl (lv_at hl 0 rfl) ?_
  refine lv_iload_n hx hb dL_579 rfl (lv_at hl 3 rfl) ?_
  refine lv_iconst (v := 1) hx hb dL_580 (by decide) ?_
  refine lv_iadd hx hb dL_581 ?_
  refine va_sld hx hb hX hbl hbA hS h1 dL_582 ?_
  refine lv_aload_n hx hb dL_583 rfl (lv_at hl 0 rfl) ?_
  refine lv_iload_n hx hb dL_584 rfl (lv_at hl 3 rfl) ?_
  refine lv_iconst (v := 2) hx hb dL_585 (by decide) ?_
  refine lv_iadd hx hb dL_586 ?_
  refine va_sld hx hb hX hbl hbA hS h2 dL_587 ?_
  refine lv_aload_n hx hb dL_588 rfl (lv_at hl 0 rfl) ?_
  refine lv_iload_n hx hb dL_589 rfl (lv_at hl 3 rfl) ?_
  refine lv_iconst (v := 3) hx hb dL_590 (by decide) ?_
  refine lv_iadd hx hb dL_591 ?_
  refine va_sld hx hb hX hbl hbA hS h3 dL_592 ?_
  refine lv_aload_n hx hb dL_593 rfl (lv_at hl 0 rfl) ?_
  refine lv_iload_n hx hb dL_594 rfl (lv_at hl 3 rfl) ?_
  refine lv_iconst (v := 4) hx hb dL_595 (by decide) ?_
  refine lv_iadd hx hb dL_596 ?_
  refine va_sld hx hb hX hbl hbA hS h4 dL_597 ?_
  refine va_calli (va_runV (As := [.int (xs (sg_x (i + 1))), .int (xs (sg_x (i + 2))), .int (xs (sg_x (i + 3))), .int (xs (sg_x (i + 4)))]) (rest := [.int r0]) ⟨hx, hb, hml, hown, hts⟩ (c_X8_shown l D κ m τ (xs (sg_x (i + 1))) (xs (sg_x (i + 2))) (xs (sg_x (i + 3))) (xs (sg_x (i + 4))) _ eM) (cwV 4 hts (gwVL wt_848 wt_849 wt_850 wt_9 wt_851) rfl rfl rfl (by decide +kernel) ⟨Nat.le_of_ble_eq_true rfl, Nat.le_of_ble_eq_true rfl⟩) (MW_preV hK hM sg_gModel rfl) rfl rfl hl.1 rfl (lv_room (Nat.le_of_ble_eq_true rfl)) dL_598 ⟨Nat.le_of_ble_eq_true rfl, Nat.le_of_ble_eq_true rfl⟩) hS (fun _ _ h => Nat.le_trans hbm h.1) (fun _ h => Nat.le_trans hbm h.1) (fun r u t H locs ht _ hp hB _ hk1 hS => ?_)
  refine sg_topi (y := r0) hp.1 ?_
  have hM : MW D κ m τ H := MW_b hB ht hp.2
  have hC := CW_kept hm hC hk1
  exact lv_icmp_eq (tgt := 719) hx hb dL_601 (by decide) (fun _ => hk hJ hC hM hS) (fun hc => absurd rfl hc)
set_option maxHeartbeats 4000000 in
set_option maxRecDepth 100000 in
theorem lw_c14 {p : Program} {l : Launch} {e : Env} {s : State} {mm : MethodId} {below : List Frame} {meth : Method} {c : Code} {Q : State → Prop} {D : va_G} {κ : Nat → ClassId} {bs L b m qs vs : Nat} {xs : Nat → Int32} (hZ : sg_ZL p c s mm D κ bs L xs b m qs vs) {i : Int32} (h1 : vp_in (i + 1) L) (h2 : vp_in (i + 2) L) (h3 : vp_in (i + 3) L) (h4 : vp_in (i + 4) L) {σ τ : Sg} {H : Heap} {locs : List Loc} {ls : Array Slot} (hl : lv_has ls 4 [(0, .ref bs), (1, .ref b), (2, .ref m), (3, .int i)]) (hJ : JJ b σ m τ) (hC : CW D κ b σ H) (hM : MW D κ m τ H) (hS : va_S (fun z => b ≤ z) s.heap H locs) (hk : ∀ {σ' τ' : Sg} {H' : Heap} {locs' : List Loc}, JJ b σ' m τ' → CW D κ b σ' H' → MW D κ m τ' H' → va_S (fun z => b ≤ z) s.heap H' locs' → W p l e room_1 s mm #[Value.ref bs] below meth c H' locs' 908 20920 Q (F0 mm 719 ls [])) : W p l e room_1 s mm #[Value.ref bs] below meth c H locs 908 20920 Q (F0 mm 606 ls []) := by
  obtain ⟨hx, hb, hml, hown, hts, hK, hX, hbl, hbe, hm, hV⟩ := hZ
  have hbA : ¬ (b ≤ bs) := by omega
  have hbm : b ≤ m := by omega
  refine lv_aload_n hx hb dL_606 rfl (lv_at hl 1 rfl) ?_
  refine lv_aload_n hx hb dL_607 rfl (lv_at hl 0 rfl) ?_
  refine lv_iload_n hx hb dL_608 rfl (lv_at hl 3 rfl) ?_
  refine lv_iconst (v := 1) hx hb dL_609 (by decide) ?_
  refine lv_iadd hx hb dL_610 ?_
  refine va_sld hx hb hX hbl hbA hS h1 dL_611 ?_
  refine lv_aload_n hx hb dL_612 rfl (lv_at hl 0 rfl) ?_
  refine lv_iload_n hx hb dL_613 rfl (lv_at hl 3 rfl) ?_
  refine lv_iconst (v := 2) hx hb dL_614 (by decide) ?_
  refine lv_iadd hx hb dL_615 ?_
  refine va_sld hx hb hX hbl hbA hS h2 dL_616 ?_
  refine lv_i2c (v := (sg_c (xs (sg_x (i + 2))))) hx hb dL_617 rfl ?_
  obtain ⟨r0, σ1, τ1, eC, eM, hJ⟩ := op_list hJ (xs (sg_x (i + 1))) (sg_c (xs (sg_x (i + 2)))) (sg_cc _)
  refine va_calli (va_runV (As := [.int (xs (sg_x (i + 1))), .int (sg_c (xs (sg_x (i + 2))))]) (rest := []) ⟨hx, hb, hml, hown, hts⟩ (c_X7_list l D κ b σ (xs (sg_x (i + 1))) (sg_c (xs (sg_x (i + 2)))) _ eC) (cwV 2 hts (gwVL wt_558 wt_559 wt_560 wt_1 wt_561) rfl rfl rfl (by decide +kernel) ⟨Nat.le_of_ble_eq_true rfl, Nat.le_of_ble_eq_true rfl⟩) (CW_preV hK hC sg_gShelf rfl) rfl rfl hl.1 rfl (lv_room (Nat.le_of_ble_eq_true rfl)) dL_618 ⟨Nat.le_of_ble_eq_true rfl, Nat.le_of_ble_eq_true rfl⟩) hS (fun _ _ h => h.1) (fun _ h => h.1) (fun r u t H locs ht _ hp hB _ hk1 hS => ?_)
  refine sg_topi (y := r0) hp.1 ?_
  have hC : CW D κ b σ1 H := CW_b hB ht hp.2
  have hM := MW_kept hm hM hk1
  refine lv_aload_n hx hb dL_621 rfl (lv_at hl 2 rfl) ?_
  refine lv_aload_n hx hb dL_622 rfl (lv_at hl 0 rfl) ?_
  refine lv_iload_n hx hb dL_623 rfl (lv_at hl 3 rfl) ?_
  refine lv_iconst (v := 1) hx hb dL_624 (by decide) ?_
  refine lv_iadd hx hb dL_625 ?_
  refine va_sld hx hb hX hbl hbA hS h1 dL_626 ?_
  refine lv_aload_n hx hb dL_627 rfl (lv_at hl 0 rfl) ?_
  refine lv_iload_n hx hb dL_628 rfl (lv_at hl 3 rfl) ?_
  refine lv_iconst (v := 2) hx hb dL_629 (by decide) ?_
  refine lv_iadd hx hb dL_630 ?_
  refine va_sld hx hb hX hbl hbA hS h2 dL_631 ?_
  refine lv_i2c (v := (sg_c (xs (sg_x (i + 2))))) hx hb dL_632 rfl ?_
  refine va_calli (va_runV (As := [.int (xs (sg_x (i + 1))), .int (sg_c (xs (sg_x (i + 2))))]) (rest := [.int r0]) ⟨hx, hb, hml, hown, hts⟩ (c_X8_list l D κ m τ (xs (sg_x (i + 1))) (sg_c (xs (sg_x (i + 2)))) _ eM) (cwV 2 hts (gwVL wt_852 wt_853 wt_854 wt_9 wt_855) rfl rfl rfl (by decide +kernel) ⟨Nat.le_of_ble_eq_true rfl, Nat.le_of_ble_eq_true rfl⟩) (MW_preV hK hM sg_gModel rfl) rfl rfl hl.1 rfl (lv_room (Nat.le_of_ble_eq_true rfl)) dL_633 ⟨Nat.le_of_ble_eq_true rfl, Nat.le_of_ble_eq_true rfl⟩) hS (fun _ _ h => Nat.le_trans hbm h.1) (fun _ h => Nat.le_trans hbm h.1) (fun r u t H locs ht _ hp hB _ hk1 hS => ?_)
  refine sg_topi (y := r0) hp.1 ?_
  have hM : MW D κ m τ1 H := MW_b hB ht hp.2
  have hC := CW_kept hm hC hk1
  exact lv_icmp_eq (tgt := 719) hx hb dL_636 (by decide) (fun _ => hk hJ hC hM hS) (fun hc => absurd rfl hc)
set_option maxHeartbeats 4000000 in
set_option maxRecDepth 100000 in
theorem lw_c15 {p : Program} {l : Launch} {e : Env} {s : State} {mm : MethodId} {below : List Frame} {meth : Method} {c : Code} {Q : State → Prop} {D : va_G} {κ : Nat → ClassId} {bs L b m qs vs : Nat} {xs : Nat → Int32} (hZ : sg_ZL p c s mm D κ bs L xs b m qs vs) {i : Int32} (h1 : vp_in (i + 1) L) (h2 : vp_in (i + 2) L) (h3 : vp_in (i + 3) L) (h4 : vp_in (i + 4) L) {σ τ : Sg} {H : Heap} {locs : List Loc} {ls : Array Slot} (hl : lv_has ls 4 [(0, .ref bs), (1, .ref b), (2, .ref m), (3, .int i)]) (hJ : JJ b σ m τ) (hC : CW D κ b σ H) (hM : MW D κ m τ H) (hS : va_S (fun z => b ≤ z) s.heap H locs) (hk : ∀ {σ' τ' : Sg} {H' : Heap} {locs' : List Loc}, JJ b σ' m τ' → CW D κ b σ' H' → MW D κ m τ' H' → va_S (fun z => b ≤ z) s.heap H' locs' → W p l e room_1 s mm #[Value.ref bs] below meth c H' locs' 908 20920 Q (F0 mm 719 ls [])) : W p l e room_1 s mm #[Value.ref bs] below meth c H locs 908 20920 Q (F0 mm 641 ls []) := by
  obtain ⟨hx, hb, hml, hown, hts, hK, hX, hbl, hbe, hm, hV⟩ := hZ
  have hbA : ¬ (b ≤ bs) := by omega
  have hbm : b ≤ m := by omega
  refine lv_aload_n hx hb dL_641 rfl (lv_at hl 1 rfl) ?_
  refine lv_aload_n hx hb dL_642 rfl (lv_at hl 0 rfl) ?_
  refine lv_iload_n hx hb dL_643 rfl (lv_at hl 3 rfl) ?_
  refine lv_iconst (v := 1) hx hb dL_644 (by decide) ?_
  refine lv_iadd hx hb dL_645 ?_
  refine va_sld hx hb hX hbl hbA hS h1 dL_646 ?_
  refine lv_aload_n hx hb dL_647 rfl (lv_at hl 0 rfl) ?_
  refine lv_iload_n hx hb dL_648 rfl (lv_at hl 3 rfl) ?_
  refine lv_iconst (v := 2) hx hb dL_649 (by decide) ?_
  refine lv_iadd hx hb dL_650 ?_
  refine va_sld hx hb hX hbl hbA hS h2 dL_651 ?_
  obtain ⟨r0, eC, eM⟩ := op_heading hJ (xs (sg_x (i + 1))) (xs (sg_x (i + 2)))
  refine va_calli (va_runV (As := [.int (xs (sg_x (i + 1))), .int (xs (sg_x (i + 2)))]) (rest := []) ⟨hx, hb, hml, hown, hts⟩ (c_X7_heading l D κ b σ (xs (sg_x (i + 1))) (xs (sg_x (i + 2))) _ eC) (cwV 2 hts (gwVL wt_602 wt_603 wt_604 wt_1 wt_605) rfl rfl rfl (by decide +kernel) ⟨Nat.le_of_ble_eq_true rfl, Nat.le_of_ble_eq_true rfl⟩) (CW_preV hK hC sg_gShelf rfl) rfl rfl hl.1 rfl (lv_room (Nat.le_of_ble_eq_true rfl)) dL_652 ⟨Nat.le_of_ble_eq_true rfl, Nat.le_of_ble_eq_true rfl⟩) hS (fun _ _ h => h.1) (fun _ h => h.1) (fun r u t H locs ht _ hp hB _ hk1 hS => ?_)
  refine sg_topi (y := r0) hp.1 ?_
  have hC : CW D κ b σ H := CW_b hB ht hp.2
  have hM := MW_kept hm hM hk1
  refine lv_aload_n hx hb dL_655 rfl (lv_at hl 2 rfl) ?_
  refine lv_aload_n hx hb dL_656 rfl (lv_at hl 0 rfl) ?_
  refine lv_iload_n hx hb dL_657 rfl (lv_at hl 3 rfl) ?_
  refine lv_iconst (v := 1) hx hb dL_658 (by decide) ?_
  refine lv_iadd hx hb dL_659 ?_
  refine va_sld hx hb hX hbl hbA hS h1 dL_660 ?_
  refine lv_aload_n hx hb dL_661 rfl (lv_at hl 0 rfl) ?_
  refine lv_iload_n hx hb dL_662 rfl (lv_at hl 3 rfl) ?_
  refine lv_iconst (v := 2) hx hb dL_663 (by decide) ?_
  refine lv_iadd hx hb dL_664 ?_
  refine va_sld hx hb hX hbl hbA hS h2 dL_665 ?_
  refine va_calli (va_runV (As := [.int (xs (sg_x (i + 1))), .int (xs (sg_x (i + 2)))]) (rest := [.int r0]) ⟨hx, hb, hml, hown, hts⟩ (c_X8_heading l D κ m τ (xs (sg_x (i + 1))) (xs (sg_x (i + 2))) _ eM) (cwV 2 hts (gwVL wt_871 wt_872 wt_873 wt_9 wt_874) rfl rfl rfl (by decide +kernel) ⟨Nat.le_of_ble_eq_true rfl, Nat.le_of_ble_eq_true rfl⟩) (MW_preV hK hM sg_gModel rfl) rfl rfl hl.1 rfl (lv_room (Nat.le_of_ble_eq_true rfl)) dL_666 ⟨Nat.le_of_ble_eq_true rfl, Nat.le_of_ble_eq_true rfl⟩) hS (fun _ _ h => Nat.le_trans hbm h.1) (fun _ h => Nat.le_trans hbm h.1) (fun r u t H locs ht _ hp hB _ hk1 hS => ?_)
  refine sg_topi (y := r0) hp.1 ?_
  have hM : MW D κ m τ H := MW_b hB ht hp.2
  have hC := CW_kept hm hC hk1
  exact lv_icmp_eq (tgt := 719) hx hb dL_669 (by decide) (fun _ => hk hJ hC hM hS) (fun hc => absurd rfl hc)
set_option maxHeartbeats 4000000 in
set_option maxRecDepth 100000 in
theorem lw_c16 {p : Program} {l : Launch} {e : Env} {s : State} {mm : MethodId} {below : List Frame} {meth : Method} {c : Code} {Q : State → Prop} {D : va_G} {κ : Nat → ClassId} {bs L b m qs vs : Nat} {xs : Nat → Int32} (hZ : sg_ZL p c s mm D κ bs L xs b m qs vs) {i : Int32} (h1 : vp_in (i + 1) L) (h2 : vp_in (i + 2) L) (h3 : vp_in (i + 3) L) (h4 : vp_in (i + 4) L) {σ τ : Sg} {H : Heap} {locs : List Loc} {ls : Array Slot} (hl : lv_has ls 4 [(0, .ref bs), (1, .ref b), (2, .ref m), (3, .int i)]) (hJ : JJ b σ m τ) (hC : CW D κ b σ H) (hM : MW D κ m τ H) (hS : va_S (fun z => b ≤ z) s.heap H locs) (hk : ∀ {σ' τ' : Sg} {H' : Heap} {locs' : List Loc}, JJ b σ' m τ' → CW D κ b σ' H' → MW D κ m τ' H' → va_S (fun z => b ≤ z) s.heap H' locs' → W p l e room_1 s mm #[Value.ref bs] below meth c H' locs' 908 20920 Q (F0 mm 719 ls [])) : W p l e room_1 s mm #[Value.ref bs] below meth c H locs 908 20920 Q (F0 mm 674 ls []) := by
  obtain ⟨hx, hb, hml, hown, hts, hK, hX, hbl, hbe, hm, hV⟩ := hZ
  have hbA : ¬ (b ≤ bs) := by omega
  have hbm : b ≤ m := by omega
  refine lv_aload_n hx hb dL_674 rfl (lv_at hl 1 rfl) ?_
  refine lv_aload_n hx hb dL_675 rfl (lv_at hl 0 rfl) ?_
  refine lv_iload_n hx hb dL_676 rfl (lv_at hl 3 rfl) ?_
  refine lv_iconst (v := 1) hx hb dL_677 (by decide) ?_
  refine lv_iadd hx hb dL_678 ?_
  refine va_sld hx hb hX hbl hbA hS h1 dL_679 ?_
  refine lv_aload_n hx hb dL_680 rfl (lv_at hl 0 rfl) ?_
  refine lv_iload_n hx hb dL_681 rfl (lv_at hl 3 rfl) ?_
  refine lv_iconst (v := 2) hx hb dL_682 (by decide) ?_
  refine lv_iadd hx hb dL_683 ?_
  refine va_sld hx hb hX hbl hbA hS h2 dL_684 ?_
  refine lv_i2c (v := (sg_c (xs (sg_x (i + 2))))) hx hb dL_685 rfl ?_
  refine lv_aload_n hx hb dL_686 rfl (lv_at hl 0 rfl) ?_
  refine lv_iload_n hx hb dL_687 rfl (lv_at hl 3 rfl) ?_
  refine lv_iconst (v := 3) hx hb dL_688 (by decide) ?_
  refine lv_iadd hx hb dL_689 ?_
  refine va_sld hx hb hX hbl hbA hS h3 dL_690 ?_
  obtain ⟨r0, σ1, τ1, eC, eM, hJ⟩ := op_find hJ (xs (sg_x (i + 1))) (sg_c (xs (sg_x (i + 2)))) (xs (sg_x (i + 3))) (sg_cc _)
  refine va_calli (va_runV (As := [.int (xs (sg_x (i + 1))), .int (sg_c (xs (sg_x (i + 2)))), .int (xs (sg_x (i + 3)))]) (rest := []) ⟨hx, hb, hml, hown, hts⟩ (c_X7_find l D κ b σ (xs (sg_x (i + 1))) (sg_c (xs (sg_x (i + 2)))) (xs (sg_x (i + 3))) _ eC) (cwV 3 hts (gwVL wt_610 wt_611 wt_612 wt_1 wt_613) rfl rfl rfl (by decide +kernel) ⟨Nat.le_of_ble_eq_true rfl, Nat.le_of_ble_eq_true rfl⟩) (CW_preV hK hC sg_gShelf rfl) rfl rfl hl.1 rfl (lv_room (Nat.le_of_ble_eq_true rfl)) dL_691 ⟨Nat.le_of_ble_eq_true rfl, Nat.le_of_ble_eq_true rfl⟩) hS (fun _ _ h => h.1) (fun _ h => h.1) (fun r u t H locs ht _ hp hB _ hk1 hS => ?_)
  refine sg_topi (y := r0) hp.1 ?_
  have hC : CW D κ b σ1 H := CW_b hB ht hp.2
  have hM := MW_kept hm hM hk1
  refine lv_aload_n hx hb dL_694 rfl (lv_at hl 2 rfl) ?_
  refine lv_aload_n hx hb dL_695 rfl (lv_at hl 0 rfl) ?_
  refine lv_iload_n hx hb dL_696 rfl (lv_at hl 3 rfl) ?_
  refine lv_iconst (v := 1) hx hb dL_697 (by decide) ?_
  refine lv_iadd hx hb dL_698 ?_
  refine va_sld hx hb hX hbl hbA hS h1 dL_699 ?_
  refine lv_aload_n hx hb dL_700 rfl (lv_at hl 0 rfl) ?_
  refine lv_iload_n hx hb dL_701 rfl (lv_at hl 3 rfl) ?_
  refine lv_iconst (v := 2) hx hb dL_702 (by decide) ?_
  refine lv_iadd hx hb dL_703 ?_
  refine va_sld hx hb hX hbl hbA hS h2 dL_704 ?_
  refine lv_i2c (v := (sg_c (xs (sg_x (i + 2))))) hx hb dL_705 rfl ?_
  refine lv_aload_n hx hb dL_706 rfl (lv_at hl 0 rfl) ?_
  refine lv_iload_n hx hb dL_707 rfl (lv_at hl 3 rfl) ?_
  refine lv_iconst (v := 3) hx hb dL_708 (by decide) ?_
  refine lv_iadd hx hb dL_709 ?_
  refine va_sld hx hb hX hbl hbA hS h3 dL_710 ?_
  refine va_calli (va_runV (As := [.int (xs (sg_x (i + 1))), .int (sg_c (xs (sg_x (i + 2)))), .int (xs (sg_x (i + 3)))]) (rest := [.int r0]) ⟨hx, hb, hml, hown, hts⟩ (c_X8_find l D κ m τ (xs (sg_x (i + 1))) (sg_c (xs (sg_x (i + 2)))) (xs (sg_x (i + 3))) _ eM) (cwV 3 hts (gwVL wt_875 wt_876 wt_877 wt_9 wt_878) rfl rfl rfl (by decide +kernel) ⟨Nat.le_of_ble_eq_true rfl, Nat.le_of_ble_eq_true rfl⟩) (MW_preV hK hM sg_gModel rfl) rfl rfl hl.1 rfl (lv_room (Nat.le_of_ble_eq_true rfl)) dL_711 ⟨Nat.le_of_ble_eq_true rfl, Nat.le_of_ble_eq_true rfl⟩) hS (fun _ _ h => Nat.le_trans hbm h.1) (fun _ h => Nat.le_trans hbm h.1) (fun r u t H locs ht _ hp hB _ hk1 hS => ?_)
  refine sg_topi (y := r0) hp.1 ?_
  have hM : MW D κ m τ1 H := MW_b hB ht hp.2
  have hC := CW_kept hm hC hk1
  exact lv_icmp_eq (tgt := 719) hx hb dL_714 (by decide) (fun _ => hk hJ hC hM hS) (fun hc => absurd rfl hc)
set_option maxHeartbeats 4000000 in
set_option maxRecDepth 100000 in
theorem lw_loop {p : Program} {l : Launch} {e : Env} {s : State} {mm : MethodId} {below : List Frame} {meth : Method} {c : Code} {Q : State → Prop} {D : va_G} {κ : Nat → ClassId} {bs L b m qs vs : Nat} {xs : Nat → Int32} (hZ : sg_ZL p c s mm D κ bs L xs b m qs vs) (hL : L ≤ 2560) (hend : ∀ (H : Heap) (locs : List Loc) (ls : Array Slot), va_S (fun z => b ≤ z) s.heap H locs → W p l e room_1 s mm #[Value.ref bs] below meth c H locs 908 20920 Q (F0 mm 725 ls [])) : ∀ (n j : Nat) {σ τ : Sg} {H : Heap} {locs : List Loc} {ls : Array Slot}, L < 5 * j + 5 * n → 5 * j ≤ 2565 → lv_has ls 4 [(0, .ref bs), (1, .ref b), (2, .ref m), (3, .int (nI (5 * j)))] → JJ b σ m τ → CW D κ b σ H → MW D κ m τ H → va_S (fun z => b ≤ z) s.heap H locs → W p l e room_1 s mm #[Value.ref bs] below meth c H locs 908 20920 Q (F0 mm 18 ls []) := by
  have hZ2 := hZ
  obtain ⟨hx, hb, hml, hown, hts, hK, hX, hbl, hbe, hm, hV⟩ := hZ2
  have hbA : ¬ (b ≤ bs) := by omega
  intro n
  induction n with
  | zero =>
    intro j σ τ H locs ls hn hj5 hl hJ hC hM hS
    refine lv_iload_n hx hb dL_18 rfl (lv_at hl 3 rfl) ?_
    refine lv_aload_n hx hb dL_19 rfl (lv_at hl 0 rfl) ?_
    refine va_slen hx hb hX hbl hbA hS dL_20 ?_
    refine lv_iconst (v := 5) hx hb dL_21 (by decide) ?_
    refine lv_isub hx hb dL_22 ?_
    refine lv_icmp_gt (tgt := 725) hx hb dL_23 (by decide) (fun _ => hend _ _ _ hS) (fun hc => absurd (lw_gt (by omega) (by omega) (by omega)) hc)
  | succ n ih =>
    intro j σ τ H locs ls hn hj5 hl hJ hC hM hS
    refine lv_iload_n hx hb dL_18 rfl (lv_at hl 3 rfl) ?_
    refine lv_aload_n hx hb dL_19 rfl (lv_at hl 0 rfl) ?_
    refine va_slen hx hb hX hbl hbA hS dL_20 ?_
    refine lv_iconst (v := 5) hx hb dL_21 (by decide) ?_
    refine lv_isub hx hb dL_22 ?_
    by_cases hlt : L < 5 * j + 5
    · exact lv_icmp_gt (tgt := 725) hx hb dL_23 (by decide) (fun _ => hend _ _ _ hS) (fun hc => absurd (lw_gt hlt (by omega) (by omega)) hc)
    refine lv_icmp_gt (tgt := 725) hx hb dL_23 (by decide) (fun hc => absurd hc (lw_ngt (by omega) (by omega))) (fun _ => ?_)
    have h0 : vp_in (nI (5 * j)) L := vp_in_nI (by omega) (by omega)
    have h1 : vp_in (nI (5 * j) + 1) L := by rw [show nI (5 * j) + 1 = nI (5 * j + 1) from nI_add _ 1]; exact vp_in_nI (by omega) (by omega)
    have h2 : vp_in (nI (5 * j) + 2) L := by rw [show nI (5 * j) + 2 = nI (5 * j + 2) from nI_add _ 2]; exact vp_in_nI (by omega) (by omega)
    have h3 : vp_in (nI (5 * j) + 3) L := by rw [show nI (5 * j) + 3 = nI (5 * j + 3) from nI_add _ 3]; exact vp_in_nI (by omega) (by omega)
    have h4 : vp_in (nI (5 * j) + 4) L := by rw [show nI (5 * j) + 4 = nI (5 * j + 4) from nI_add _ 4]; exact vp_in_nI (by omega) (by omega)
    refine lv_aload_n hx hb dL_26 rfl (lv_at hl 0 rfl) ?_
    refine lv_iload_n hx hb dL_27 rfl (lv_at hl 3 rfl) ?_
    refine va_sld hx hb hX hbl hbA hS h0 dL_28 ?_
    refine lv_bipush (v := 31) hx hb dL_29 (by decide) ?_
    refine lv_iand hx hb dL_31 ?_
    have hk : ∀ {σ' τ' : Sg} {H' : Heap} {locs' : List Loc}, JJ b σ' m τ' → CW D κ b σ' H' → MW D κ m τ' H' → va_S (fun z => b ≤ z) s.heap H' locs' → W p l e room_1 s mm #[Value.ref bs] below meth c H' locs' 908 20920 Q (F0 mm 719 ls []) := by
      intro σ' τ' H' locs' hJ hC hM hS
      refine lv_iinc (v := nI (5 * (j + 1))) (lv' := [(3, .int (nI (5 * (j + 1)))), (0, .ref bs), (1, .ref b), (2, .ref m)]) (k := 3) hx hb dL_719 hl rfl (sg_inc (k := 5) (by decide) (nI_add _ 5)) (by decide) rfl (fun ls hl => ?_)
      refine lv_goto (tgt := 18) hx hb dL_722 (by decide) ?_
      exact ih (j + 1) (by omega) (by omega) (lv_sub hl [1, 2, 3, 0] rfl) hJ hC hM hS
    obtain ⟨z, hz, hj31⟩ := pk_andE (xs (nI (5 * j)).toNatClampNeg) (m := 31) 5 (by decide)
    rcases (show z = 0 ∨ z = 1 ∨ z = 2 ∨ z = 3 ∨ z = 4 ∨ z = 5 ∨ z = 6 ∨ z = 7 ∨ z = 8 ∨ z = 9 ∨ z = 10 ∨ z = 11 ∨ z = 12 ∨ z = 13 ∨ z = 14 ∨ z = 15 ∨ z = 16 ∨ 17 ≤ z by omega) with rfl | rfl | rfl | rfl | rfl | rfl | rfl | rfl | rfl | rfl | rfl | rfl | rfl | rfl | rfl | rfl | rfl | h17
    · rw [hj31]
      refine lv_tableIn (x := 0) (tgt := 116) hx hb dL_32 (by decide) (by decide) rfl (by decide) ?_
      exact lw_c0 hZ h1 h2 h3 h4 hl hJ hC hM hS hk
    · rw [hj31]
      refine lv_tableIn (x := 1) (tgt := 179) hx hb dL_32 (by decide) (by decide) rfl (by decide) ?_
      exact lw_c1 hZ h1 h2 h3 h4 hl hJ hC hM hS hk
    · rw [hj31]
      refine lv_tableIn (x := 2) (tgt := 202) hx hb dL_32 (by decide) (by decide) rfl (by decide) ?_
      exact lw_c2 hZ h1 h2 h3 h4 hl hJ hC hM hS hk
    · rw [hj31]
      refine lv_tableIn (x := 3) (tgt := 225) hx hb dL_32 (by decide) (by decide) rfl (by decide) ?_
      exact lw_c3 hZ h1 h2 h3 h4 hl hJ hC hM hS hk
    · rw [hj31]
      refine lv_tableIn (x := 4) (tgt := 238) hx hb dL_32 (by decide) (by decide) rfl (by decide) ?_
      exact lw_c4 hZ h1 h2 h3 h4 hl hJ hC hM hS hk
    · rw [hj31]
      refine lv_tableIn (x := 5) (tgt := 251) hx hb dL_32 (by decide) (by decide) rfl (by decide) ?_
      exact lw_c5 hZ h1 h2 h3 h4 hl hJ hC hM hS hk
    · rw [hj31]
      refine lv_tableIn (x := 6) (tgt := 264) hx hb dL_32 (by decide) (by decide) rfl (by decide) ?_
      exact lw_c6 hZ h1 h2 h3 h4 hl hJ hC hM hS hk
    · rw [hj31]
      refine lv_tableIn (x := 7) (tgt := 321) hx hb dL_32 (by decide) (by decide) rfl (by decide) ?_
      exact lw_c7 hZ h1 h2 h3 h4 hl hJ hC hM hS hk
    · rw [hj31]
      refine lv_tableIn (x := 8) (tgt := 366) hx hb dL_32 (by decide) (by decide) rfl (by decide) ?_
      exact lw_c8 hZ h1 h2 h3 h4 hl hJ hC hM hS hk
    · rw [hj31]
      refine lv_tableIn (x := 9) (tgt := 421) hx hb dL_32 (by decide) (by decide) rfl (by decide) ?_
      exact lw_c9 hZ h1 h2 h3 h4 hl hJ hC hM hS hk
    · rw [hj31]
      refine lv_tableIn (x := 10) (tgt := 454) hx hb dL_32 (by decide) (by decide) rfl (by decide) ?_
      exact lw_c10 hZ h1 h2 h3 h4 hl hJ hC hM hS hk
    · rw [hj31]
      refine lv_tableIn (x := 11) (tgt := 477) hx hb dL_32 (by decide) (by decide) rfl (by decide) ?_
      exact lw_c11 hZ h1 h2 h3 h4 hl hJ hC hM hS hk
    · rw [hj31]
      refine lv_tableIn (x := 12) (tgt := 510) hx hb dL_32 (by decide) (by decide) rfl (by decide) ?_
      exact lw_c12 hZ h1 h2 h3 h4 hl hJ hC hM hS hk
    · rw [hj31]
      refine lv_tableIn (x := 13) (tgt := 553) hx hb dL_32 (by decide) (by decide) rfl (by decide) ?_
      exact lw_c13 hZ h1 h2 h3 h4 hl hJ hC hM hS hk
    · rw [hj31]
      refine lv_tableIn (x := 14) (tgt := 606) hx hb dL_32 (by decide) (by decide) rfl (by decide) ?_
      exact lw_c14 hZ h1 h2 h3 h4 hl hJ hC hM hS hk
    · rw [hj31]
      refine lv_tableIn (x := 15) (tgt := 641) hx hb dL_32 (by decide) (by decide) rfl (by decide) ?_
      exact lw_c15 hZ h1 h2 h3 h4 hl hJ hC hM hS hk
    · rw [hj31]
      refine lv_tableIn (x := 16) (tgt := 674) hx hb dL_32 (by decide) (by decide) rfl (by decide) ?_
      exact lw_c16 hZ h1 h2 h3 h4 hl hJ hC hM hS hk
    · rw [hj31]
      refine lv_tableOut (tgt := 719) hx hb dL_32 (Or.inr (by rw [nI_toInt (by omega)]; omega)) (by decide) ?_
      exact hk hJ hC hM hS
