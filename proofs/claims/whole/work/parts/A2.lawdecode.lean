theorem dLa_law_0 : decode code 0 = .ok (.new 8, 3) := by decide +kernel
theorem dLa_law_3 : decode code 3 = .ok (.dup, 1) := by decide +kernel
theorem dLa_law_4 : decode code 4 = .ok (.aload_n 0, 1) := by decide +kernel
theorem dLa_law_5 : decode code 5 = .ok (.iconst 0, 1) := by decide +kernel
theorem dLa_law_6 : decode code 6 = .ok (.invokestatic 74, 3) := by decide +kernel
theorem dLa_law_9 : decode code 9 = .ok (.aload_n 0, 1) := by decide +kernel
theorem dLa_law_10 : decode code 10 = .ok (.iconst 1, 1) := by decide +kernel
theorem dLa_law_11 : decode code 11 = .ok (.invokestatic 74, 3) := by decide +kernel
theorem dLa_law_14 : decode code 14 = .ok (.invokespecial 80, 3) := by decide +kernel
theorem dLa_law_17 : decode code 17 = .ok (.astore_n 1, 1) := by decide +kernel
theorem dLa_law_18 : decode code 18 = .ok (.new 83, 3) := by decide +kernel
theorem dLa_law_21 : decode code 21 = .ok (.dup, 1) := by decide +kernel
theorem dLa_law_22 : decode code 22 = .ok (.aload_n 0, 1) := by decide +kernel
theorem dLa_law_23 : decode code 23 = .ok (.iconst 0, 1) := by decide +kernel
theorem dLa_law_24 : decode code 24 = .ok (.invokestatic 74, 3) := by decide +kernel
theorem dLa_law_27 : decode code 27 = .ok (.aload_n 0, 1) := by decide +kernel
theorem dLa_law_28 : decode code 28 = .ok (.iconst 1, 1) := by decide +kernel
theorem dLa_law_29 : decode code 29 = .ok (.invokestatic 74, 3) := by decide +kernel
theorem dLa_law_32 : decode code 32 = .ok (.invokespecial 85, 3) := by decide +kernel
theorem dLa_law_35 : decode code 35 = .ok (.astore_n 2, 1) := by decide +kernel
theorem dLa_law_36 : decode code 36 = .ok (.iconst 1, 1) := by decide +kernel
theorem dLa_law_37 : decode code 37 = .ok (.newarray .long, 2) := by decide +kernel
theorem dLa_law_39 : decode code 39 = .ok (.astore_n 3, 1) := by decide +kernel
theorem dLa_law_40 : decode code 40 = .ok (.iconst 2, 1) := by decide +kernel
theorem dLa_law_41 : decode code 41 = .ok (.istore 4, 2) := by decide +kernel
theorem dLa_law_43 : decode code 43 = .ok (.iload 4, 2) := by decide +kernel
theorem dLa_law_45 : decode code 45 = .ok (.aload_n 0, 1) := by decide +kernel
theorem dLa_law_46 : decode code 46 = .ok (.arraylength, 1) := by decide +kernel
theorem dLa_law_47 : decode code 47 = .ok (.bipush 11, 2) := by decide +kernel
theorem dLa_law_49 : decode code 49 = .ok (.isub, 1) := by decide +kernel
theorem dLa_law_50 : decode code 50 = .ok (.if_icmp .gt 1620, 3) := by decide +kernel
theorem dLa_law_53 : decode code 53 = .ok (.aload_n 0, 1) := by decide +kernel
theorem dLa_law_54 : decode code 54 = .ok (.iload 4, 2) := by decide +kernel
theorem dLa_law_56 : decode code 56 = .ok (.iaload, 1) := by decide +kernel
theorem dLa_law_57 : decode code 57 = .ok (.bipush 15, 2) := by decide +kernel
theorem dLa_law_59 : decode code 59 = .ok (.iand, 1) := by decide +kernel
theorem dLa_law_60 : decode code 60 = .ok (.tableswitch 1604 0 15 #[80, 354, 461, 633, 689, 756, 916, 987, 1067, 1123, 1190, 1301, 1368, 1436, 1504, 1548], 80) := by decide +kernel
theorem dLa_law_140 : decode code 140 = .ok (.aload_n 1, 1) := by decide +kernel
theorem dLa_law_141 : decode code 141 = .ok (.aload_n 0, 1) := by decide +kernel
theorem dLa_law_142 : decode code 142 = .ok (.iload 4, 2) := by decide +kernel
theorem dLa_law_144 : decode code 144 = .ok (.iconst 1, 1) := by decide +kernel
theorem dLa_law_145 : decode code 145 = .ok (.iadd, 1) := by decide +kernel
theorem dLa_law_146 : decode code 146 = .ok (.iaload, 1) := by decide +kernel
theorem dLa_law_147 : decode code 147 = .ok (.i2l, 1) := by decide +kernel
theorem dLa_law_148 : decode code 148 = .ok (.bipush 32, 2) := by decide +kernel
theorem dLa_law_150 : decode code 150 = .ok (.lshl, 1) := by decide +kernel
theorem dLa_law_151 : decode code 151 = .ok (.aload_n 0, 1) := by decide +kernel
theorem dLa_law_152 : decode code 152 = .ok (.iload 4, 2) := by decide +kernel
theorem dLa_law_154 : decode code 154 = .ok (.iconst 2, 1) := by decide +kernel
theorem dLa_law_155 : decode code 155 = .ok (.iadd, 1) := by decide +kernel
theorem dLa_law_156 : decode code 156 = .ok (.iaload, 1) := by decide +kernel
theorem dLa_law_157 : decode code 157 = .ok (.i2l, 1) := by decide +kernel
theorem dLa_law_158 : decode code 158 = .ok (.ldc2_w 86, 3) := by decide +kernel
theorem dLa_law_161 : decode code 161 = .ok (.land, 1) := by decide +kernel
theorem dLa_law_162 : decode code 162 = .ok (.lor, 1) := by decide +kernel
theorem dLa_law_163 : decode code 163 = .ok (.aload_n 0, 1) := by decide +kernel
theorem dLa_law_164 : decode code 164 = .ok (.iload 4, 2) := by decide +kernel
theorem dLa_law_166 : decode code 166 = .ok (.iconst 3, 1) := by decide +kernel
theorem dLa_law_167 : decode code 167 = .ok (.iadd, 1) := by decide +kernel
theorem dLa_law_168 : decode code 168 = .ok (.iaload, 1) := by decide +kernel
theorem dLa_law_169 : decode code 169 = .ok (.i2l, 1) := by decide +kernel
theorem dLa_law_170 : decode code 170 = .ok (.bipush 32, 2) := by decide +kernel
theorem dLa_law_172 : decode code 172 = .ok (.lshl, 1) := by decide +kernel
theorem dLa_law_173 : decode code 173 = .ok (.aload_n 0, 1) := by decide +kernel
theorem dLa_law_174 : decode code 174 = .ok (.iload 4, 2) := by decide +kernel
theorem dLa_law_176 : decode code 176 = .ok (.iconst 4, 1) := by decide +kernel
theorem dLa_law_177 : decode code 177 = .ok (.iadd, 1) := by decide +kernel
theorem dLa_law_178 : decode code 178 = .ok (.iaload, 1) := by decide +kernel
theorem dLa_law_179 : decode code 179 = .ok (.i2l, 1) := by decide +kernel
theorem dLa_law_180 : decode code 180 = .ok (.ldc2_w 86, 3) := by decide +kernel
theorem dLa_law_183 : decode code 183 = .ok (.land, 1) := by decide +kernel
theorem dLa_law_184 : decode code 184 = .ok (.lor, 1) := by decide +kernel
theorem dLa_law_185 : decode code 185 = .ok (.aload_n 0, 1) := by decide +kernel
theorem dLa_law_186 : decode code 186 = .ok (.iload 4, 2) := by decide +kernel
theorem dLa_law_188 : decode code 188 = .ok (.iconst 5, 1) := by decide +kernel
theorem dLa_law_189 : decode code 189 = .ok (.iadd, 1) := by decide +kernel
theorem dLa_law_190 : decode code 190 = .ok (.iaload, 1) := by decide +kernel
theorem dLa_law_191 : decode code 191 = .ok (.i2l, 1) := by decide +kernel
theorem dLa_law_192 : decode code 192 = .ok (.bipush 32, 2) := by decide +kernel
theorem dLa_law_194 : decode code 194 = .ok (.lshl, 1) := by decide +kernel
theorem dLa_law_195 : decode code 195 = .ok (.aload_n 0, 1) := by decide +kernel
theorem dLa_law_196 : decode code 196 = .ok (.iload 4, 2) := by decide +kernel
theorem dLa_law_198 : decode code 198 = .ok (.bipush 6, 2) := by decide +kernel
theorem dLa_law_200 : decode code 200 = .ok (.iadd, 1) := by decide +kernel
theorem dLa_law_201 : decode code 201 = .ok (.iaload, 1) := by decide +kernel
theorem dLa_law_202 : decode code 202 = .ok (.i2l, 1) := by decide +kernel
theorem dLa_law_203 : decode code 203 = .ok (.ldc2_w 86, 3) := by decide +kernel
theorem dLa_law_206 : decode code 206 = .ok (.land, 1) := by decide +kernel
theorem dLa_law_207 : decode code 207 = .ok (.lor, 1) := by decide +kernel
theorem dLa_law_208 : decode code 208 = .ok (.aload_n 0, 1) := by decide +kernel
theorem dLa_law_209 : decode code 209 = .ok (.iload 4, 2) := by decide +kernel
theorem dLa_law_211 : decode code 211 = .ok (.bipush 7, 2) := by decide +kernel
theorem dLa_law_213 : decode code 213 = .ok (.iadd, 1) := by decide +kernel
theorem dLa_law_214 : decode code 214 = .ok (.iaload, 1) := by decide +kernel
theorem dLa_law_215 : decode code 215 = .ok (.i2l, 1) := by decide +kernel
theorem dLa_law_216 : decode code 216 = .ok (.bipush 32, 2) := by decide +kernel
theorem dLa_law_218 : decode code 218 = .ok (.lshl, 1) := by decide +kernel
theorem dLa_law_219 : decode code 219 = .ok (.aload_n 0, 1) := by decide +kernel
theorem dLa_law_220 : decode code 220 = .ok (.iload 4, 2) := by decide +kernel
theorem dLa_law_222 : decode code 222 = .ok (.bipush 8, 2) := by decide +kernel
theorem dLa_law_224 : decode code 224 = .ok (.iadd, 1) := by decide +kernel
theorem dLa_law_225 : decode code 225 = .ok (.iaload, 1) := by decide +kernel
theorem dLa_law_226 : decode code 226 = .ok (.i2l, 1) := by decide +kernel
theorem dLa_law_227 : decode code 227 = .ok (.ldc2_w 86, 3) := by decide +kernel
theorem dLa_law_230 : decode code 230 = .ok (.land, 1) := by decide +kernel
theorem dLa_law_231 : decode code 231 = .ok (.lor, 1) := by decide +kernel
theorem dLa_law_232 : decode code 232 = .ok (.aload_n 0, 1) := by decide +kernel
theorem dLa_law_233 : decode code 233 = .ok (.iload 4, 2) := by decide +kernel
theorem dLa_law_235 : decode code 235 = .ok (.bipush 9, 2) := by decide +kernel
theorem dLa_law_237 : decode code 237 = .ok (.iadd, 1) := by decide +kernel
theorem dLa_law_238 : decode code 238 = .ok (.iaload, 1) := by decide +kernel
theorem dLa_law_239 : decode code 239 = .ok (.i2l, 1) := by decide +kernel
theorem dLa_law_240 : decode code 240 = .ok (.bipush 32, 2) := by decide +kernel
theorem dLa_law_242 : decode code 242 = .ok (.lshl, 1) := by decide +kernel
theorem dLa_law_243 : decode code 243 = .ok (.aload_n 0, 1) := by decide +kernel
theorem dLa_law_244 : decode code 244 = .ok (.iload 4, 2) := by decide +kernel
theorem dLa_law_246 : decode code 246 = .ok (.bipush 10, 2) := by decide +kernel
theorem dLa_law_248 : decode code 248 = .ok (.iadd, 1) := by decide +kernel
theorem dLa_law_249 : decode code 249 = .ok (.iaload, 1) := by decide +kernel
theorem dLa_law_250 : decode code 250 = .ok (.i2l, 1) := by decide +kernel
theorem dLa_law_251 : decode code 251 = .ok (.ldc2_w 86, 3) := by decide +kernel
theorem dLa_law_254 : decode code 254 = .ok (.land, 1) := by decide +kernel
theorem dLa_law_255 : decode code 255 = .ok (.lor, 1) := by decide +kernel
theorem dLa_law_256 : decode code 256 = .ok (.aload_n 3, 1) := by decide +kernel
theorem dLa_law_257 : decode code 257 = .ok (.invokestatic 88, 3) := by decide +kernel
theorem dLa_law_260 : decode code 260 = .ok (.istore 5, 2) := by decide +kernel
theorem dLa_law_262 : decode code 262 = .ok (.aload_n 2, 1) := by decide +kernel
theorem dLa_law_263 : decode code 263 = .ok (.aload_n 0, 1) := by decide +kernel
theorem dLa_law_264 : decode code 264 = .ok (.iload 4, 2) := by decide +kernel
theorem dLa_law_266 : decode code 266 = .ok (.iconst 1, 1) := by decide +kernel
theorem dLa_law_267 : decode code 267 = .ok (.iadd, 1) := by decide +kernel
theorem dLa_law_268 : decode code 268 = .ok (.iaload, 1) := by decide +kernel
theorem dLa_law_269 : decode code 269 = .ok (.i2l, 1) := by decide +kernel
theorem dLa_law_270 : decode code 270 = .ok (.bipush 32, 2) := by decide +kernel
theorem dLa_law_272 : decode code 272 = .ok (.lshl, 1) := by decide +kernel
theorem dLa_law_273 : decode code 273 = .ok (.aload_n 0, 1) := by decide +kernel
theorem dLa_law_274 : decode code 274 = .ok (.iload 4, 2) := by decide +kernel
theorem dLa_law_276 : decode code 276 = .ok (.iconst 2, 1) := by decide +kernel
theorem dLa_law_277 : decode code 277 = .ok (.iadd, 1) := by decide +kernel
theorem dLa_law_278 : decode code 278 = .ok (.iaload, 1) := by decide +kernel
theorem dLa_law_279 : decode code 279 = .ok (.i2l, 1) := by decide +kernel
theorem dLa_law_280 : decode code 280 = .ok (.ldc2_w 86, 3) := by decide +kernel
theorem dLa_law_283 : decode code 283 = .ok (.land, 1) := by decide +kernel
theorem dLa_law_284 : decode code 284 = .ok (.lor, 1) := by decide +kernel
theorem dLa_law_285 : decode code 285 = .ok (.aload_n 0, 1) := by decide +kernel
theorem dLa_law_286 : decode code 286 = .ok (.iload 4, 2) := by decide +kernel
theorem dLa_law_288 : decode code 288 = .ok (.iconst 3, 1) := by decide +kernel
theorem dLa_law_289 : decode code 289 = .ok (.iadd, 1) := by decide +kernel
theorem dLa_law_290 : decode code 290 = .ok (.iaload, 1) := by decide +kernel
theorem dLa_law_291 : decode code 291 = .ok (.i2l, 1) := by decide +kernel
theorem dLa_law_292 : decode code 292 = .ok (.bipush 32, 2) := by decide +kernel
theorem dLa_law_294 : decode code 294 = .ok (.lshl, 1) := by decide +kernel
theorem dLa_law_295 : decode code 295 = .ok (.aload_n 0, 1) := by decide +kernel
theorem dLa_law_296 : decode code 296 = .ok (.iload 4, 2) := by decide +kernel
theorem dLa_law_298 : decode code 298 = .ok (.iconst 4, 1) := by decide +kernel
theorem dLa_law_299 : decode code 299 = .ok (.iadd, 1) := by decide +kernel
theorem dLa_law_300 : decode code 300 = .ok (.iaload, 1) := by decide +kernel
theorem dLa_law_301 : decode code 301 = .ok (.i2l, 1) := by decide +kernel
theorem dLa_law_302 : decode code 302 = .ok (.ldc2_w 86, 3) := by decide +kernel
theorem dLa_law_305 : decode code 305 = .ok (.land, 1) := by decide +kernel
theorem dLa_law_306 : decode code 306 = .ok (.lor, 1) := by decide +kernel
theorem dLa_law_307 : decode code 307 = .ok (.aload_n 0, 1) := by decide +kernel
theorem dLa_law_308 : decode code 308 = .ok (.iload 4, 2) := by decide +kernel
theorem dLa_law_310 : decode code 310 = .ok (.iconst 5, 1) := by decide +kernel
theorem dLa_law_311 : decode code 311 = .ok (.iadd, 1) := by decide +kernel
theorem dLa_law_312 : decode code 312 = .ok (.iaload, 1) := by decide +kernel
theorem dLa_law_313 : decode code 313 = .ok (.i2l, 1) := by decide +kernel
theorem dLa_law_314 : decode code 314 = .ok (.bipush 32, 2) := by decide +kernel
theorem dLa_law_316 : decode code 316 = .ok (.lshl, 1) := by decide +kernel
theorem dLa_law_317 : decode code 317 = .ok (.aload_n 0, 1) := by decide +kernel
theorem dLa_law_318 : decode code 318 = .ok (.iload 4, 2) := by decide +kernel
theorem dLa_law_320 : decode code 320 = .ok (.bipush 6, 2) := by decide +kernel
theorem dLa_law_322 : decode code 322 = .ok (.iadd, 1) := by decide +kernel
theorem dLa_law_323 : decode code 323 = .ok (.iaload, 1) := by decide +kernel
theorem dLa_law_324 : decode code 324 = .ok (.i2l, 1) := by decide +kernel
theorem dLa_law_325 : decode code 325 = .ok (.ldc2_w 86, 3) := by decide +kernel
theorem dLa_law_328 : decode code 328 = .ok (.land, 1) := by decide +kernel
theorem dLa_law_329 : decode code 329 = .ok (.lor, 1) := by decide +kernel
theorem dLa_law_330 : decode code 330 = .ok (.aload_n 0, 1) := by decide +kernel
theorem dLa_law_331 : decode code 331 = .ok (.iload 4, 2) := by decide +kernel
theorem dLa_law_333 : decode code 333 = .ok (.bipush 7, 2) := by decide +kernel
theorem dLa_law_335 : decode code 335 = .ok (.iadd, 1) := by decide +kernel
theorem dLa_law_336 : decode code 336 = .ok (.iaload, 1) := by decide +kernel
theorem dLa_law_337 : decode code 337 = .ok (.i2l, 1) := by decide +kernel
theorem dLa_law_338 : decode code 338 = .ok (.bipush 32, 2) := by decide +kernel
theorem dLa_law_340 : decode code 340 = .ok (.lshl, 1) := by decide +kernel
theorem dLa_law_341 : decode code 341 = .ok (.aload_n 0, 1) := by decide +kernel
theorem dLa_law_342 : decode code 342 = .ok (.iload 4, 2) := by decide +kernel
theorem dLa_law_344 : decode code 344 = .ok (.bipush 8, 2) := by decide +kernel
theorem dLa_law_346 : decode code 346 = .ok (.iadd, 1) := by decide +kernel
theorem dLa_law_347 : decode code 347 = .ok (.iaload, 1) := by decide +kernel
theorem dLa_law_348 : decode code 348 = .ok (.i2l, 1) := by decide +kernel
theorem dLa_law_349 : decode code 349 = .ok (.ldc2_w 86, 3) := by decide +kernel
theorem dLa_law_352 : decode code 352 = .ok (.land, 1) := by decide +kernel
theorem dLa_law_353 : decode code 353 = .ok (.lor, 1) := by decide +kernel
theorem dLa_law_354 : decode code 354 = .ok (.aload_n 0, 1) := by decide +kernel
theorem dLa_law_355 : decode code 355 = .ok (.iload 4, 2) := by decide +kernel
theorem dLa_law_357 : decode code 357 = .ok (.bipush 9, 2) := by decide +kernel
theorem dLa_law_359 : decode code 359 = .ok (.iadd, 1) := by decide +kernel
theorem dLa_law_360 : decode code 360 = .ok (.iaload, 1) := by decide +kernel
theorem dLa_law_361 : decode code 361 = .ok (.i2l, 1) := by decide +kernel
theorem dLa_law_362 : decode code 362 = .ok (.bipush 32, 2) := by decide +kernel
theorem dLa_law_364 : decode code 364 = .ok (.lshl, 1) := by decide +kernel
theorem dLa_law_365 : decode code 365 = .ok (.aload_n 0, 1) := by decide +kernel
theorem dLa_law_366 : decode code 366 = .ok (.iload 4, 2) := by decide +kernel
theorem dLa_law_368 : decode code 368 = .ok (.bipush 10, 2) := by decide +kernel
theorem dLa_law_370 : decode code 370 = .ok (.iadd, 1) := by decide +kernel
theorem dLa_law_371 : decode code 371 = .ok (.iaload, 1) := by decide +kernel
theorem dLa_law_372 : decode code 372 = .ok (.i2l, 1) := by decide +kernel
theorem dLa_law_373 : decode code 373 = .ok (.ldc2_w 86, 3) := by decide +kernel
theorem dLa_law_376 : decode code 376 = .ok (.land, 1) := by decide +kernel
theorem dLa_law_377 : decode code 377 = .ok (.lor, 1) := by decide +kernel
theorem dLa_law_378 : decode code 378 = .ok (.invokevirtual 91, 3) := by decide +kernel
theorem dLa_law_381 : decode code 381 = .ok (.istore 6, 2) := by decide +kernel
theorem dLa_law_383 : decode code 383 = .ok (.aload_n 2, 1) := by decide +kernel
theorem dLa_law_384 : decode code 384 = .ok (.invokevirtual 92, 3) := by decide +kernel
theorem dLa_law_387 : decode code 387 = .ok (.iload 5, 2) := by decide +kernel
theorem dLa_law_389 : decode code 389 = .ok (.if_icmp .eq 5, 3) := by decide +kernel
theorem dLa_law_392 : decode code 392 = .ok (.iconst 0, 1) := by decide +kernel
theorem dLa_law_393 : decode code 393 = .ok (.ireturn, 1) := by decide +kernel
theorem dLa_law_394 : decode code 394 = .ok (.iload 5, 2) := by decide +kernel
theorem dLa_law_396 : decode code 396 = .ok (.ifCond .ne 15, 3) := by decide +kernel
theorem dLa_law_399 : decode code 399 = .ok (.aload_n 3, 1) := by decide +kernel
theorem dLa_law_400 : decode code 400 = .ok (.iconst 0, 1) := by decide +kernel
theorem dLa_law_401 : decode code 401 = .ok (.laload, 1) := by decide +kernel
theorem dLa_law_402 : decode code 402 = .ok (.iload 6, 2) := by decide +kernel
theorem dLa_law_404 : decode code 404 = .ok (.i2l, 1) := by decide +kernel
theorem dLa_law_405 : decode code 405 = .ok (.lcmp, 1) := by decide +kernel
theorem dLa_law_406 : decode code 406 = .ok (.ifCond .eq 5, 3) := by decide +kernel
theorem dLa_law_409 : decode code 409 = .ok (.iconst 0, 1) := by decide +kernel
theorem dLa_law_410 : decode code 410 = .ok (.ireturn, 1) := by decide +kernel
theorem dLa_law_411 : decode code 411 = .ok (.goto 1253, 3) := by decide +kernel
theorem dLa_law_414 : decode code 414 = .ok (.aload_n 1, 1) := by decide +kernel
theorem dLa_law_415 : decode code 415 = .ok (.aload_n 0, 1) := by decide +kernel
theorem dLa_law_416 : decode code 416 = .ok (.iload 4, 2) := by decide +kernel
theorem dLa_law_418 : decode code 418 = .ok (.iconst 1, 1) := by decide +kernel
theorem dLa_law_419 : decode code 419 = .ok (.iadd, 1) := by decide +kernel
theorem dLa_law_420 : decode code 420 = .ok (.iaload, 1) := by decide +kernel
theorem dLa_law_421 : decode code 421 = .ok (.aload_n 0, 1) := by decide +kernel
theorem dLa_law_422 : decode code 422 = .ok (.iload 4, 2) := by decide +kernel
theorem dLa_law_424 : decode code 424 = .ok (.iconst 2, 1) := by decide +kernel
theorem dLa_law_425 : decode code 425 = .ok (.iadd, 1) := by decide +kernel
theorem dLa_law_426 : decode code 426 = .ok (.iaload, 1) := by decide +kernel
theorem dLa_law_427 : decode code 427 = .ok (.i2l, 1) := by decide +kernel
theorem dLa_law_428 : decode code 428 = .ok (.bipush 32, 2) := by decide +kernel
theorem dLa_law_430 : decode code 430 = .ok (.lshl, 1) := by decide +kernel
theorem dLa_law_431 : decode code 431 = .ok (.aload_n 0, 1) := by decide +kernel
theorem dLa_law_432 : decode code 432 = .ok (.iload 4, 2) := by decide +kernel
theorem dLa_law_434 : decode code 434 = .ok (.iconst 3, 1) := by decide +kernel
theorem dLa_law_435 : decode code 435 = .ok (.iadd, 1) := by decide +kernel
theorem dLa_law_436 : decode code 436 = .ok (.iaload, 1) := by decide +kernel
theorem dLa_law_437 : decode code 437 = .ok (.i2l, 1) := by decide +kernel
theorem dLa_law_438 : decode code 438 = .ok (.ldc2_w 86, 3) := by decide +kernel
theorem dLa_law_441 : decode code 441 = .ok (.land, 1) := by decide +kernel
theorem dLa_law_442 : decode code 442 = .ok (.lor, 1) := by decide +kernel
theorem dLa_law_443 : decode code 443 = .ok (.aload_n 3, 1) := by decide +kernel
theorem dLa_law_444 : decode code 444 = .ok (.invokestatic 95, 3) := by decide +kernel
theorem dLa_law_447 : decode code 447 = .ok (.istore 5, 2) := by decide +kernel
theorem dLa_law_449 : decode code 449 = .ok (.aload_n 2, 1) := by decide +kernel
theorem dLa_law_450 : decode code 450 = .ok (.aload_n 0, 1) := by decide +kernel
theorem dLa_law_451 : decode code 451 = .ok (.iload 4, 2) := by decide +kernel
theorem dLa_law_453 : decode code 453 = .ok (.iconst 1, 1) := by decide +kernel
theorem dLa_law_454 : decode code 454 = .ok (.iadd, 1) := by decide +kernel
theorem dLa_law_455 : decode code 455 = .ok (.iaload, 1) := by decide +kernel
theorem dLa_law_456 : decode code 456 = .ok (.aload_n 0, 1) := by decide +kernel
theorem dLa_law_457 : decode code 457 = .ok (.iload 4, 2) := by decide +kernel
theorem dLa_law_459 : decode code 459 = .ok (.iconst 2, 1) := by decide +kernel
theorem dLa_law_460 : decode code 460 = .ok (.iadd, 1) := by decide +kernel
theorem dLa_law_461 : decode code 461 = .ok (.iaload, 1) := by decide +kernel
theorem dLa_law_462 : decode code 462 = .ok (.i2l, 1) := by decide +kernel
theorem dLa_law_463 : decode code 463 = .ok (.bipush 32, 2) := by decide +kernel
theorem dLa_law_465 : decode code 465 = .ok (.lshl, 1) := by decide +kernel
theorem dLa_law_466 : decode code 466 = .ok (.aload_n 0, 1) := by decide +kernel
theorem dLa_law_467 : decode code 467 = .ok (.iload 4, 2) := by decide +kernel
theorem dLa_law_469 : decode code 469 = .ok (.iconst 3, 1) := by decide +kernel
theorem dLa_law_470 : decode code 470 = .ok (.iadd, 1) := by decide +kernel
theorem dLa_law_471 : decode code 471 = .ok (.iaload, 1) := by decide +kernel
theorem dLa_law_472 : decode code 472 = .ok (.i2l, 1) := by decide +kernel
theorem dLa_law_473 : decode code 473 = .ok (.ldc2_w 86, 3) := by decide +kernel
theorem dLa_law_476 : decode code 476 = .ok (.land, 1) := by decide +kernel
theorem dLa_law_477 : decode code 477 = .ok (.lor, 1) := by decide +kernel
theorem dLa_law_478 : decode code 478 = .ok (.invokevirtual 98, 3) := by decide +kernel
theorem dLa_law_481 : decode code 481 = .ok (.istore 6, 2) := by decide +kernel
theorem dLa_law_483 : decode code 483 = .ok (.aload_n 2, 1) := by decide +kernel
theorem dLa_law_484 : decode code 484 = .ok (.invokevirtual 92, 3) := by decide +kernel
theorem dLa_law_487 : decode code 487 = .ok (.iload 5, 2) := by decide +kernel
theorem dLa_law_489 : decode code 489 = .ok (.if_icmp .eq 5, 3) := by decide +kernel
theorem dLa_law_492 : decode code 492 = .ok (.iconst 0, 1) := by decide +kernel
theorem dLa_law_493 : decode code 493 = .ok (.ireturn, 1) := by decide +kernel
theorem dLa_law_494 : decode code 494 = .ok (.iload 5, 2) := by decide +kernel
theorem dLa_law_496 : decode code 496 = .ok (.ifCond .ne 22, 3) := by decide +kernel
theorem dLa_law_499 : decode code 499 = .ok (.aload_n 3, 1) := by decide +kernel
theorem dLa_law_500 : decode code 500 = .ok (.iconst 0, 1) := by decide +kernel
theorem dLa_law_501 : decode code 501 = .ok (.laload, 1) := by decide +kernel
theorem dLa_law_502 : decode code 502 = .ok (.iload 6, 2) := by decide +kernel
theorem dLa_law_504 : decode code 504 = .ok (.ifCond .eq 7, 3) := by decide +kernel
theorem dLa_law_507 : decode code 507 = .ok (.lconst 1, 1) := by decide +kernel
theorem dLa_law_508 : decode code 508 = .ok (.goto 4, 3) := by decide +kernel
theorem dLa_law_511 : decode code 511 = .ok (.lconst 0, 1) := by decide +kernel
theorem dLa_law_512 : decode code 512 = .ok (.lcmp, 1) := by decide +kernel
theorem dLa_law_513 : decode code 513 = .ok (.ifCond .eq 5, 3) := by decide +kernel
theorem dLa_law_516 : decode code 516 = .ok (.iconst 0, 1) := by decide +kernel
theorem dLa_law_517 : decode code 517 = .ok (.ireturn, 1) := by decide +kernel
theorem dLa_law_518 : decode code 518 = .ok (.goto 1146, 3) := by decide +kernel
theorem dLa_law_521 : decode code 521 = .ok (.aload_n 1, 1) := by decide +kernel
theorem dLa_law_522 : decode code 522 = .ok (.aload_n 0, 1) := by decide +kernel
theorem dLa_law_523 : decode code 523 = .ok (.iload 4, 2) := by decide +kernel
theorem dLa_law_525 : decode code 525 = .ok (.iconst 1, 1) := by decide +kernel
theorem dLa_law_526 : decode code 526 = .ok (.iadd, 1) := by decide +kernel
theorem dLa_law_527 : decode code 527 = .ok (.iaload, 1) := by decide +kernel
theorem dLa_law_528 : decode code 528 = .ok (.aload_n 0, 1) := by decide +kernel
theorem dLa_law_529 : decode code 529 = .ok (.iload 4, 2) := by decide +kernel
theorem dLa_law_531 : decode code 531 = .ok (.iconst 2, 1) := by decide +kernel
theorem dLa_law_532 : decode code 532 = .ok (.iadd, 1) := by decide +kernel
theorem dLa_law_533 : decode code 533 = .ok (.iaload, 1) := by decide +kernel
theorem dLa_law_534 : decode code 534 = .ok (.i2l, 1) := by decide +kernel
theorem dLa_law_535 : decode code 535 = .ok (.bipush 32, 2) := by decide +kernel
theorem dLa_law_537 : decode code 537 = .ok (.lshl, 1) := by decide +kernel
theorem dLa_law_538 : decode code 538 = .ok (.aload_n 0, 1) := by decide +kernel
theorem dLa_law_539 : decode code 539 = .ok (.iload 4, 2) := by decide +kernel
theorem dLa_law_541 : decode code 541 = .ok (.iconst 3, 1) := by decide +kernel
theorem dLa_law_542 : decode code 542 = .ok (.iadd, 1) := by decide +kernel
theorem dLa_law_543 : decode code 543 = .ok (.iaload, 1) := by decide +kernel
theorem dLa_law_544 : decode code 544 = .ok (.i2l, 1) := by decide +kernel
theorem dLa_law_545 : decode code 545 = .ok (.ldc2_w 86, 3) := by decide +kernel
theorem dLa_law_548 : decode code 548 = .ok (.land, 1) := by decide +kernel
theorem dLa_law_549 : decode code 549 = .ok (.lor, 1) := by decide +kernel
theorem dLa_law_550 : decode code 550 = .ok (.aload_n 0, 1) := by decide +kernel
theorem dLa_law_551 : decode code 551 = .ok (.iload 4, 2) := by decide +kernel
theorem dLa_law_553 : decode code 553 = .ok (.iconst 4, 1) := by decide +kernel
theorem dLa_law_554 : decode code 554 = .ok (.iadd, 1) := by decide +kernel
theorem dLa_law_555 : decode code 555 = .ok (.iaload, 1) := by decide +kernel
theorem dLa_law_556 : decode code 556 = .ok (.i2l, 1) := by decide +kernel
theorem dLa_law_557 : decode code 557 = .ok (.bipush 32, 2) := by decide +kernel
theorem dLa_law_559 : decode code 559 = .ok (.lshl, 1) := by decide +kernel
theorem dLa_law_560 : decode code 560 = .ok (.aload_n 0, 1) := by decide +kernel
theorem dLa_law_561 : decode code 561 = .ok (.iload 4, 2) := by decide +kernel
theorem dLa_law_563 : decode code 563 = .ok (.iconst 5, 1) := by decide +kernel
theorem dLa_law_564 : decode code 564 = .ok (.iadd, 1) := by decide +kernel
theorem dLa_law_565 : decode code 565 = .ok (.iaload, 1) := by decide +kernel
theorem dLa_law_566 : decode code 566 = .ok (.i2l, 1) := by decide +kernel
theorem dLa_law_567 : decode code 567 = .ok (.ldc2_w 86, 3) := by decide +kernel
theorem dLa_law_570 : decode code 570 = .ok (.land, 1) := by decide +kernel
theorem dLa_law_571 : decode code 571 = .ok (.lor, 1) := by decide +kernel
theorem dLa_law_572 : decode code 572 = .ok (.aload_n 0, 1) := by decide +kernel
theorem dLa_law_573 : decode code 573 = .ok (.iload 4, 2) := by decide +kernel
theorem dLa_law_575 : decode code 575 = .ok (.bipush 6, 2) := by decide +kernel
theorem dLa_law_577 : decode code 577 = .ok (.iadd, 1) := by decide +kernel
theorem dLa_law_578 : decode code 578 = .ok (.iaload, 1) := by decide +kernel
theorem dLa_law_579 : decode code 579 = .ok (.i2l, 1) := by decide +kernel
theorem dLa_law_580 : decode code 580 = .ok (.bipush 32, 2) := by decide +kernel
theorem dLa_law_582 : decode code 582 = .ok (.lshl, 1) := by decide +kernel
theorem dLa_law_583 : decode code 583 = .ok (.aload_n 0, 1) := by decide +kernel
theorem dLa_law_584 : decode code 584 = .ok (.iload 4, 2) := by decide +kernel
theorem dLa_law_586 : decode code 586 = .ok (.bipush 7, 2) := by decide +kernel
theorem dLa_law_588 : decode code 588 = .ok (.iadd, 1) := by decide +kernel
theorem dLa_law_589 : decode code 589 = .ok (.iaload, 1) := by decide +kernel
theorem dLa_law_590 : decode code 590 = .ok (.i2l, 1) := by decide +kernel
theorem dLa_law_591 : decode code 591 = .ok (.ldc2_w 86, 3) := by decide +kernel
theorem dLa_law_594 : decode code 594 = .ok (.land, 1) := by decide +kernel
theorem dLa_law_595 : decode code 595 = .ok (.lor, 1) := by decide +kernel
theorem dLa_law_596 : decode code 596 = .ok (.invokestatic 99, 3) := by decide +kernel
theorem dLa_law_599 : decode code 599 = .ok (.istore 5, 2) := by decide +kernel
theorem dLa_law_601 : decode code 601 = .ok (.aload_n 2, 1) := by decide +kernel
theorem dLa_law_602 : decode code 602 = .ok (.aload_n 0, 1) := by decide +kernel
theorem dLa_law_603 : decode code 603 = .ok (.iload 4, 2) := by decide +kernel
theorem dLa_law_605 : decode code 605 = .ok (.iconst 1, 1) := by decide +kernel
theorem dLa_law_606 : decode code 606 = .ok (.iadd, 1) := by decide +kernel
theorem dLa_law_607 : decode code 607 = .ok (.iaload, 1) := by decide +kernel
theorem dLa_law_608 : decode code 608 = .ok (.aload_n 0, 1) := by decide +kernel
theorem dLa_law_609 : decode code 609 = .ok (.iload 4, 2) := by decide +kernel
theorem dLa_law_611 : decode code 611 = .ok (.iconst 2, 1) := by decide +kernel
theorem dLa_law_612 : decode code 612 = .ok (.iadd, 1) := by decide +kernel
theorem dLa_law_613 : decode code 613 = .ok (.iaload, 1) := by decide +kernel
theorem dLa_law_614 : decode code 614 = .ok (.i2l, 1) := by decide +kernel
theorem dLa_law_615 : decode code 615 = .ok (.bipush 32, 2) := by decide +kernel
theorem dLa_law_617 : decode code 617 = .ok (.lshl, 1) := by decide +kernel
theorem dLa_law_618 : decode code 618 = .ok (.aload_n 0, 1) := by decide +kernel
theorem dLa_law_619 : decode code 619 = .ok (.iload 4, 2) := by decide +kernel
theorem dLa_law_621 : decode code 621 = .ok (.iconst 3, 1) := by decide +kernel
theorem dLa_law_622 : decode code 622 = .ok (.iadd, 1) := by decide +kernel
theorem dLa_law_623 : decode code 623 = .ok (.iaload, 1) := by decide +kernel
theorem dLa_law_624 : decode code 624 = .ok (.i2l, 1) := by decide +kernel
theorem dLa_law_625 : decode code 625 = .ok (.ldc2_w 86, 3) := by decide +kernel
theorem dLa_law_628 : decode code 628 = .ok (.land, 1) := by decide +kernel
theorem dLa_law_629 : decode code 629 = .ok (.lor, 1) := by decide +kernel
theorem dLa_law_630 : decode code 630 = .ok (.aload_n 0, 1) := by decide +kernel
theorem dLa_law_631 : decode code 631 = .ok (.iload 4, 2) := by decide +kernel
theorem dLa_law_633 : decode code 633 = .ok (.iconst 4, 1) := by decide +kernel
theorem dLa_law_634 : decode code 634 = .ok (.iadd, 1) := by decide +kernel
theorem dLa_law_635 : decode code 635 = .ok (.iaload, 1) := by decide +kernel
theorem dLa_law_636 : decode code 636 = .ok (.i2l, 1) := by decide +kernel
theorem dLa_law_637 : decode code 637 = .ok (.bipush 32, 2) := by decide +kernel
theorem dLa_law_639 : decode code 639 = .ok (.lshl, 1) := by decide +kernel
theorem dLa_law_640 : decode code 640 = .ok (.aload_n 0, 1) := by decide +kernel
theorem dLa_law_641 : decode code 641 = .ok (.iload 4, 2) := by decide +kernel
theorem dLa_law_643 : decode code 643 = .ok (.iconst 5, 1) := by decide +kernel
theorem dLa_law_644 : decode code 644 = .ok (.iadd, 1) := by decide +kernel
theorem dLa_law_645 : decode code 645 = .ok (.iaload, 1) := by decide +kernel
theorem dLa_law_646 : decode code 646 = .ok (.i2l, 1) := by decide +kernel
theorem dLa_law_647 : decode code 647 = .ok (.ldc2_w 86, 3) := by decide +kernel
theorem dLa_law_650 : decode code 650 = .ok (.land, 1) := by decide +kernel
theorem dLa_law_651 : decode code 651 = .ok (.lor, 1) := by decide +kernel
theorem dLa_law_652 : decode code 652 = .ok (.aload_n 0, 1) := by decide +kernel
theorem dLa_law_653 : decode code 653 = .ok (.iload 4, 2) := by decide +kernel
theorem dLa_law_655 : decode code 655 = .ok (.bipush 6, 2) := by decide +kernel
theorem dLa_law_657 : decode code 657 = .ok (.iadd, 1) := by decide +kernel
theorem dLa_law_658 : decode code 658 = .ok (.iaload, 1) := by decide +kernel
theorem dLa_law_659 : decode code 659 = .ok (.i2l, 1) := by decide +kernel
theorem dLa_law_660 : decode code 660 = .ok (.bipush 32, 2) := by decide +kernel
theorem dLa_law_662 : decode code 662 = .ok (.lshl, 1) := by decide +kernel
theorem dLa_law_663 : decode code 663 = .ok (.aload_n 0, 1) := by decide +kernel
theorem dLa_law_664 : decode code 664 = .ok (.iload 4, 2) := by decide +kernel
theorem dLa_law_666 : decode code 666 = .ok (.bipush 7, 2) := by decide +kernel
theorem dLa_law_668 : decode code 668 = .ok (.iadd, 1) := by decide +kernel
theorem dLa_law_669 : decode code 669 = .ok (.iaload, 1) := by decide +kernel
theorem dLa_law_670 : decode code 670 = .ok (.i2l, 1) := by decide +kernel
theorem dLa_law_671 : decode code 671 = .ok (.ldc2_w 86, 3) := by decide +kernel
theorem dLa_law_674 : decode code 674 = .ok (.land, 1) := by decide +kernel
theorem dLa_law_675 : decode code 675 = .ok (.lor, 1) := by decide +kernel
theorem dLa_law_676 : decode code 676 = .ok (.invokevirtual 102, 3) := by decide +kernel
theorem dLa_law_679 : decode code 679 = .ok (.aload_n 2, 1) := by decide +kernel
theorem dLa_law_680 : decode code 680 = .ok (.invokevirtual 92, 3) := by decide +kernel
theorem dLa_law_683 : decode code 683 = .ok (.iload 5, 2) := by decide +kernel
theorem dLa_law_685 : decode code 685 = .ok (.if_icmp .eq 5, 3) := by decide +kernel
theorem dLa_law_688 : decode code 688 = .ok (.iconst 0, 1) := by decide +kernel
theorem dLa_law_689 : decode code 689 = .ok (.ireturn, 1) := by decide +kernel
theorem dLa_law_690 : decode code 690 = .ok (.goto 974, 3) := by decide +kernel
theorem dLa_law_693 : decode code 693 = .ok (.aload_n 1, 1) := by decide +kernel
theorem dLa_law_694 : decode code 694 = .ok (.aload_n 0, 1) := by decide +kernel
theorem dLa_law_695 : decode code 695 = .ok (.iload 4, 2) := by decide +kernel
theorem dLa_law_697 : decode code 697 = .ok (.iconst 1, 1) := by decide +kernel
theorem dLa_law_698 : decode code 698 = .ok (.iadd, 1) := by decide +kernel
theorem dLa_law_699 : decode code 699 = .ok (.iaload, 1) := by decide +kernel
theorem dLa_law_700 : decode code 700 = .ok (.aload_n 3, 1) := by decide +kernel
theorem dLa_law_701 : decode code 701 = .ok (.invokestatic 103, 3) := by decide +kernel
theorem dLa_law_704 : decode code 704 = .ok (.istore 5, 2) := by decide +kernel
theorem dLa_law_706 : decode code 706 = .ok (.aload_n 2, 1) := by decide +kernel
theorem dLa_law_707 : decode code 707 = .ok (.aload_n 0, 1) := by decide +kernel
theorem dLa_law_708 : decode code 708 = .ok (.iload 4, 2) := by decide +kernel
theorem dLa_law_710 : decode code 710 = .ok (.iconst 1, 1) := by decide +kernel
theorem dLa_law_711 : decode code 711 = .ok (.iadd, 1) := by decide +kernel
theorem dLa_law_712 : decode code 712 = .ok (.iaload, 1) := by decide +kernel
theorem dLa_law_713 : decode code 713 = .ok (.invokevirtual 106, 3) := by decide +kernel
theorem dLa_law_716 : decode code 716 = .ok (.istore 6, 2) := by decide +kernel
theorem dLa_law_718 : decode code 718 = .ok (.aload_n 2, 1) := by decide +kernel
theorem dLa_law_719 : decode code 719 = .ok (.invokevirtual 92, 3) := by decide +kernel
theorem dLa_law_722 : decode code 722 = .ok (.iload 5, 2) := by decide +kernel
theorem dLa_law_724 : decode code 724 = .ok (.if_icmp .eq 5, 3) := by decide +kernel
theorem dLa_law_727 : decode code 727 = .ok (.iconst 0, 1) := by decide +kernel
theorem dLa_law_728 : decode code 728 = .ok (.ireturn, 1) := by decide +kernel
theorem dLa_law_729 : decode code 729 = .ok (.iload 5, 2) := by decide +kernel
theorem dLa_law_731 : decode code 731 = .ok (.ifCond .ne 15, 3) := by decide +kernel
theorem dLa_law_734 : decode code 734 = .ok (.aload_n 3, 1) := by decide +kernel
theorem dLa_law_735 : decode code 735 = .ok (.iconst 0, 1) := by decide +kernel
theorem dLa_law_736 : decode code 736 = .ok (.laload, 1) := by decide +kernel
theorem dLa_law_737 : decode code 737 = .ok (.iload 6, 2) := by decide +kernel
theorem dLa_law_739 : decode code 739 = .ok (.i2l, 1) := by decide +kernel
theorem dLa_law_740 : decode code 740 = .ok (.lcmp, 1) := by decide +kernel
theorem dLa_law_741 : decode code 741 = .ok (.ifCond .eq 5, 3) := by decide +kernel
theorem dLa_law_744 : decode code 744 = .ok (.iconst 0, 1) := by decide +kernel
theorem dLa_law_745 : decode code 745 = .ok (.ireturn, 1) := by decide +kernel
theorem dLa_law_746 : decode code 746 = .ok (.goto 918, 3) := by decide +kernel
theorem dLa_law_749 : decode code 749 = .ok (.aload_n 1, 1) := by decide +kernel
theorem dLa_law_750 : decode code 750 = .ok (.aload_n 0, 1) := by decide +kernel
theorem dLa_law_751 : decode code 751 = .ok (.iload 4, 2) := by decide +kernel
theorem dLa_law_753 : decode code 753 = .ok (.iconst 1, 1) := by decide +kernel
theorem dLa_law_754 : decode code 754 = .ok (.iadd, 1) := by decide +kernel
theorem dLa_law_755 : decode code 755 = .ok (.iaload, 1) := by decide +kernel
theorem dLa_law_756 : decode code 756 = .ok (.aload_n 0, 1) := by decide +kernel
theorem dLa_law_757 : decode code 757 = .ok (.iload 4, 2) := by decide +kernel
theorem dLa_law_759 : decode code 759 = .ok (.iconst 2, 1) := by decide +kernel
theorem dLa_law_760 : decode code 760 = .ok (.iadd, 1) := by decide +kernel
theorem dLa_law_761 : decode code 761 = .ok (.iaload, 1) := by decide +kernel
theorem dLa_law_762 : decode code 762 = .ok (.aload_n 3, 1) := by decide +kernel
theorem dLa_law_763 : decode code 763 = .ok (.invokestatic 107, 3) := by decide +kernel
theorem dLa_law_766 : decode code 766 = .ok (.istore 5, 2) := by decide +kernel
theorem dLa_law_768 : decode code 768 = .ok (.aload_n 2, 1) := by decide +kernel
theorem dLa_law_769 : decode code 769 = .ok (.aload_n 0, 1) := by decide +kernel
theorem dLa_law_770 : decode code 770 = .ok (.iload 4, 2) := by decide +kernel
theorem dLa_law_772 : decode code 772 = .ok (.iconst 1, 1) := by decide +kernel
theorem dLa_law_773 : decode code 773 = .ok (.iadd, 1) := by decide +kernel
theorem dLa_law_774 : decode code 774 = .ok (.iaload, 1) := by decide +kernel
theorem dLa_law_775 : decode code 775 = .ok (.aload_n 0, 1) := by decide +kernel
theorem dLa_law_776 : decode code 776 = .ok (.iload 4, 2) := by decide +kernel
theorem dLa_law_778 : decode code 778 = .ok (.iconst 2, 1) := by decide +kernel
theorem dLa_law_779 : decode code 779 = .ok (.iadd, 1) := by decide +kernel
theorem dLa_law_780 : decode code 780 = .ok (.iaload, 1) := by decide +kernel
theorem dLa_law_781 : decode code 781 = .ok (.invokevirtual 110, 3) := by decide +kernel
theorem dLa_law_784 : decode code 784 = .ok (.lstore 6, 2) := by decide +kernel
theorem dLa_law_786 : decode code 786 = .ok (.aload_n 2, 1) := by decide +kernel
theorem dLa_law_787 : decode code 787 = .ok (.invokevirtual 92, 3) := by decide +kernel
theorem dLa_law_790 : decode code 790 = .ok (.iload 5, 2) := by decide +kernel
theorem dLa_law_792 : decode code 792 = .ok (.if_icmp .eq 5, 3) := by decide +kernel
theorem dLa_law_795 : decode code 795 = .ok (.iconst 0, 1) := by decide +kernel
theorem dLa_law_796 : decode code 796 = .ok (.ireturn, 1) := by decide +kernel
theorem dLa_law_797 : decode code 797 = .ok (.iload 5, 2) := by decide +kernel
theorem dLa_law_799 : decode code 799 = .ok (.ifCond .ne 14, 3) := by decide +kernel
theorem dLa_law_802 : decode code 802 = .ok (.aload_n 3, 1) := by decide +kernel
theorem dLa_law_803 : decode code 803 = .ok (.iconst 0, 1) := by decide +kernel
theorem dLa_law_804 : decode code 804 = .ok (.laload, 1) := by decide +kernel
theorem dLa_law_805 : decode code 805 = .ok (.lload 6, 2) := by decide +kernel
theorem dLa_law_807 : decode code 807 = .ok (.lcmp, 1) := by decide +kernel
theorem dLa_law_808 : decode code 808 = .ok (.ifCond .eq 5, 3) := by decide +kernel
theorem dLa_law_811 : decode code 811 = .ok (.iconst 0, 1) := by decide +kernel
theorem dLa_law_812 : decode code 812 = .ok (.ireturn, 1) := by decide +kernel
theorem dLa_law_813 : decode code 813 = .ok (.goto 851, 3) := by decide +kernel
theorem dLa_law_816 : decode code 816 = .ok (.aload_n 1, 1) := by decide +kernel
theorem dLa_law_817 : decode code 817 = .ok (.aload_n 0, 1) := by decide +kernel
theorem dLa_law_818 : decode code 818 = .ok (.iload 4, 2) := by decide +kernel
theorem dLa_law_820 : decode code 820 = .ok (.iconst 1, 1) := by decide +kernel
theorem dLa_law_821 : decode code 821 = .ok (.iadd, 1) := by decide +kernel
theorem dLa_law_822 : decode code 822 = .ok (.iaload, 1) := by decide +kernel
theorem dLa_law_823 : decode code 823 = .ok (.i2l, 1) := by decide +kernel
theorem dLa_law_824 : decode code 824 = .ok (.bipush 32, 2) := by decide +kernel
theorem dLa_law_826 : decode code 826 = .ok (.lshl, 1) := by decide +kernel
theorem dLa_law_827 : decode code 827 = .ok (.aload_n 0, 1) := by decide +kernel
theorem dLa_law_828 : decode code 828 = .ok (.iload 4, 2) := by decide +kernel
theorem dLa_law_830 : decode code 830 = .ok (.iconst 2, 1) := by decide +kernel
theorem dLa_law_831 : decode code 831 = .ok (.iadd, 1) := by decide +kernel
theorem dLa_law_832 : decode code 832 = .ok (.iaload, 1) := by decide +kernel
theorem dLa_law_833 : decode code 833 = .ok (.i2l, 1) := by decide +kernel
theorem dLa_law_834 : decode code 834 = .ok (.ldc2_w 86, 3) := by decide +kernel
theorem dLa_law_837 : decode code 837 = .ok (.land, 1) := by decide +kernel
theorem dLa_law_838 : decode code 838 = .ok (.lor, 1) := by decide +kernel
theorem dLa_law_839 : decode code 839 = .ok (.aload_n 0, 1) := by decide +kernel
theorem dLa_law_840 : decode code 840 = .ok (.iload 4, 2) := by decide +kernel
theorem dLa_law_842 : decode code 842 = .ok (.iconst 3, 1) := by decide +kernel
theorem dLa_law_843 : decode code 843 = .ok (.iadd, 1) := by decide +kernel
theorem dLa_law_844 : decode code 844 = .ok (.iaload, 1) := by decide +kernel
theorem dLa_law_845 : decode code 845 = .ok (.i2l, 1) := by decide +kernel
theorem dLa_law_846 : decode code 846 = .ok (.bipush 32, 2) := by decide +kernel
theorem dLa_law_848 : decode code 848 = .ok (.lshl, 1) := by decide +kernel
theorem dLa_law_849 : decode code 849 = .ok (.aload_n 0, 1) := by decide +kernel
theorem dLa_law_850 : decode code 850 = .ok (.iload 4, 2) := by decide +kernel
theorem dLa_law_852 : decode code 852 = .ok (.iconst 4, 1) := by decide +kernel
theorem dLa_law_853 : decode code 853 = .ok (.iadd, 1) := by decide +kernel
theorem dLa_law_854 : decode code 854 = .ok (.iaload, 1) := by decide +kernel
theorem dLa_law_855 : decode code 855 = .ok (.i2l, 1) := by decide +kernel
theorem dLa_law_856 : decode code 856 = .ok (.ldc2_w 86, 3) := by decide +kernel
theorem dLa_law_859 : decode code 859 = .ok (.land, 1) := by decide +kernel
theorem dLa_law_860 : decode code 860 = .ok (.lor, 1) := by decide +kernel
theorem dLa_law_861 : decode code 861 = .ok (.aload_n 0, 1) := by decide +kernel
theorem dLa_law_862 : decode code 862 = .ok (.iload 4, 2) := by decide +kernel
theorem dLa_law_864 : decode code 864 = .ok (.iconst 5, 1) := by decide +kernel
theorem dLa_law_865 : decode code 865 = .ok (.iadd, 1) := by decide +kernel
theorem dLa_law_866 : decode code 866 = .ok (.iaload, 1) := by decide +kernel
theorem dLa_law_867 : decode code 867 = .ok (.ifCond .eq 7, 3) := by decide +kernel
theorem dLa_law_870 : decode code 870 = .ok (.iconst 1, 1) := by decide +kernel
theorem dLa_law_871 : decode code 871 = .ok (.goto 4, 3) := by decide +kernel
theorem dLa_law_874 : decode code 874 = .ok (.iconst 0, 1) := by decide +kernel
theorem dLa_law_875 : decode code 875 = .ok (.aload_n 3, 1) := by decide +kernel
theorem dLa_law_876 : decode code 876 = .ok (.invokestatic 111, 3) := by decide +kernel
theorem dLa_law_879 : decode code 879 = .ok (.istore 5, 2) := by decide +kernel
theorem dLa_law_881 : decode code 881 = .ok (.aload_n 2, 1) := by decide +kernel
theorem dLa_law_882 : decode code 882 = .ok (.aload_n 0, 1) := by decide +kernel
theorem dLa_law_883 : decode code 883 = .ok (.iload 4, 2) := by decide +kernel
theorem dLa_law_885 : decode code 885 = .ok (.iconst 1, 1) := by decide +kernel
theorem dLa_law_886 : decode code 886 = .ok (.iadd, 1) := by decide +kernel
theorem dLa_law_887 : decode code 887 = .ok (.iaload, 1) := by decide +kernel
theorem dLa_law_888 : decode code 888 = .ok (.i2l, 1) := by decide +kernel
theorem dLa_law_889 : decode code 889 = .ok (.bipush 32, 2) := by decide +kernel
theorem dLa_law_891 : decode code 891 = .ok (.lshl, 1) := by decide +kernel
theorem dLa_law_892 : decode code 892 = .ok (.aload_n 0, 1) := by decide +kernel
theorem dLa_law_893 : decode code 893 = .ok (.iload 4, 2) := by decide +kernel
theorem dLa_law_895 : decode code 895 = .ok (.iconst 2, 1) := by decide +kernel
theorem dLa_law_896 : decode code 896 = .ok (.iadd, 1) := by decide +kernel
theorem dLa_law_897 : decode code 897 = .ok (.iaload, 1) := by decide +kernel
theorem dLa_law_898 : decode code 898 = .ok (.i2l, 1) := by decide +kernel
theorem dLa_law_899 : decode code 899 = .ok (.ldc2_w 86, 3) := by decide +kernel
theorem dLa_law_902 : decode code 902 = .ok (.land, 1) := by decide +kernel
theorem dLa_law_903 : decode code 903 = .ok (.lor, 1) := by decide +kernel
theorem dLa_law_904 : decode code 904 = .ok (.aload_n 0, 1) := by decide +kernel
theorem dLa_law_905 : decode code 905 = .ok (.iload 4, 2) := by decide +kernel
theorem dLa_law_907 : decode code 907 = .ok (.iconst 3, 1) := by decide +kernel
theorem dLa_law_908 : decode code 908 = .ok (.iadd, 1) := by decide +kernel
theorem dLa_law_909 : decode code 909 = .ok (.iaload, 1) := by decide +kernel
theorem dLa_law_910 : decode code 910 = .ok (.i2l, 1) := by decide +kernel
theorem dLa_law_911 : decode code 911 = .ok (.bipush 32, 2) := by decide +kernel
theorem dLa_law_913 : decode code 913 = .ok (.lshl, 1) := by decide +kernel
theorem dLa_law_914 : decode code 914 = .ok (.aload_n 0, 1) := by decide +kernel
theorem dLa_law_915 : decode code 915 = .ok (.iload 4, 2) := by decide +kernel
theorem dLa_law_917 : decode code 917 = .ok (.iconst 4, 1) := by decide +kernel
theorem dLa_law_918 : decode code 918 = .ok (.iadd, 1) := by decide +kernel
theorem dLa_law_919 : decode code 919 = .ok (.iaload, 1) := by decide +kernel
theorem dLa_law_920 : decode code 920 = .ok (.i2l, 1) := by decide +kernel
theorem dLa_law_921 : decode code 921 = .ok (.ldc2_w 86, 3) := by decide +kernel
theorem dLa_law_924 : decode code 924 = .ok (.land, 1) := by decide +kernel
theorem dLa_law_925 : decode code 925 = .ok (.lor, 1) := by decide +kernel
theorem dLa_law_926 : decode code 926 = .ok (.aload_n 0, 1) := by decide +kernel
theorem dLa_law_927 : decode code 927 = .ok (.iload 4, 2) := by decide +kernel
theorem dLa_law_929 : decode code 929 = .ok (.iconst 5, 1) := by decide +kernel
theorem dLa_law_930 : decode code 930 = .ok (.iadd, 1) := by decide +kernel
theorem dLa_law_931 : decode code 931 = .ok (.iaload, 1) := by decide +kernel
theorem dLa_law_932 : decode code 932 = .ok (.ifCond .eq 7, 3) := by decide +kernel
theorem dLa_law_935 : decode code 935 = .ok (.iconst 1, 1) := by decide +kernel
theorem dLa_law_936 : decode code 936 = .ok (.goto 4, 3) := by decide +kernel
theorem dLa_law_939 : decode code 939 = .ok (.iconst 0, 1) := by decide +kernel
theorem dLa_law_940 : decode code 940 = .ok (.invokevirtual 114, 3) := by decide +kernel
theorem dLa_law_943 : decode code 943 = .ok (.istore 6, 2) := by decide +kernel
theorem dLa_law_945 : decode code 945 = .ok (.aload_n 2, 1) := by decide +kernel
theorem dLa_law_946 : decode code 946 = .ok (.invokevirtual 92, 3) := by decide +kernel
theorem dLa_law_949 : decode code 949 = .ok (.iload 5, 2) := by decide +kernel
theorem dLa_law_951 : decode code 951 = .ok (.if_icmp .eq 5, 3) := by decide +kernel
theorem dLa_law_954 : decode code 954 = .ok (.iconst 0, 1) := by decide +kernel
theorem dLa_law_955 : decode code 955 = .ok (.ireturn, 1) := by decide +kernel
theorem dLa_law_956 : decode code 956 = .ok (.iload 5, 2) := by decide +kernel
theorem dLa_law_958 : decode code 958 = .ok (.ifCond .ne 15, 3) := by decide +kernel
theorem dLa_law_961 : decode code 961 = .ok (.aload_n 3, 1) := by decide +kernel
theorem dLa_law_962 : decode code 962 = .ok (.iconst 0, 1) := by decide +kernel
theorem dLa_law_963 : decode code 963 = .ok (.laload, 1) := by decide +kernel
theorem dLa_law_964 : decode code 964 = .ok (.iload 6, 2) := by decide +kernel
theorem dLa_law_966 : decode code 966 = .ok (.i2l, 1) := by decide +kernel
theorem dLa_law_967 : decode code 967 = .ok (.lcmp, 1) := by decide +kernel
theorem dLa_law_968 : decode code 968 = .ok (.ifCond .eq 5, 3) := by decide +kernel
theorem dLa_law_971 : decode code 971 = .ok (.iconst 0, 1) := by decide +kernel
theorem dLa_law_972 : decode code 972 = .ok (.ireturn, 1) := by decide +kernel
theorem dLa_law_973 : decode code 973 = .ok (.goto 691, 3) := by decide +kernel
theorem dLa_law_976 : decode code 976 = .ok (.aload_n 1, 1) := by decide +kernel
theorem dLa_law_977 : decode code 977 = .ok (.aload_n 0, 1) := by decide +kernel
theorem dLa_law_978 : decode code 978 = .ok (.iload 4, 2) := by decide +kernel
theorem dLa_law_980 : decode code 980 = .ok (.iconst 1, 1) := by decide +kernel
theorem dLa_law_981 : decode code 981 = .ok (.iadd, 1) := by decide +kernel
theorem dLa_law_982 : decode code 982 = .ok (.iaload, 1) := by decide +kernel
theorem dLa_law_983 : decode code 983 = .ok (.ifCond .eq 7, 3) := by decide +kernel
theorem dLa_law_986 : decode code 986 = .ok (.iconst 1, 1) := by decide +kernel
theorem dLa_law_987 : decode code 987 = .ok (.goto 4, 3) := by decide +kernel
theorem dLa_law_990 : decode code 990 = .ok (.iconst 0, 1) := by decide +kernel
theorem dLa_law_991 : decode code 991 = .ok (.aload_n 3, 1) := by decide +kernel
theorem dLa_law_992 : decode code 992 = .ok (.invokestatic 115, 3) := by decide +kernel
theorem dLa_law_995 : decode code 995 = .ok (.istore 5, 2) := by decide +kernel
theorem dLa_law_997 : decode code 997 = .ok (.aload_n 2, 1) := by decide +kernel
theorem dLa_law_998 : decode code 998 = .ok (.aload_n 0, 1) := by decide +kernel
theorem dLa_law_999 : decode code 999 = .ok (.iload 4, 2) := by decide +kernel
theorem dLa_law_1001 : decode code 1001 = .ok (.iconst 1, 1) := by decide +kernel
theorem dLa_law_1002 : decode code 1002 = .ok (.iadd, 1) := by decide +kernel
theorem dLa_law_1003 : decode code 1003 = .ok (.iaload, 1) := by decide +kernel
theorem dLa_law_1004 : decode code 1004 = .ok (.ifCond .eq 7, 3) := by decide +kernel
theorem dLa_law_1007 : decode code 1007 = .ok (.iconst 1, 1) := by decide +kernel
theorem dLa_law_1008 : decode code 1008 = .ok (.goto 4, 3) := by decide +kernel
theorem dLa_law_1011 : decode code 1011 = .ok (.iconst 0, 1) := by decide +kernel
theorem dLa_law_1012 : decode code 1012 = .ok (.invokevirtual 118, 3) := by decide +kernel
theorem dLa_law_1015 : decode code 1015 = .ok (.lstore 6, 2) := by decide +kernel
theorem dLa_law_1017 : decode code 1017 = .ok (.aload_n 2, 1) := by decide +kernel
theorem dLa_law_1018 : decode code 1018 = .ok (.invokevirtual 92, 3) := by decide +kernel
theorem dLa_law_1021 : decode code 1021 = .ok (.iload 5, 2) := by decide +kernel
theorem dLa_law_1023 : decode code 1023 = .ok (.if_icmp .eq 5, 3) := by decide +kernel
theorem dLa_law_1026 : decode code 1026 = .ok (.iconst 0, 1) := by decide +kernel
theorem dLa_law_1027 : decode code 1027 = .ok (.ireturn, 1) := by decide +kernel
theorem dLa_law_1028 : decode code 1028 = .ok (.iload 5, 2) := by decide +kernel
theorem dLa_law_1030 : decode code 1030 = .ok (.ifCond .ne 14, 3) := by decide +kernel
theorem dLa_law_1033 : decode code 1033 = .ok (.aload_n 3, 1) := by decide +kernel
theorem dLa_law_1034 : decode code 1034 = .ok (.iconst 0, 1) := by decide +kernel
theorem dLa_law_1035 : decode code 1035 = .ok (.laload, 1) := by decide +kernel
theorem dLa_law_1036 : decode code 1036 = .ok (.lload 6, 2) := by decide +kernel
theorem dLa_law_1038 : decode code 1038 = .ok (.lcmp, 1) := by decide +kernel
theorem dLa_law_1039 : decode code 1039 = .ok (.ifCond .eq 5, 3) := by decide +kernel
theorem dLa_law_1042 : decode code 1042 = .ok (.iconst 0, 1) := by decide +kernel
theorem dLa_law_1043 : decode code 1043 = .ok (.ireturn, 1) := by decide +kernel
theorem dLa_law_1044 : decode code 1044 = .ok (.goto 620, 3) := by decide +kernel
theorem dLa_law_1047 : decode code 1047 = .ok (.aload_n 1, 1) := by decide +kernel
theorem dLa_law_1048 : decode code 1048 = .ok (.aload_n 0, 1) := by decide +kernel
theorem dLa_law_1049 : decode code 1049 = .ok (.iload 4, 2) := by decide +kernel
theorem dLa_law_1051 : decode code 1051 = .ok (.iconst 1, 1) := by decide +kernel
theorem dLa_law_1052 : decode code 1052 = .ok (.iadd, 1) := by decide +kernel
theorem dLa_law_1053 : decode code 1053 = .ok (.iaload, 1) := by decide +kernel
theorem dLa_law_1054 : decode code 1054 = .ok (.aload_n 0, 1) := by decide +kernel
theorem dLa_law_1055 : decode code 1055 = .ok (.iload 4, 2) := by decide +kernel
theorem dLa_law_1057 : decode code 1057 = .ok (.iconst 2, 1) := by decide +kernel
theorem dLa_law_1058 : decode code 1058 = .ok (.iadd, 1) := by decide +kernel
theorem dLa_law_1059 : decode code 1059 = .ok (.iaload, 1) := by decide +kernel
theorem dLa_law_1060 : decode code 1060 = .ok (.aload_n 0, 1) := by decide +kernel
theorem dLa_law_1061 : decode code 1061 = .ok (.iload 4, 2) := by decide +kernel
theorem dLa_law_1063 : decode code 1063 = .ok (.iconst 3, 1) := by decide +kernel
theorem dLa_law_1064 : decode code 1064 = .ok (.iadd, 1) := by decide +kernel
theorem dLa_law_1065 : decode code 1065 = .ok (.iaload, 1) := by decide +kernel
theorem dLa_law_1066 : decode code 1066 = .ok (.aload_n 3, 1) := by decide +kernel
theorem dLa_law_1067 : decode code 1067 = .ok (.invokestatic 119, 3) := by decide +kernel
theorem dLa_law_1070 : decode code 1070 = .ok (.istore 5, 2) := by decide +kernel
theorem dLa_law_1072 : decode code 1072 = .ok (.aload_n 2, 1) := by decide +kernel
theorem dLa_law_1073 : decode code 1073 = .ok (.aload_n 0, 1) := by decide +kernel
theorem dLa_law_1074 : decode code 1074 = .ok (.iload 4, 2) := by decide +kernel
theorem dLa_law_1076 : decode code 1076 = .ok (.iconst 1, 1) := by decide +kernel
theorem dLa_law_1077 : decode code 1077 = .ok (.iadd, 1) := by decide +kernel
theorem dLa_law_1078 : decode code 1078 = .ok (.iaload, 1) := by decide +kernel
theorem dLa_law_1079 : decode code 1079 = .ok (.aload_n 0, 1) := by decide +kernel
theorem dLa_law_1080 : decode code 1080 = .ok (.iload 4, 2) := by decide +kernel
theorem dLa_law_1082 : decode code 1082 = .ok (.iconst 2, 1) := by decide +kernel
theorem dLa_law_1083 : decode code 1083 = .ok (.iadd, 1) := by decide +kernel
theorem dLa_law_1084 : decode code 1084 = .ok (.iaload, 1) := by decide +kernel
theorem dLa_law_1085 : decode code 1085 = .ok (.aload_n 0, 1) := by decide +kernel
theorem dLa_law_1086 : decode code 1086 = .ok (.iload 4, 2) := by decide +kernel
theorem dLa_law_1088 : decode code 1088 = .ok (.iconst 3, 1) := by decide +kernel
theorem dLa_law_1089 : decode code 1089 = .ok (.iadd, 1) := by decide +kernel
theorem dLa_law_1090 : decode code 1090 = .ok (.iaload, 1) := by decide +kernel
theorem dLa_law_1091 : decode code 1091 = .ok (.invokevirtual 122, 3) := by decide +kernel
theorem dLa_law_1094 : decode code 1094 = .ok (.istore 6, 2) := by decide +kernel
theorem dLa_law_1096 : decode code 1096 = .ok (.aload_n 2, 1) := by decide +kernel
theorem dLa_law_1097 : decode code 1097 = .ok (.invokevirtual 92, 3) := by decide +kernel
theorem dLa_law_1100 : decode code 1100 = .ok (.iload 5, 2) := by decide +kernel
theorem dLa_law_1102 : decode code 1102 = .ok (.if_icmp .eq 5, 3) := by decide +kernel
theorem dLa_law_1105 : decode code 1105 = .ok (.iconst 0, 1) := by decide +kernel
theorem dLa_law_1106 : decode code 1106 = .ok (.ireturn, 1) := by decide +kernel
theorem dLa_law_1107 : decode code 1107 = .ok (.iload 5, 2) := by decide +kernel
theorem dLa_law_1109 : decode code 1109 = .ok (.ifCond .ne 15, 3) := by decide +kernel
theorem dLa_law_1112 : decode code 1112 = .ok (.aload_n 3, 1) := by decide +kernel
theorem dLa_law_1113 : decode code 1113 = .ok (.iconst 0, 1) := by decide +kernel
theorem dLa_law_1114 : decode code 1114 = .ok (.laload, 1) := by decide +kernel
theorem dLa_law_1115 : decode code 1115 = .ok (.iload 6, 2) := by decide +kernel
theorem dLa_law_1117 : decode code 1117 = .ok (.i2l, 1) := by decide +kernel
theorem dLa_law_1118 : decode code 1118 = .ok (.lcmp, 1) := by decide +kernel
theorem dLa_law_1119 : decode code 1119 = .ok (.ifCond .eq 5, 3) := by decide +kernel
theorem dLa_law_1122 : decode code 1122 = .ok (.iconst 0, 1) := by decide +kernel
theorem dLa_law_1123 : decode code 1123 = .ok (.ireturn, 1) := by decide +kernel
theorem dLa_law_1124 : decode code 1124 = .ok (.goto 540, 3) := by decide +kernel
theorem dLa_law_1127 : decode code 1127 = .ok (.aload_n 1, 1) := by decide +kernel
theorem dLa_law_1128 : decode code 1128 = .ok (.aload_n 0, 1) := by decide +kernel
theorem dLa_law_1129 : decode code 1129 = .ok (.iload 4, 2) := by decide +kernel
theorem dLa_law_1131 : decode code 1131 = .ok (.iconst 1, 1) := by decide +kernel
theorem dLa_law_1132 : decode code 1132 = .ok (.iadd, 1) := by decide +kernel
theorem dLa_law_1133 : decode code 1133 = .ok (.iaload, 1) := by decide +kernel
theorem dLa_law_1134 : decode code 1134 = .ok (.aload_n 3, 1) := by decide +kernel
theorem dLa_law_1135 : decode code 1135 = .ok (.invokestatic 123, 3) := by decide +kernel
theorem dLa_law_1138 : decode code 1138 = .ok (.istore 5, 2) := by decide +kernel
theorem dLa_law_1140 : decode code 1140 = .ok (.aload_n 2, 1) := by decide +kernel
theorem dLa_law_1141 : decode code 1141 = .ok (.aload_n 0, 1) := by decide +kernel
theorem dLa_law_1142 : decode code 1142 = .ok (.iload 4, 2) := by decide +kernel
theorem dLa_law_1144 : decode code 1144 = .ok (.iconst 1, 1) := by decide +kernel
theorem dLa_law_1145 : decode code 1145 = .ok (.iadd, 1) := by decide +kernel
theorem dLa_law_1146 : decode code 1146 = .ok (.iaload, 1) := by decide +kernel
theorem dLa_law_1147 : decode code 1147 = .ok (.invokevirtual 125, 3) := by decide +kernel
theorem dLa_law_1150 : decode code 1150 = .ok (.istore 6, 2) := by decide +kernel
theorem dLa_law_1152 : decode code 1152 = .ok (.aload_n 2, 1) := by decide +kernel
theorem dLa_law_1153 : decode code 1153 = .ok (.invokevirtual 92, 3) := by decide +kernel
theorem dLa_law_1156 : decode code 1156 = .ok (.iload 5, 2) := by decide +kernel
theorem dLa_law_1158 : decode code 1158 = .ok (.if_icmp .eq 5, 3) := by decide +kernel
theorem dLa_law_1161 : decode code 1161 = .ok (.iconst 0, 1) := by decide +kernel
theorem dLa_law_1162 : decode code 1162 = .ok (.ireturn, 1) := by decide +kernel
theorem dLa_law_1163 : decode code 1163 = .ok (.iload 5, 2) := by decide +kernel
theorem dLa_law_1165 : decode code 1165 = .ok (.ifCond .ne 15, 3) := by decide +kernel
theorem dLa_law_1168 : decode code 1168 = .ok (.aload_n 3, 1) := by decide +kernel
theorem dLa_law_1169 : decode code 1169 = .ok (.iconst 0, 1) := by decide +kernel
theorem dLa_law_1170 : decode code 1170 = .ok (.laload, 1) := by decide +kernel
theorem dLa_law_1171 : decode code 1171 = .ok (.iload 6, 2) := by decide +kernel
theorem dLa_law_1173 : decode code 1173 = .ok (.i2l, 1) := by decide +kernel
theorem dLa_law_1174 : decode code 1174 = .ok (.lcmp, 1) := by decide +kernel
theorem dLa_law_1175 : decode code 1175 = .ok (.ifCond .eq 5, 3) := by decide +kernel
theorem dLa_law_1178 : decode code 1178 = .ok (.iconst 0, 1) := by decide +kernel
theorem dLa_law_1179 : decode code 1179 = .ok (.ireturn, 1) := by decide +kernel
theorem dLa_law_1180 : decode code 1180 = .ok (.goto 484, 3) := by decide +kernel
theorem dLa_law_1183 : decode code 1183 = .ok (.aload_n 1, 1) := by decide +kernel
theorem dLa_law_1184 : decode code 1184 = .ok (.aload_n 0, 1) := by decide +kernel
theorem dLa_law_1185 : decode code 1185 = .ok (.iload 4, 2) := by decide +kernel
theorem dLa_law_1187 : decode code 1187 = .ok (.iconst 1, 1) := by decide +kernel
theorem dLa_law_1188 : decode code 1188 = .ok (.iadd, 1) := by decide +kernel
theorem dLa_law_1189 : decode code 1189 = .ok (.iaload, 1) := by decide +kernel
theorem dLa_law_1190 : decode code 1190 = .ok (.aload_n 0, 1) := by decide +kernel
theorem dLa_law_1191 : decode code 1191 = .ok (.iload 4, 2) := by decide +kernel
theorem dLa_law_1193 : decode code 1193 = .ok (.iconst 2, 1) := by decide +kernel
theorem dLa_law_1194 : decode code 1194 = .ok (.iadd, 1) := by decide +kernel
theorem dLa_law_1195 : decode code 1195 = .ok (.iaload, 1) := by decide +kernel
theorem dLa_law_1196 : decode code 1196 = .ok (.aload_n 3, 1) := by decide +kernel
theorem dLa_law_1197 : decode code 1197 = .ok (.invokestatic 126, 3) := by decide +kernel
theorem dLa_law_1200 : decode code 1200 = .ok (.istore 5, 2) := by decide +kernel
theorem dLa_law_1202 : decode code 1202 = .ok (.aload_n 2, 1) := by decide +kernel
theorem dLa_law_1203 : decode code 1203 = .ok (.aload_n 0, 1) := by decide +kernel
theorem dLa_law_1204 : decode code 1204 = .ok (.iload 4, 2) := by decide +kernel
theorem dLa_law_1206 : decode code 1206 = .ok (.iconst 1, 1) := by decide +kernel
theorem dLa_law_1207 : decode code 1207 = .ok (.iadd, 1) := by decide +kernel
theorem dLa_law_1208 : decode code 1208 = .ok (.iaload, 1) := by decide +kernel
theorem dLa_law_1209 : decode code 1209 = .ok (.aload_n 0, 1) := by decide +kernel
theorem dLa_law_1210 : decode code 1210 = .ok (.iload 4, 2) := by decide +kernel
theorem dLa_law_1212 : decode code 1212 = .ok (.iconst 2, 1) := by decide +kernel
theorem dLa_law_1213 : decode code 1213 = .ok (.iadd, 1) := by decide +kernel
theorem dLa_law_1214 : decode code 1214 = .ok (.iaload, 1) := by decide +kernel
theorem dLa_law_1215 : decode code 1215 = .ok (.invokevirtual 128, 3) := by decide +kernel
theorem dLa_law_1218 : decode code 1218 = .ok (.lstore 6, 2) := by decide +kernel
theorem dLa_law_1220 : decode code 1220 = .ok (.aload_n 2, 1) := by decide +kernel
theorem dLa_law_1221 : decode code 1221 = .ok (.invokevirtual 92, 3) := by decide +kernel
theorem dLa_law_1224 : decode code 1224 = .ok (.iload 5, 2) := by decide +kernel
theorem dLa_law_1226 : decode code 1226 = .ok (.if_icmp .eq 5, 3) := by decide +kernel
theorem dLa_law_1229 : decode code 1229 = .ok (.iconst 0, 1) := by decide +kernel
theorem dLa_law_1230 : decode code 1230 = .ok (.ireturn, 1) := by decide +kernel
theorem dLa_law_1231 : decode code 1231 = .ok (.iload 5, 2) := by decide +kernel
theorem dLa_law_1233 : decode code 1233 = .ok (.ifCond .ne 14, 3) := by decide +kernel
theorem dLa_law_1236 : decode code 1236 = .ok (.aload_n 3, 1) := by decide +kernel
theorem dLa_law_1237 : decode code 1237 = .ok (.iconst 0, 1) := by decide +kernel
theorem dLa_law_1238 : decode code 1238 = .ok (.laload, 1) := by decide +kernel
theorem dLa_law_1239 : decode code 1239 = .ok (.lload 6, 2) := by decide +kernel
theorem dLa_law_1241 : decode code 1241 = .ok (.lcmp, 1) := by decide +kernel
theorem dLa_law_1242 : decode code 1242 = .ok (.ifCond .eq 5, 3) := by decide +kernel
theorem dLa_law_1245 : decode code 1245 = .ok (.iconst 0, 1) := by decide +kernel
theorem dLa_law_1246 : decode code 1246 = .ok (.ireturn, 1) := by decide +kernel
theorem dLa_law_1247 : decode code 1247 = .ok (.goto 417, 3) := by decide +kernel
theorem dLa_law_1250 : decode code 1250 = .ok (.aload_n 1, 1) := by decide +kernel
theorem dLa_law_1251 : decode code 1251 = .ok (.aload_n 0, 1) := by decide +kernel
theorem dLa_law_1252 : decode code 1252 = .ok (.iload 4, 2) := by decide +kernel
theorem dLa_law_1254 : decode code 1254 = .ok (.iconst 1, 1) := by decide +kernel
theorem dLa_law_1255 : decode code 1255 = .ok (.iadd, 1) := by decide +kernel
theorem dLa_law_1256 : decode code 1256 = .ok (.iaload, 1) := by decide +kernel
theorem dLa_law_1257 : decode code 1257 = .ok (.aload_n 0, 1) := by decide +kernel
theorem dLa_law_1258 : decode code 1258 = .ok (.iload 4, 2) := by decide +kernel
theorem dLa_law_1260 : decode code 1260 = .ok (.iconst 2, 1) := by decide +kernel
theorem dLa_law_1261 : decode code 1261 = .ok (.iadd, 1) := by decide +kernel
theorem dLa_law_1262 : decode code 1262 = .ok (.iaload, 1) := by decide +kernel
theorem dLa_law_1263 : decode code 1263 = .ok (.i2l, 1) := by decide +kernel
theorem dLa_law_1264 : decode code 1264 = .ok (.bipush 32, 2) := by decide +kernel
theorem dLa_law_1266 : decode code 1266 = .ok (.lshl, 1) := by decide +kernel
theorem dLa_law_1267 : decode code 1267 = .ok (.aload_n 0, 1) := by decide +kernel
theorem dLa_law_1268 : decode code 1268 = .ok (.iload 4, 2) := by decide +kernel
theorem dLa_law_1270 : decode code 1270 = .ok (.iconst 3, 1) := by decide +kernel
theorem dLa_law_1271 : decode code 1271 = .ok (.iadd, 1) := by decide +kernel
theorem dLa_law_1272 : decode code 1272 = .ok (.iaload, 1) := by decide +kernel
theorem dLa_law_1273 : decode code 1273 = .ok (.i2l, 1) := by decide +kernel
theorem dLa_law_1274 : decode code 1274 = .ok (.ldc2_w 86, 3) := by decide +kernel
theorem dLa_law_1277 : decode code 1277 = .ok (.land, 1) := by decide +kernel
theorem dLa_law_1278 : decode code 1278 = .ok (.lor, 1) := by decide +kernel
theorem dLa_law_1279 : decode code 1279 = .ok (.aload_n 0, 1) := by decide +kernel
theorem dLa_law_1280 : decode code 1280 = .ok (.iload 4, 2) := by decide +kernel
theorem dLa_law_1282 : decode code 1282 = .ok (.iconst 4, 1) := by decide +kernel
theorem dLa_law_1283 : decode code 1283 = .ok (.iadd, 1) := by decide +kernel
theorem dLa_law_1284 : decode code 1284 = .ok (.iaload, 1) := by decide +kernel
theorem dLa_law_1285 : decode code 1285 = .ok (.aload_n 3, 1) := by decide +kernel
theorem dLa_law_1286 : decode code 1286 = .ok (.invokestatic 129, 3) := by decide +kernel
theorem dLa_law_1289 : decode code 1289 = .ok (.istore 5, 2) := by decide +kernel
theorem dLa_law_1291 : decode code 1291 = .ok (.aload_n 2, 1) := by decide +kernel
theorem dLa_law_1292 : decode code 1292 = .ok (.aload_n 0, 1) := by decide +kernel
theorem dLa_law_1293 : decode code 1293 = .ok (.iload 4, 2) := by decide +kernel
theorem dLa_law_1295 : decode code 1295 = .ok (.iconst 1, 1) := by decide +kernel
theorem dLa_law_1296 : decode code 1296 = .ok (.iadd, 1) := by decide +kernel
theorem dLa_law_1297 : decode code 1297 = .ok (.iaload, 1) := by decide +kernel
theorem dLa_law_1298 : decode code 1298 = .ok (.aload_n 0, 1) := by decide +kernel
theorem dLa_law_1299 : decode code 1299 = .ok (.iload 4, 2) := by decide +kernel
theorem dLa_law_1301 : decode code 1301 = .ok (.iconst 2, 1) := by decide +kernel
theorem dLa_law_1302 : decode code 1302 = .ok (.iadd, 1) := by decide +kernel
theorem dLa_law_1303 : decode code 1303 = .ok (.iaload, 1) := by decide +kernel
theorem dLa_law_1304 : decode code 1304 = .ok (.i2l, 1) := by decide +kernel
theorem dLa_law_1305 : decode code 1305 = .ok (.bipush 32, 2) := by decide +kernel
theorem dLa_law_1307 : decode code 1307 = .ok (.lshl, 1) := by decide +kernel
theorem dLa_law_1308 : decode code 1308 = .ok (.aload_n 0, 1) := by decide +kernel
theorem dLa_law_1309 : decode code 1309 = .ok (.iload 4, 2) := by decide +kernel
theorem dLa_law_1311 : decode code 1311 = .ok (.iconst 3, 1) := by decide +kernel
theorem dLa_law_1312 : decode code 1312 = .ok (.iadd, 1) := by decide +kernel
theorem dLa_law_1313 : decode code 1313 = .ok (.iaload, 1) := by decide +kernel
theorem dLa_law_1314 : decode code 1314 = .ok (.i2l, 1) := by decide +kernel
theorem dLa_law_1315 : decode code 1315 = .ok (.ldc2_w 86, 3) := by decide +kernel
theorem dLa_law_1318 : decode code 1318 = .ok (.land, 1) := by decide +kernel
theorem dLa_law_1319 : decode code 1319 = .ok (.lor, 1) := by decide +kernel
theorem dLa_law_1320 : decode code 1320 = .ok (.aload_n 0, 1) := by decide +kernel
theorem dLa_law_1321 : decode code 1321 = .ok (.iload 4, 2) := by decide +kernel
theorem dLa_law_1323 : decode code 1323 = .ok (.iconst 4, 1) := by decide +kernel
theorem dLa_law_1324 : decode code 1324 = .ok (.iadd, 1) := by decide +kernel
theorem dLa_law_1325 : decode code 1325 = .ok (.iaload, 1) := by decide +kernel
theorem dLa_law_1326 : decode code 1326 = .ok (.invokevirtual 132, 3) := by decide +kernel
theorem dLa_law_1329 : decode code 1329 = .ok (.lstore 6, 2) := by decide +kernel
theorem dLa_law_1331 : decode code 1331 = .ok (.aload_n 2, 1) := by decide +kernel
theorem dLa_law_1332 : decode code 1332 = .ok (.invokevirtual 92, 3) := by decide +kernel
theorem dLa_law_1335 : decode code 1335 = .ok (.iload 5, 2) := by decide +kernel
theorem dLa_law_1337 : decode code 1337 = .ok (.if_icmp .eq 5, 3) := by decide +kernel
theorem dLa_law_1340 : decode code 1340 = .ok (.iconst 0, 1) := by decide +kernel
theorem dLa_law_1341 : decode code 1341 = .ok (.ireturn, 1) := by decide +kernel
theorem dLa_law_1342 : decode code 1342 = .ok (.iload 5, 2) := by decide +kernel
theorem dLa_law_1344 : decode code 1344 = .ok (.ifCond .ne 14, 3) := by decide +kernel
theorem dLa_law_1347 : decode code 1347 = .ok (.aload_n 3, 1) := by decide +kernel
theorem dLa_law_1348 : decode code 1348 = .ok (.iconst 0, 1) := by decide +kernel
theorem dLa_law_1349 : decode code 1349 = .ok (.laload, 1) := by decide +kernel
theorem dLa_law_1350 : decode code 1350 = .ok (.lload 6, 2) := by decide +kernel
theorem dLa_law_1352 : decode code 1352 = .ok (.lcmp, 1) := by decide +kernel
theorem dLa_law_1353 : decode code 1353 = .ok (.ifCond .eq 5, 3) := by decide +kernel
theorem dLa_law_1356 : decode code 1356 = .ok (.iconst 0, 1) := by decide +kernel
theorem dLa_law_1357 : decode code 1357 = .ok (.ireturn, 1) := by decide +kernel
theorem dLa_law_1358 : decode code 1358 = .ok (.goto 306, 3) := by decide +kernel
theorem dLa_law_1361 : decode code 1361 = .ok (.aload_n 1, 1) := by decide +kernel
theorem dLa_law_1362 : decode code 1362 = .ok (.aload_n 0, 1) := by decide +kernel
theorem dLa_law_1363 : decode code 1363 = .ok (.iload 4, 2) := by decide +kernel
theorem dLa_law_1365 : decode code 1365 = .ok (.iconst 1, 1) := by decide +kernel
theorem dLa_law_1366 : decode code 1366 = .ok (.iadd, 1) := by decide +kernel
theorem dLa_law_1367 : decode code 1367 = .ok (.iaload, 1) := by decide +kernel
theorem dLa_law_1368 : decode code 1368 = .ok (.aload_n 0, 1) := by decide +kernel
theorem dLa_law_1369 : decode code 1369 = .ok (.iload 4, 2) := by decide +kernel
theorem dLa_law_1371 : decode code 1371 = .ok (.iconst 2, 1) := by decide +kernel
theorem dLa_law_1372 : decode code 1372 = .ok (.iadd, 1) := by decide +kernel
theorem dLa_law_1373 : decode code 1373 = .ok (.iaload, 1) := by decide +kernel
theorem dLa_law_1374 : decode code 1374 = .ok (.aload_n 3, 1) := by decide +kernel
theorem dLa_law_1375 : decode code 1375 = .ok (.invokestatic 133, 3) := by decide +kernel
theorem dLa_law_1378 : decode code 1378 = .ok (.istore 5, 2) := by decide +kernel
theorem dLa_law_1380 : decode code 1380 = .ok (.aload_n 2, 1) := by decide +kernel
theorem dLa_law_1381 : decode code 1381 = .ok (.aload_n 0, 1) := by decide +kernel
theorem dLa_law_1382 : decode code 1382 = .ok (.iload 4, 2) := by decide +kernel
theorem dLa_law_1384 : decode code 1384 = .ok (.iconst 1, 1) := by decide +kernel
theorem dLa_law_1385 : decode code 1385 = .ok (.iadd, 1) := by decide +kernel
theorem dLa_law_1386 : decode code 1386 = .ok (.iaload, 1) := by decide +kernel
theorem dLa_law_1387 : decode code 1387 = .ok (.aload_n 0, 1) := by decide +kernel
theorem dLa_law_1388 : decode code 1388 = .ok (.iload 4, 2) := by decide +kernel
theorem dLa_law_1390 : decode code 1390 = .ok (.iconst 2, 1) := by decide +kernel
theorem dLa_law_1391 : decode code 1391 = .ok (.iadd, 1) := by decide +kernel
theorem dLa_law_1392 : decode code 1392 = .ok (.iaload, 1) := by decide +kernel
theorem dLa_law_1393 : decode code 1393 = .ok (.invokevirtual 135, 3) := by decide +kernel
theorem dLa_law_1396 : decode code 1396 = .ok (.lstore 6, 2) := by decide +kernel
theorem dLa_law_1398 : decode code 1398 = .ok (.aload_n 2, 1) := by decide +kernel
theorem dLa_law_1399 : decode code 1399 = .ok (.invokevirtual 92, 3) := by decide +kernel
theorem dLa_law_1402 : decode code 1402 = .ok (.iload 5, 2) := by decide +kernel
theorem dLa_law_1404 : decode code 1404 = .ok (.if_icmp .eq 5, 3) := by decide +kernel
theorem dLa_law_1407 : decode code 1407 = .ok (.iconst 0, 1) := by decide +kernel
theorem dLa_law_1408 : decode code 1408 = .ok (.ireturn, 1) := by decide +kernel
theorem dLa_law_1409 : decode code 1409 = .ok (.iload 5, 2) := by decide +kernel
theorem dLa_law_1411 : decode code 1411 = .ok (.ifCond .ne 14, 3) := by decide +kernel
theorem dLa_law_1414 : decode code 1414 = .ok (.aload_n 3, 1) := by decide +kernel
theorem dLa_law_1415 : decode code 1415 = .ok (.iconst 0, 1) := by decide +kernel
theorem dLa_law_1416 : decode code 1416 = .ok (.laload, 1) := by decide +kernel
theorem dLa_law_1417 : decode code 1417 = .ok (.lload 6, 2) := by decide +kernel
theorem dLa_law_1419 : decode code 1419 = .ok (.lcmp, 1) := by decide +kernel
theorem dLa_law_1420 : decode code 1420 = .ok (.ifCond .eq 5, 3) := by decide +kernel
theorem dLa_law_1423 : decode code 1423 = .ok (.iconst 0, 1) := by decide +kernel
theorem dLa_law_1424 : decode code 1424 = .ok (.ireturn, 1) := by decide +kernel
theorem dLa_law_1425 : decode code 1425 = .ok (.goto 239, 3) := by decide +kernel
theorem dLa_law_1428 : decode code 1428 = .ok (.aload_n 1, 1) := by decide +kernel
theorem dLa_law_1429 : decode code 1429 = .ok (.aload_n 0, 1) := by decide +kernel
theorem dLa_law_1430 : decode code 1430 = .ok (.iload 4, 2) := by decide +kernel
theorem dLa_law_1432 : decode code 1432 = .ok (.iconst 1, 1) := by decide +kernel
theorem dLa_law_1433 : decode code 1433 = .ok (.iadd, 1) := by decide +kernel
theorem dLa_law_1434 : decode code 1434 = .ok (.iaload, 1) := by decide +kernel
theorem dLa_law_1435 : decode code 1435 = .ok (.aload_n 0, 1) := by decide +kernel
theorem dLa_law_1436 : decode code 1436 = .ok (.iload 4, 2) := by decide +kernel
theorem dLa_law_1438 : decode code 1438 = .ok (.iconst 2, 1) := by decide +kernel
theorem dLa_law_1439 : decode code 1439 = .ok (.iadd, 1) := by decide +kernel
theorem dLa_law_1440 : decode code 1440 = .ok (.iaload, 1) := by decide +kernel
theorem dLa_law_1441 : decode code 1441 = .ok (.aload_n 3, 1) := by decide +kernel
theorem dLa_law_1442 : decode code 1442 = .ok (.invokestatic 136, 3) := by decide +kernel
theorem dLa_law_1445 : decode code 1445 = .ok (.istore 5, 2) := by decide +kernel
theorem dLa_law_1447 : decode code 1447 = .ok (.aload_n 2, 1) := by decide +kernel
theorem dLa_law_1448 : decode code 1448 = .ok (.aload_n 0, 1) := by decide +kernel
theorem dLa_law_1449 : decode code 1449 = .ok (.iload 4, 2) := by decide +kernel
theorem dLa_law_1451 : decode code 1451 = .ok (.iconst 1, 1) := by decide +kernel
theorem dLa_law_1452 : decode code 1452 = .ok (.iadd, 1) := by decide +kernel
theorem dLa_law_1453 : decode code 1453 = .ok (.iaload, 1) := by decide +kernel
theorem dLa_law_1454 : decode code 1454 = .ok (.aload_n 0, 1) := by decide +kernel
theorem dLa_law_1455 : decode code 1455 = .ok (.iload 4, 2) := by decide +kernel
theorem dLa_law_1457 : decode code 1457 = .ok (.iconst 2, 1) := by decide +kernel
theorem dLa_law_1458 : decode code 1458 = .ok (.iadd, 1) := by decide +kernel
theorem dLa_law_1459 : decode code 1459 = .ok (.iaload, 1) := by decide +kernel
theorem dLa_law_1460 : decode code 1460 = .ok (.invokevirtual 138, 3) := by decide +kernel
theorem dLa_law_1463 : decode code 1463 = .ok (.istore 6, 2) := by decide +kernel
theorem dLa_law_1465 : decode code 1465 = .ok (.aload_n 2, 1) := by decide +kernel
theorem dLa_law_1466 : decode code 1466 = .ok (.invokevirtual 92, 3) := by decide +kernel
theorem dLa_law_1469 : decode code 1469 = .ok (.iload 5, 2) := by decide +kernel
theorem dLa_law_1471 : decode code 1471 = .ok (.if_icmp .eq 5, 3) := by decide +kernel
theorem dLa_law_1474 : decode code 1474 = .ok (.iconst 0, 1) := by decide +kernel
theorem dLa_law_1475 : decode code 1475 = .ok (.ireturn, 1) := by decide +kernel
theorem dLa_law_1476 : decode code 1476 = .ok (.iload 5, 2) := by decide +kernel
theorem dLa_law_1478 : decode code 1478 = .ok (.ifCond .ne 15, 3) := by decide +kernel
theorem dLa_law_1481 : decode code 1481 = .ok (.aload_n 3, 1) := by decide +kernel
theorem dLa_law_1482 : decode code 1482 = .ok (.iconst 0, 1) := by decide +kernel
theorem dLa_law_1483 : decode code 1483 = .ok (.laload, 1) := by decide +kernel
theorem dLa_law_1484 : decode code 1484 = .ok (.iload 6, 2) := by decide +kernel
theorem dLa_law_1486 : decode code 1486 = .ok (.i2l, 1) := by decide +kernel
theorem dLa_law_1487 : decode code 1487 = .ok (.lcmp, 1) := by decide +kernel
theorem dLa_law_1488 : decode code 1488 = .ok (.ifCond .eq 5, 3) := by decide +kernel
theorem dLa_law_1491 : decode code 1491 = .ok (.iconst 0, 1) := by decide +kernel
theorem dLa_law_1492 : decode code 1492 = .ok (.ireturn, 1) := by decide +kernel
theorem dLa_law_1493 : decode code 1493 = .ok (.goto 171, 3) := by decide +kernel
theorem dLa_law_1496 : decode code 1496 = .ok (.aload_n 1, 1) := by decide +kernel
theorem dLa_law_1497 : decode code 1497 = .ok (.aload_n 0, 1) := by decide +kernel
theorem dLa_law_1498 : decode code 1498 = .ok (.iload 4, 2) := by decide +kernel
theorem dLa_law_1500 : decode code 1500 = .ok (.iconst 1, 1) := by decide +kernel
theorem dLa_law_1501 : decode code 1501 = .ok (.iadd, 1) := by decide +kernel
theorem dLa_law_1502 : decode code 1502 = .ok (.iaload, 1) := by decide +kernel
theorem dLa_law_1503 : decode code 1503 = .ok (.aload_n 0, 1) := by decide +kernel
theorem dLa_law_1504 : decode code 1504 = .ok (.iload 4, 2) := by decide +kernel
theorem dLa_law_1506 : decode code 1506 = .ok (.iconst 2, 1) := by decide +kernel
theorem dLa_law_1507 : decode code 1507 = .ok (.iadd, 1) := by decide +kernel
theorem dLa_law_1508 : decode code 1508 = .ok (.iaload, 1) := by decide +kernel
theorem dLa_law_1509 : decode code 1509 = .ok (.aload_n 3, 1) := by decide +kernel
theorem dLa_law_1510 : decode code 1510 = .ok (.invokestatic 139, 3) := by decide +kernel
theorem dLa_law_1513 : decode code 1513 = .ok (.istore 5, 2) := by decide +kernel
theorem dLa_law_1515 : decode code 1515 = .ok (.aload_n 2, 1) := by decide +kernel
theorem dLa_law_1516 : decode code 1516 = .ok (.aload_n 0, 1) := by decide +kernel
theorem dLa_law_1517 : decode code 1517 = .ok (.iload 4, 2) := by decide +kernel
theorem dLa_law_1519 : decode code 1519 = .ok (.iconst 1, 1) := by decide +kernel
theorem dLa_law_1520 : decode code 1520 = .ok (.iadd, 1) := by decide +kernel
theorem dLa_law_1521 : decode code 1521 = .ok (.iaload, 1) := by decide +kernel
theorem dLa_law_1522 : decode code 1522 = .ok (.aload_n 0, 1) := by decide +kernel
theorem dLa_law_1523 : decode code 1523 = .ok (.iload 4, 2) := by decide +kernel
theorem dLa_law_1525 : decode code 1525 = .ok (.iconst 2, 1) := by decide +kernel
theorem dLa_law_1526 : decode code 1526 = .ok (.iadd, 1) := by decide +kernel
theorem dLa_law_1527 : decode code 1527 = .ok (.iaload, 1) := by decide +kernel
theorem dLa_law_1528 : decode code 1528 = .ok (.invokevirtual 141, 3) := by decide +kernel
theorem dLa_law_1531 : decode code 1531 = .ok (.istore 6, 2) := by decide +kernel
theorem dLa_law_1533 : decode code 1533 = .ok (.aload_n 2, 1) := by decide +kernel
theorem dLa_law_1534 : decode code 1534 = .ok (.invokevirtual 92, 3) := by decide +kernel
theorem dLa_law_1537 : decode code 1537 = .ok (.iload 5, 2) := by decide +kernel
theorem dLa_law_1539 : decode code 1539 = .ok (.if_icmp .eq 5, 3) := by decide +kernel
theorem dLa_law_1542 : decode code 1542 = .ok (.iconst 0, 1) := by decide +kernel
theorem dLa_law_1543 : decode code 1543 = .ok (.ireturn, 1) := by decide +kernel
theorem dLa_law_1544 : decode code 1544 = .ok (.iload 5, 2) := by decide +kernel
theorem dLa_law_1546 : decode code 1546 = .ok (.ifCond .ne 15, 3) := by decide +kernel
theorem dLa_law_1549 : decode code 1549 = .ok (.aload_n 3, 1) := by decide +kernel
theorem dLa_law_1550 : decode code 1550 = .ok (.iconst 0, 1) := by decide +kernel
theorem dLa_law_1551 : decode code 1551 = .ok (.laload, 1) := by decide +kernel
theorem dLa_law_1552 : decode code 1552 = .ok (.iload 6, 2) := by decide +kernel
theorem dLa_law_1554 : decode code 1554 = .ok (.i2l, 1) := by decide +kernel
theorem dLa_law_1555 : decode code 1555 = .ok (.lcmp, 1) := by decide +kernel
theorem dLa_law_1556 : decode code 1556 = .ok (.ifCond .eq 5, 3) := by decide +kernel
theorem dLa_law_1559 : decode code 1559 = .ok (.iconst 0, 1) := by decide +kernel
theorem dLa_law_1560 : decode code 1560 = .ok (.ireturn, 1) := by decide +kernel
theorem dLa_law_1561 : decode code 1561 = .ok (.goto 103, 3) := by decide +kernel
theorem dLa_law_1564 : decode code 1564 = .ok (.aload_n 1, 1) := by decide +kernel
theorem dLa_law_1565 : decode code 1565 = .ok (.aload_n 3, 1) := by decide +kernel
theorem dLa_law_1566 : decode code 1566 = .ok (.invokestatic 142, 3) := by decide +kernel
theorem dLa_law_1569 : decode code 1569 = .ok (.istore 5, 2) := by decide +kernel
theorem dLa_law_1571 : decode code 1571 = .ok (.aload_n 2, 1) := by decide +kernel
theorem dLa_law_1572 : decode code 1572 = .ok (.invokevirtual 145, 3) := by decide +kernel
theorem dLa_law_1575 : decode code 1575 = .ok (.istore 6, 2) := by decide +kernel
theorem dLa_law_1577 : decode code 1577 = .ok (.aload_n 2, 1) := by decide +kernel
theorem dLa_law_1578 : decode code 1578 = .ok (.invokevirtual 92, 3) := by decide +kernel
theorem dLa_law_1581 : decode code 1581 = .ok (.iload 5, 2) := by decide +kernel
theorem dLa_law_1583 : decode code 1583 = .ok (.if_icmp .eq 5, 3) := by decide +kernel
theorem dLa_law_1586 : decode code 1586 = .ok (.iconst 0, 1) := by decide +kernel
theorem dLa_law_1587 : decode code 1587 = .ok (.ireturn, 1) := by decide +kernel
theorem dLa_law_1588 : decode code 1588 = .ok (.iload 5, 2) := by decide +kernel
theorem dLa_law_1590 : decode code 1590 = .ok (.ifCond .ne 15, 3) := by decide +kernel
theorem dLa_law_1593 : decode code 1593 = .ok (.aload_n 3, 1) := by decide +kernel
theorem dLa_law_1594 : decode code 1594 = .ok (.iconst 0, 1) := by decide +kernel
theorem dLa_law_1595 : decode code 1595 = .ok (.laload, 1) := by decide +kernel
theorem dLa_law_1596 : decode code 1596 = .ok (.iload 6, 2) := by decide +kernel
theorem dLa_law_1598 : decode code 1598 = .ok (.i2l, 1) := by decide +kernel
theorem dLa_law_1599 : decode code 1599 = .ok (.lcmp, 1) := by decide +kernel
theorem dLa_law_1600 : decode code 1600 = .ok (.ifCond .eq 5, 3) := by decide +kernel
theorem dLa_law_1603 : decode code 1603 = .ok (.iconst 0, 1) := by decide +kernel
theorem dLa_law_1604 : decode code 1604 = .ok (.ireturn, 1) := by decide +kernel
theorem dLa_law_1605 : decode code 1605 = .ok (.goto 59, 3) := by decide +kernel
theorem dLa_law_1608 : decode code 1608 = .ok (.aload_n 1, 1) := by decide +kernel
theorem dLa_law_1609 : decode code 1609 = .ok (.aload_n 0, 1) := by decide +kernel
theorem dLa_law_1610 : decode code 1610 = .ok (.iload 4, 2) := by decide +kernel
theorem dLa_law_1612 : decode code 1612 = .ok (.iconst 1, 1) := by decide +kernel
theorem dLa_law_1613 : decode code 1613 = .ok (.iadd, 1) := by decide +kernel
theorem dLa_law_1614 : decode code 1614 = .ok (.iaload, 1) := by decide +kernel
theorem dLa_law_1615 : decode code 1615 = .ok (.aload_n 3, 1) := by decide +kernel
theorem dLa_law_1616 : decode code 1616 = .ok (.invokestatic 146, 3) := by decide +kernel
theorem dLa_law_1619 : decode code 1619 = .ok (.istore 5, 2) := by decide +kernel
theorem dLa_law_1621 : decode code 1621 = .ok (.aload_n 2, 1) := by decide +kernel
theorem dLa_law_1622 : decode code 1622 = .ok (.aload_n 0, 1) := by decide +kernel
theorem dLa_law_1623 : decode code 1623 = .ok (.iload 4, 2) := by decide +kernel
theorem dLa_law_1625 : decode code 1625 = .ok (.iconst 1, 1) := by decide +kernel
theorem dLa_law_1626 : decode code 1626 = .ok (.iadd, 1) := by decide +kernel
theorem dLa_law_1627 : decode code 1627 = .ok (.iaload, 1) := by decide +kernel
theorem dLa_law_1628 : decode code 1628 = .ok (.invokevirtual 148, 3) := by decide +kernel
theorem dLa_law_1631 : decode code 1631 = .ok (.istore 6, 2) := by decide +kernel
theorem dLa_law_1633 : decode code 1633 = .ok (.aload_n 2, 1) := by decide +kernel
theorem dLa_law_1634 : decode code 1634 = .ok (.invokevirtual 92, 3) := by decide +kernel
theorem dLa_law_1637 : decode code 1637 = .ok (.iload 5, 2) := by decide +kernel
theorem dLa_law_1639 : decode code 1639 = .ok (.if_icmp .eq 5, 3) := by decide +kernel
theorem dLa_law_1642 : decode code 1642 = .ok (.iconst 0, 1) := by decide +kernel
theorem dLa_law_1643 : decode code 1643 = .ok (.ireturn, 1) := by decide +kernel
theorem dLa_law_1644 : decode code 1644 = .ok (.iload 5, 2) := by decide +kernel
theorem dLa_law_1646 : decode code 1646 = .ok (.ifCond .ne 15, 3) := by decide +kernel
theorem dLa_law_1649 : decode code 1649 = .ok (.aload_n 3, 1) := by decide +kernel
theorem dLa_law_1650 : decode code 1650 = .ok (.iconst 0, 1) := by decide +kernel
theorem dLa_law_1651 : decode code 1651 = .ok (.laload, 1) := by decide +kernel
theorem dLa_law_1652 : decode code 1652 = .ok (.iload 6, 2) := by decide +kernel
theorem dLa_law_1654 : decode code 1654 = .ok (.i2l, 1) := by decide +kernel
theorem dLa_law_1655 : decode code 1655 = .ok (.lcmp, 1) := by decide +kernel
theorem dLa_law_1656 : decode code 1656 = .ok (.ifCond .eq 5, 3) := by decide +kernel
theorem dLa_law_1659 : decode code 1659 = .ok (.iconst 0, 1) := by decide +kernel
theorem dLa_law_1660 : decode code 1660 = .ok (.ireturn, 1) := by decide +kernel
theorem dLa_law_1661 : decode code 1661 = .ok (.goto 3, 3) := by decide +kernel
theorem dLa_law_1664 : decode code 1664 = .ok (.iinc 4 11, 3) := by decide +kernel
theorem dLa_law_1667 : decode code 1667 = .ok (.goto (-1624), 3) := by decide +kernel
theorem dLa_law_1670 : decode code 1670 = .ok (.iconst 1, 1) := by decide +kernel
theorem dLa_law_1671 : decode code 1671 = .ok (.ireturn, 1) := by decide +kernel
abbrev LWd (cI cG cL cB : ClassId) (x0 b0B hpB hsB p0B p1B p2B s0B s1B s2B r0R hfR htR hzR caR cuR f0R f1R t0R t1R c1R u1R tr0T liT cu_T edT k1T l1T dh d1 d2 d3 d4 kh k1 k2 k3 k4 me0U m1U m2U m3U m4U cl0C e1C e2C e3C e4C pg0G la0L sb0L m0M afM at_M auM apM abM aeM ahM kuM kqM kbM keM khM gfM gtM sfM stM efM etM xaM xfM xtM xrM lbM soM oo : Nat) (bnB : Int) (P0B P1B P2B S0B S1B S2B : Int → Int) (rnR : Int) (FaR FbR TaR TbR ZR : Int → Int) (naR : Int) (GAR : Int → Int) (nuR : Int) (GUR : Int → Int) (ecT : Int) (ET : Int → Int) (nkT : Int) (GKT : Int → Int) (nlT : Int) (GLT : Int → Int) (dth dn dac : Int) (dLi dBe dEn dSt : Int → Int) (kth kn kac : Int) (kLi kBe kEn kSt : Int → Int) (mnU : Int) (RoU AxU FrU ToU : Int → Int) (cnC : Int) (C1C C2C C3C C4C : Int → Int) (wdG hgG coG roG oaG ouG lfG rtG lwG up_G tpG : Int) (vaL : Nat) (mlL cnL : Int) (mmL : Nat) (VL : Int → Int) (cdM alsM sesM lesM lbsM : Int) (FromM ToM UpsM PlaM BegM EnsM HidM KUpM KPlM KBeM KEnM KHiM AFrM AToM SFrM SToM LFrM LToM AxsM MFrM MToM RwsM LabM SrtM Og : Int → Int) : va_W := [(x0, .inr (9, [.ref b0B, .ref r0R, .ref tr0T, .ref dh, .ref kh, .ref me0U, .ref cl0C, .ref pg0G, .ref la0L])), (b0B, .inr (0, [.ref hpB, .ref hsB, .int (zI bnB)])), (hpB, .inl (cG, 3, .inr (.inr (.inr (.inr (g3 p0B p1B p2B)))))), (hsB, .inl (cG, 3, .inr (.inr (.inr (.inr (g3 s0B s1B s2B)))))), (p0B, .inl (cI, 24, .inl (fI P0B))), (p1B, .inl (cI, 24, .inl (fI P1B))), (p2B, .inl (cI, 24, .inl (fI P2B))), (s0B, .inl (cI, 24, .inl (fI S0B))), (s1B, .inl (cI, 24, .inl (fI S1B))), (s2B, .inl (cI, 24, .inl (fI S2B))), (r0R, .inr (6, [.ref hfR, .ref htR, .ref hzR, .int (zI rnR), .ref caR, .ref cuR])), (hfR, .inl (cG, 2, .inr (.inr (.inr (.inr (g2 f0R f1R)))))), (htR, .inl (cG, 2, .inr (.inr (.inr (.inr (g2 t0R t1R)))))), (f0R, .inl (cI, 24, .inl (fI FaR))), (f1R, .inl (cI, 24, .inl (fI FbR))), (t0R, .inl (cI, 24, .inl (fI TaR))), (t1R, .inl (cI, 24, .inl (fI TbR))), (hzR, .inl (cI, 24, .inl (fI ZR))), (caR, .inr (2, [.ref c1R, .int (zI naR)])), (c1R, .inl (cI, 48, .inl (fI GAR))), (cuR, .inr (2, [.ref u1R, .int (zI nuR)])), (u1R, .inl (cI, 48, .inl (fI GUR))), (tr0T, .inr (8, [.ref liT, .ref cu_T, .ref edT, .int (zI ecT)])), (edT, .inl (cI, 24, .inl (fI ET))), (cu_T, .inr (2, [.ref k1T, .int (zI nkT)])), (k1T, .inl (cI, 48, .inl (fI GKT))), (liT, .inr (2, [.ref l1T, .int (zI nlT)])), (l1T, .inl (cI, 48, .inl (fI GLT))), (dh, .inr (7, [.int (zI dth), .int (zI dn), .int (zI dac), .ref d1, .ref d2, .ref d3, .ref d4])), (d1, .inl (cI, 1200, .inl (fI dLi))), (d2, .inl (cI, 1200, .inl (fI dBe))), (d3, .inl (cI, 1200, .inl (fI dEn))), (d4, .inl (cI, 1200, .inl (fI dSt))), (kh, .inr (7, [.int (zI kth), .int (zI kn), .int (zI kac), .ref k1, .ref k2, .ref k3, .ref k4])), (k1, .inl (cI, 1200, .inl (fI kLi))), (k2, .inl (cI, 1200, .inl (fI kBe))), (k3, .inl (cI, 1200, .inl (fI kEn))), (k4, .inl (cI, 1200, .inl (fI kSt))), (me0U, .inr (4, [.ref m1U, .int (zI mnU), .ref m2U, .ref m3U, .ref m4U])), (m1U, .inl (cI, 30, .inl (fI RoU))), (m2U, .inl (cI, 30, .inl (fI AxU))), (m3U, .inl (cI, 30, .inl (fI FrU))), (m4U, .inl (cI, 30, .inl (fI ToU))), (cl0C, .inr (1, [.int (zI cnC), .ref e1C, .ref e2C, .ref e3C, .ref e4C])), (e1C, .inl (cI, 24, .inl (fI C1C))), (e2C, .inl (cI, 24, .inl (fI C2C))), (e3C, .inl (cI, 24, .inl (fI C3C))), (e4C, .inl (cI, 24, .inl (fI C4C))), (pg0G, .inr (5, [.int (zI wdG), .int (zI hgG), .long (zL coG), .long (zL roG), .long (zL oaG), .long (zL ouG), .long (zL lfG), .long (zL rtG), .long (zL lwG), .long (zL up_G), .int (zI tpG)])), (la0L, .inr (3, [.ref sb0L])), (sb0L, .inr (11, [.ref vaL, .int (zI 0), .int (zI mlL), .int (zI cnL)])), (vaL, .inl (cB, mmL, .inl (fI VL))), (m0M, .inr (10, [.int (zI cdM), .long (zL wdG), .long (zL hgG), .int (zI bnB), .ref afM, .ref at_M, .int (zI dth), .int (zI dn), .ref auM, .ref apM, .ref abM, .ref aeM, .ref ahM, .int (zI kth), .int (zI kn), .ref kuM, .ref kqM, .ref kbM, .ref keM, .ref khM, .int (zI alsM), .ref gfM, .ref gtM, .int (zI sesM), .ref sfM, .ref stM, .int (zI lesM), .ref efM, .ref etM, .int (zI mnU), .ref xaM, .ref xfM, .ref xtM, .ref xrM, .ref lbM, .int (zI lbsM), .ref soM])), (afM, .inl (cL, 72, .inr (.inl (fL FromM)))), (at_M, .inl (cL, 72, .inr (.inl (fL ToM)))), (auM, .inl (cI, 6000, .inl (fI UpsM))), (apM, .inl (cL, 6000, .inr (.inl (fL PlaM)))), (abM, .inl (cL, 6000, .inr (.inl (fL BegM)))), (aeM, .inl (cL, 6000, .inr (.inl (fL EnsM)))), (ahM, .inl (cI, 6000, .inl (fI HidM))), (kuM, .inl (cI, 6000, .inl (fI KUpM))), (kqM, .inl (cL, 6000, .inr (.inl (fL KPlM)))), (kbM, .inl (cL, 6000, .inr (.inl (fL KBeM)))), (keM, .inl (cL, 6000, .inr (.inl (fL KEnM)))), (khM, .inl (cI, 6000, .inl (fI KHiM))), (gfM, .inl (cL, 200, .inr (.inl (fL AFrM)))), (gtM, .inl (cL, 200, .inr (.inl (fL AToM)))), (sfM, .inl (cL, 6000, .inr (.inl (fL SFrM)))), (stM, .inl (cL, 6000, .inr (.inl (fL SToM)))), (efM, .inl (cL, 64, .inr (.inl (fL LFrM)))), (etM, .inl (cL, 64, .inr (.inl (fL LToM)))), (xaM, .inl (cI, 30, .inl (fI AxsM))), (xfM, .inl (cL, 30, .inr (.inl (fL MFrM)))), (xtM, .inl (cL, 30, .inr (.inl (fL MToM)))), (xrM, .inl (cI, 30, .inl (fI RwsM))), (lbM, .inl (cI, 64, .inl (fI LabM))), (soM, .inl (cL, 72, .inr (.inl (fL SrtM)))), (oo, .inl (cL, 1, .inr (.inl (fL Og))))]
def LI (bnB : Int) (P0B P1B P2B S0B S1B S2B : Int → Int) (rnR : Int) (FaR FbR TaR TbR ZR : Int → Int) (naR : Int) (GAR : Int → Int) (nuR : Int) (GUR : Int → Int) (ecT : Int) (ET : Int → Int) (nkT : Int) (GKT : Int → Int) (nlT : Int) (GLT : Int → Int) (dth dn dac : Int) (dLi dBe dEn dSt : Int → Int) (kth kn kac : Int) (kLi kBe kEn kSt : Int → Int) (mnU : Int) (RoU AxU FrU ToU : Int → Int) (cnC : Int) (C1C C2C C3C C4C : Int → Int) (wdG hgG coG roG oaG ouG lfG rtG lwG up_G tpG : Int) (vaL : Nat) (mlL cnL : Int) (mmL : Nat) (VL : Int → Int) (cdM alsM sesM lesM lbsM : Int) (FromM ToM UpsM PlaM BegM EnsM HidM KUpM KPlM KBeM KEnM KHiM AFrM AToM SFrM SToM LFrM LToM AxsM MFrM MToM RwsM LabM SrtM Og : Int → Int) : Prop := (∀ j : Int, I32 (P0B j)) ∧ (∀ j : Int, I32 (P1B j)) ∧ (∀ j : Int, I32 (P2B j)) ∧ (∀ j : Int, I32 (S0B j)) ∧ (∀ j : Int, I32 (S1B j)) ∧ (∀ j : Int, I32 (S2B j)) ∧ (boxB bnB P0B P1B P2B S0B S1B S2B) ∧ (0 ≤ bnB) ∧ (bnB ≤ 24) ∧ (∀ j : Int, I32 (FaR j)) ∧ (∀ j : Int, I32 (FbR j)) ∧ (∀ j : Int, I32 (TaR j)) ∧ (∀ j : Int, I32 (TbR j)) ∧ (∀ j : Int, I32 (ZR j)) ∧ (0 ≤ rnR) ∧ (rnR ≤ 24) ∧ (∀ j : Int, I32 (GAR j)) ∧ (∀ j : Int, I32 (GUR j)) ∧ (∀ j : Int, I32 (ET j)) ∧ (∀ j : Int, I32 (GKT j)) ∧ (∀ j : Int, I32 (GLT j)) ∧ (∀ j : Int, I32 (dLi j)) ∧ (∀ j : Int, I32 (dBe j)) ∧ (∀ j : Int, I32 (dEn j)) ∧ (∀ j : Int, I32 (dSt j)) ∧ (0 ≤ dn) ∧ (dn ≤ 1200) ∧ (0 ≤ dac) ∧ (dac ≤ dn) ∧ (∀ j : Int, I32 (kLi j)) ∧ (∀ j : Int, I32 (kBe j)) ∧ (∀ j : Int, I32 (kEn j)) ∧ (∀ j : Int, I32 (kSt j)) ∧ (0 ≤ kn) ∧ (kn ≤ 1200) ∧ (0 ≤ kac) ∧ (kac ≤ kn) ∧ (∀ j : Int, I32 (RoU j)) ∧ (∀ j : Int, I32 (AxU j)) ∧ (∀ j : Int, I32 (FrU j)) ∧ (∀ j : Int, I32 (ToU j)) ∧ (0 ≤ mnU ∧ mnU ≤ 30) ∧ (meB mnU RoU FrU ToU) ∧ (∀ j : Int, I32 (C1C j)) ∧ (∀ j : Int, I32 (C2C j)) ∧ (∀ j : Int, I32 (C3C j)) ∧ (∀ j : Int, I32 (C4C j)) ∧ (1 ≤ wdG ∧ wdG ≤ 65536) ∧ (1 ≤ hgG ∧ hgG ≤ 65536) ∧ (∀ j : Int, B8 (VL j)) ∧ (mmL = 16 ∨ mmL = 34) ∧ (mlL = 0 ∨ mlL = 1) ∧ (0 ≤ cnL ∧ cnL ≤ mmL) ∧ (∀ j : Int, I64 (FromM j)) ∧ (∀ j : Int, I64 (ToM j)) ∧ (∀ j : Int, I32 (UpsM j)) ∧ (∀ j : Int, I64 (PlaM j)) ∧ (∀ j : Int, I64 (BegM j)) ∧ (∀ j : Int, I64 (EnsM j)) ∧ (∀ j : Int, I32 (HidM j)) ∧ (∀ j : Int, I32 (KUpM j)) ∧ (∀ j : Int, I64 (KPlM j)) ∧ (∀ j : Int, I64 (KBeM j)) ∧ (∀ j : Int, I64 (KEnM j)) ∧ (∀ j : Int, I32 (KHiM j)) ∧ (∀ j : Int, I64 (AFrM j)) ∧ (∀ j : Int, I64 (AToM j)) ∧ (∀ j : Int, I64 (SFrM j)) ∧ (∀ j : Int, I64 (SToM j)) ∧ (∀ j : Int, I64 (LFrM j)) ∧ (∀ j : Int, I64 (LToM j)) ∧ (∀ j : Int, I32 (AxsM j)) ∧ (∀ j : Int, I64 (MFrM j)) ∧ (∀ j : Int, I64 (MToM j)) ∧ (∀ j : Int, I32 (RwsM j)) ∧ (∀ j : Int, I32 (LabM j)) ∧ (∀ j : Int, I64 (SrtM j)) ∧ (dth = 0 ∨ dth = 1) ∧ (kth = 0 ∨ kth = 1) ∧ (moB bnB FromM ToM) ∧ (bmR bnB P0B P1B P2B S0B S1B S2B FromM ToM) ∧ (dwA dn dac dLi dBe dEn dSt) ∧ (dwA kn kac kLi kBe kEn kSt) ∧ (eqA dn dac dLi dBe dEn dSt UpsM PlaM BegM EnsM HidM) ∧ (eqA kn kac kLi kBe kEn kSt KUpM KPlM KBeM KEnM KHiM) ∧ (meR mnU AxU RoU FrU ToU AxsM RwsM MFrM MToM)
def LNx (l : Launch) (D : va_G) (cI cG cL cB : ClassId) (x0 b0B hpB hsB p0B p1B p2B s0B s1B s2B r0R hfR htR hzR caR cuR f0R f1R t0R t1R c1R u1R tr0T liT cu_T edT k1T l1T dh d1 d2 d3 d4 kh k1 k2 k3 k4 me0U m1U m2U m3U m4U cl0C e1C e2C e3C e4C pg0G la0L sb0L m0M afM at_M auM apM abM aeM ahM kuM kqM kbM keM khM gfM gtM sfM stM efM etM xaM xfM xtM xrM lbM soM oo : Nat) (p : Program) (e : Env) (s : State) (m : MethodId) (args : Array Value) (below : List Frame) (meth : Method) (c : Code) (A : Nat → Prop) (b : Nat) (i : Int) (Q : State → Prop) (cells slots : Nat) : Prop := ∀ (bnB : Int) (P0B P1B P2B S0B S1B S2B : Int → Int) (rnR : Int) (FaR FbR TaR TbR ZR : Int → Int) (naR : Int) (GAR : Int → Int) (nuR : Int) (GUR : Int → Int) (ecT : Int) (ET : Int → Int) (nkT : Int) (GKT : Int → Int) (nlT : Int) (GLT : Int → Int) (dth dn dac : Int) (dLi dBe dEn dSt : Int → Int) (kth kn kac : Int) (kLi kBe kEn kSt : Int → Int) (mnU : Int) (RoU AxU FrU ToU : Int → Int) (cnC : Int) (C1C C2C C3C C4C : Int → Int) (wdG hgG coG roG oaG ouG lfG rtG lwG up_G tpG : Int) (vaL : Nat) (mlL cnL : Int) (mmL : Nat) (VL : Int → Int) (cdM alsM sesM lesM lbsM : Int) (FromM ToM UpsM PlaM BegM EnsM HidM KUpM KPlM KBeM KEnM KHiM AFrM AToM SFrM SToM LFrM LToM AxsM MFrM MToM RwsM LabM SrtM Og : Int → Int), LI bnB P0B P1B P2B S0B S1B S2B rnR FaR FbR TaR TbR ZR naR GAR nuR GUR ecT ET nkT GKT nlT GLT dth dn dac dLi dBe dEn dSt kth kn kac kLi kBe kEn kSt mnU RoU AxU FrU ToU cnC C1C C2C C3C C4C wdG hgG coG roG oaG ouG lfG rtG lwG up_G tpG vaL mlL cnL mmL VL cdM alsM sesM lesM lbsM FromM ToM UpsM PlaM BegM EnsM HidM KUpM KPlM KBeM KEnM KHiM AFrM AToM SFrM SToM LFrM LToM AxsM MFrM MToM RwsM LabM SrtM Og → ∀ (cells1 slots1 : Nat), cells1 ≤ cells + 9 → slots1 ≤ slots + 306 → ∀ (ls : Array Slot) (H : Heap) (locs : List Loc), lv_has ls 8 [(4, .int (zI i)), (3, .ref oo), (2, .ref m0M), (1, .ref x0), (0, .ref b)] → zw D zCl A s (LWd cI cG cL cB x0 b0B hpB hsB p0B p1B p2B s0B s1B s2B r0R hfR htR hzR caR cuR f0R f1R t0R t1R c1R u1R tr0T liT cu_T edT k1T l1T dh d1 d2 d3 d4 kh k1 k2 k3 k4 me0U m1U m2U m3U m4U cl0C e1C e2C e3C e4C pg0G la0L sb0L m0M afM at_M auM apM abM aeM ahM kuM kqM kbM keM khM gfM gtM sfM stM efM etM xaM xfM xtM xrM lbM soM oo bnB P0B P1B P2B S0B S1B S2B rnR FaR FbR TaR TbR ZR naR GAR nuR GUR ecT ET nkT GKT nlT GLT dth dn dac dLi dBe dEn dSt kth kn kac kLi kBe kEn kSt mnU RoU AxU FrU ToU cnC C1C C2C C3C C4C wdG hgG coG roG oaG ouG lfG rtG lwG up_G tpG vaL mlL cnL mmL VL cdM alsM sesM lesM lbsM FromM ToM UpsM PlaM BegM EnsM HidM KUpM KPlM KBeM KEnM KHiM AFrM AToM SFrM SToM LFrM LToM AxsM MFrM MToM RwsM LabM SrtM Og) H locs → W p l e room_1 s m args below meth c H locs cells1 slots1 Q (F0 m 1664 ls [])
