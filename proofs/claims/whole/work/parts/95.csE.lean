/-! the code is sound: 95.csE -/
theorem dL_law_0 : decode cL_law 0 = .ok (.new 8, 3) := by decide +kernel
theorem dL_law_3 : decode cL_law 3 = .ok (.dup, 1) := by decide +kernel
theorem dL_law_4 : decode cL_law 4 = .ok (.invokespecial 21, 3) := by decide +kernel
theorem dL_law_7 : decode cL_law 7 = .ok (.astore_n 1, 1) := by decide +kernel
theorem dL_law_8 : decode cL_law 8 = .ok (.new 22, 3) := by decide +kernel
theorem dL_law_11 : decode cL_law 11 = .ok (.dup, 1) := by decide +kernel
theorem dL_law_12 : decode cL_law 12 = .ok (.invokespecial 24, 3) := by decide +kernel
theorem dL_law_15 : decode cL_law 15 = .ok (.astore_n 2, 1) := by decide +kernel
theorem dL_law_16 : decode cL_law 16 = .ok (.iconst 1, 1) := by decide +kernel
theorem dL_law_17 : decode cL_law 17 = .ok (.newarray .long, 2) := by decide +kernel
theorem dL_law_19 : decode cL_law 19 = .ok (.astore_n 3, 1) := by decide +kernel
theorem dL_law_20 : decode cL_law 20 = .ok (.iconst 0, 1) := by decide +kernel
theorem dL_law_21 : decode cL_law 21 = .ok (.istore 4, 2) := by decide +kernel
theorem dL_law_23 : decode cL_law 23 = .ok (.iload 4, 2) := by decide +kernel
theorem dL_law_25 : decode cL_law 25 = .ok (.aload_n 0, 1) := by decide +kernel
theorem dL_law_26 : decode cL_law 26 = .ok (.arraylength, 1) := by decide +kernel
theorem dL_law_27 : decode cL_law 27 = .ok (.bipush 6, 2) := by decide +kernel
theorem dL_law_29 : decode cL_law 29 = .ok (.isub, 1) := by decide +kernel
theorem dL_law_30 : decode cL_law 30 = .ok (.if_icmp .gt 820, 3) := by decide +kernel
theorem dL_law_33 : decode cL_law 33 = .ok (.aload_n 0, 1) := by decide +kernel
theorem dL_law_34 : decode cL_law 34 = .ok (.iload 4, 2) := by decide +kernel
theorem dL_law_36 : decode cL_law 36 = .ok (.iaload, 1) := by decide +kernel
theorem dL_law_37 : decode cL_law 37 = .ok (.bipush 31, 2) := by decide +kernel
theorem dL_law_39 : decode cL_law 39 = .ok (.iand, 1) := by decide +kernel
theorem dL_law_40 : decode cL_law 40 = .ok (.tableswitch 804 0 17 #[88, 157, 170, 183, 208, 245, 294, 361, 410, 471, 532, 605, 630, 643, 680, 717, 754, 791], 88) := by decide +kernel
theorem dL_law_128 : decode cL_law 128 = .ok (.aload_n 1, 1) := by decide +kernel
theorem dL_law_129 : decode cL_law 129 = .ok (.aload_n 0, 1) := by decide +kernel
theorem dL_law_130 : decode cL_law 130 = .ok (.iload 4, 2) := by decide +kernel
theorem dL_law_132 : decode cL_law 132 = .ok (.iconst 1, 1) := by decide +kernel
theorem dL_law_133 : decode cL_law 133 = .ok (.iadd, 1) := by decide +kernel
theorem dL_law_134 : decode cL_law 134 = .ok (.iaload, 1) := by decide +kernel
theorem dL_law_135 : decode cL_law 135 = .ok (.i2l, 1) := by decide +kernel
theorem dL_law_136 : decode cL_law 136 = .ok (.bipush 32, 2) := by decide +kernel
theorem dL_law_138 : decode cL_law 138 = .ok (.lshl, 1) := by decide +kernel
theorem dL_law_139 : decode cL_law 139 = .ok (.aload_n 0, 1) := by decide +kernel
theorem dL_law_140 : decode cL_law 140 = .ok (.iload 4, 2) := by decide +kernel
theorem dL_law_142 : decode cL_law 142 = .ok (.iconst 2, 1) := by decide +kernel
theorem dL_law_143 : decode cL_law 143 = .ok (.iadd, 1) := by decide +kernel
theorem dL_law_144 : decode cL_law 144 = .ok (.iaload, 1) := by decide +kernel
theorem dL_law_145 : decode cL_law 145 = .ok (.i2l, 1) := by decide +kernel
theorem dL_law_146 : decode cL_law 146 = .ok (.ldc2_w 25, 3) := by decide +kernel
theorem dL_law_149 : decode cL_law 149 = .ok (.land, 1) := by decide +kernel
theorem dL_law_150 : decode cL_law 150 = .ok (.lor, 1) := by decide +kernel
theorem dL_law_151 : decode cL_law 151 = .ok (.aload_n 0, 1) := by decide +kernel
theorem dL_law_152 : decode cL_law 152 = .ok (.iload 4, 2) := by decide +kernel
theorem dL_law_154 : decode cL_law 154 = .ok (.iconst 3, 1) := by decide +kernel
theorem dL_law_155 : decode cL_law 155 = .ok (.iadd, 1) := by decide +kernel
theorem dL_law_156 : decode cL_law 156 = .ok (.iaload, 1) := by decide +kernel
theorem dL_law_157 : decode cL_law 157 = .ok (.invokevirtual 27, 3) := by decide +kernel
theorem dL_law_160 : decode cL_law 160 = .ok (.aload_n 2, 1) := by decide +kernel
theorem dL_law_161 : decode cL_law 161 = .ok (.aload_n 0, 1) := by decide +kernel
theorem dL_law_162 : decode cL_law 162 = .ok (.iload 4, 2) := by decide +kernel
theorem dL_law_164 : decode cL_law 164 = .ok (.iconst 1, 1) := by decide +kernel
theorem dL_law_165 : decode cL_law 165 = .ok (.iadd, 1) := by decide +kernel
theorem dL_law_166 : decode cL_law 166 = .ok (.iaload, 1) := by decide +kernel
theorem dL_law_167 : decode cL_law 167 = .ok (.i2l, 1) := by decide +kernel
theorem dL_law_168 : decode cL_law 168 = .ok (.bipush 32, 2) := by decide +kernel
theorem dL_law_170 : decode cL_law 170 = .ok (.lshl, 1) := by decide +kernel
theorem dL_law_171 : decode cL_law 171 = .ok (.aload_n 0, 1) := by decide +kernel
theorem dL_law_172 : decode cL_law 172 = .ok (.iload 4, 2) := by decide +kernel
theorem dL_law_174 : decode cL_law 174 = .ok (.iconst 2, 1) := by decide +kernel
theorem dL_law_175 : decode cL_law 175 = .ok (.iadd, 1) := by decide +kernel
theorem dL_law_176 : decode cL_law 176 = .ok (.iaload, 1) := by decide +kernel
theorem dL_law_177 : decode cL_law 177 = .ok (.i2l, 1) := by decide +kernel
theorem dL_law_178 : decode cL_law 178 = .ok (.ldc2_w 25, 3) := by decide +kernel
theorem dL_law_181 : decode cL_law 181 = .ok (.land, 1) := by decide +kernel
theorem dL_law_182 : decode cL_law 182 = .ok (.lor, 1) := by decide +kernel
theorem dL_law_183 : decode cL_law 183 = .ok (.aload_n 0, 1) := by decide +kernel
theorem dL_law_184 : decode cL_law 184 = .ok (.iload 4, 2) := by decide +kernel
theorem dL_law_186 : decode cL_law 186 = .ok (.iconst 3, 1) := by decide +kernel
theorem dL_law_187 : decode cL_law 187 = .ok (.iadd, 1) := by decide +kernel
theorem dL_law_188 : decode cL_law 188 = .ok (.iaload, 1) := by decide +kernel
theorem dL_law_189 : decode cL_law 189 = .ok (.invokevirtual 31, 3) := by decide +kernel
theorem dL_law_192 : decode cL_law 192 = .ok (.if_icmp .eq 652, 3) := by decide +kernel
theorem dL_law_195 : decode cL_law 195 = .ok (.iconst 0, 1) := by decide +kernel
theorem dL_law_196 : decode cL_law 196 = .ok (.ireturn, 1) := by decide +kernel
theorem dL_law_197 : decode cL_law 197 = .ok (.aload_n 1, 1) := by decide +kernel
theorem dL_law_198 : decode cL_law 198 = .ok (.invokevirtual 32, 3) := by decide +kernel
theorem dL_law_201 : decode cL_law 201 = .ok (.aload_n 2, 1) := by decide +kernel
theorem dL_law_202 : decode cL_law 202 = .ok (.invokevirtual 36, 3) := by decide +kernel
theorem dL_law_205 : decode cL_law 205 = .ok (.if_icmp .eq 639, 3) := by decide +kernel
theorem dL_law_208 : decode cL_law 208 = .ok (.iconst 0, 1) := by decide +kernel
theorem dL_law_209 : decode cL_law 209 = .ok (.ireturn, 1) := by decide +kernel
theorem dL_law_210 : decode cL_law 210 = .ok (.aload_n 1, 1) := by decide +kernel
theorem dL_law_211 : decode cL_law 211 = .ok (.invokevirtual 37, 3) := by decide +kernel
theorem dL_law_214 : decode cL_law 214 = .ok (.aload_n 2, 1) := by decide +kernel
theorem dL_law_215 : decode cL_law 215 = .ok (.invokevirtual 40, 3) := by decide +kernel
theorem dL_law_218 : decode cL_law 218 = .ok (.if_icmp .eq 626, 3) := by decide +kernel
theorem dL_law_221 : decode cL_law 221 = .ok (.iconst 0, 1) := by decide +kernel
theorem dL_law_222 : decode cL_law 222 = .ok (.ireturn, 1) := by decide +kernel
theorem dL_law_223 : decode cL_law 223 = .ok (.aload_n 1, 1) := by decide +kernel
theorem dL_law_224 : decode cL_law 224 = .ok (.aload_n 0, 1) := by decide +kernel
theorem dL_law_225 : decode cL_law 225 = .ok (.iload 4, 2) := by decide +kernel
theorem dL_law_227 : decode cL_law 227 = .ok (.iconst 1, 1) := by decide +kernel
theorem dL_law_228 : decode cL_law 228 = .ok (.iadd, 1) := by decide +kernel
theorem dL_law_229 : decode cL_law 229 = .ok (.iaload, 1) := by decide +kernel
theorem dL_law_230 : decode cL_law 230 = .ok (.invokevirtual 41, 3) := by decide +kernel
theorem dL_law_233 : decode cL_law 233 = .ok (.aload_n 2, 1) := by decide +kernel
theorem dL_law_234 : decode cL_law 234 = .ok (.aload_n 0, 1) := by decide +kernel
theorem dL_law_235 : decode cL_law 235 = .ok (.iload 4, 2) := by decide +kernel
theorem dL_law_237 : decode cL_law 237 = .ok (.iconst 1, 1) := by decide +kernel
theorem dL_law_238 : decode cL_law 238 = .ok (.iadd, 1) := by decide +kernel
theorem dL_law_239 : decode cL_law 239 = .ok (.iaload, 1) := by decide +kernel
theorem dL_law_240 : decode cL_law 240 = .ok (.invokevirtual 45, 3) := by decide +kernel
theorem dL_law_243 : decode cL_law 243 = .ok (.if_icmp .eq 601, 3) := by decide +kernel
theorem dL_law_246 : decode cL_law 246 = .ok (.iconst 0, 1) := by decide +kernel
theorem dL_law_247 : decode cL_law 247 = .ok (.ireturn, 1) := by decide +kernel
theorem dL_law_248 : decode cL_law 248 = .ok (.aload_n 1, 1) := by decide +kernel
theorem dL_law_249 : decode cL_law 249 = .ok (.aload_n 0, 1) := by decide +kernel
theorem dL_law_250 : decode cL_law 250 = .ok (.iload 4, 2) := by decide +kernel
theorem dL_law_252 : decode cL_law 252 = .ok (.iconst 1, 1) := by decide +kernel
theorem dL_law_253 : decode cL_law 253 = .ok (.iadd, 1) := by decide +kernel
theorem dL_law_254 : decode cL_law 254 = .ok (.iaload, 1) := by decide +kernel
theorem dL_law_255 : decode cL_law 255 = .ok (.aload_n 0, 1) := by decide +kernel
theorem dL_law_256 : decode cL_law 256 = .ok (.iload 4, 2) := by decide +kernel
theorem dL_law_258 : decode cL_law 258 = .ok (.iconst 2, 1) := by decide +kernel
theorem dL_law_259 : decode cL_law 259 = .ok (.iadd, 1) := by decide +kernel
theorem dL_law_260 : decode cL_law 260 = .ok (.iaload, 1) := by decide +kernel
theorem dL_law_261 : decode cL_law 261 = .ok (.invokevirtual 46, 3) := by decide +kernel
theorem dL_law_264 : decode cL_law 264 = .ok (.aload_n 2, 1) := by decide +kernel
theorem dL_law_265 : decode cL_law 265 = .ok (.aload_n 0, 1) := by decide +kernel
theorem dL_law_266 : decode cL_law 266 = .ok (.iload 4, 2) := by decide +kernel
theorem dL_law_268 : decode cL_law 268 = .ok (.iconst 1, 1) := by decide +kernel
theorem dL_law_269 : decode cL_law 269 = .ok (.iadd, 1) := by decide +kernel
theorem dL_law_270 : decode cL_law 270 = .ok (.iaload, 1) := by decide +kernel
theorem dL_law_271 : decode cL_law 271 = .ok (.aload_n 0, 1) := by decide +kernel
theorem dL_law_272 : decode cL_law 272 = .ok (.iload 4, 2) := by decide +kernel
theorem dL_law_274 : decode cL_law 274 = .ok (.iconst 2, 1) := by decide +kernel
theorem dL_law_275 : decode cL_law 275 = .ok (.iadd, 1) := by decide +kernel
theorem dL_law_276 : decode cL_law 276 = .ok (.iaload, 1) := by decide +kernel
theorem dL_law_277 : decode cL_law 277 = .ok (.invokevirtual 50, 3) := by decide +kernel
theorem dL_law_280 : decode cL_law 280 = .ok (.if_icmp .eq 564, 3) := by decide +kernel
theorem dL_law_283 : decode cL_law 283 = .ok (.iconst 0, 1) := by decide +kernel
theorem dL_law_284 : decode cL_law 284 = .ok (.ireturn, 1) := by decide +kernel
theorem dL_law_285 : decode cL_law 285 = .ok (.aload_n 1, 1) := by decide +kernel
theorem dL_law_286 : decode cL_law 286 = .ok (.aload_n 0, 1) := by decide +kernel
theorem dL_law_287 : decode cL_law 287 = .ok (.iload 4, 2) := by decide +kernel
theorem dL_law_289 : decode cL_law 289 = .ok (.iconst 1, 1) := by decide +kernel
theorem dL_law_290 : decode cL_law 290 = .ok (.iadd, 1) := by decide +kernel
theorem dL_law_291 : decode cL_law 291 = .ok (.iaload, 1) := by decide +kernel
theorem dL_law_292 : decode cL_law 292 = .ok (.aload_n 0, 1) := by decide +kernel
theorem dL_law_293 : decode cL_law 293 = .ok (.iload 4, 2) := by decide +kernel
theorem dL_law_295 : decode cL_law 295 = .ok (.iconst 2, 1) := by decide +kernel
theorem dL_law_296 : decode cL_law 296 = .ok (.iadd, 1) := by decide +kernel
theorem dL_law_297 : decode cL_law 297 = .ok (.iaload, 1) := by decide +kernel
theorem dL_law_298 : decode cL_law 298 = .ok (.aload_n 0, 1) := by decide +kernel
theorem dL_law_299 : decode cL_law 299 = .ok (.iload 4, 2) := by decide +kernel
theorem dL_law_301 : decode cL_law 301 = .ok (.iconst 3, 1) := by decide +kernel
theorem dL_law_302 : decode cL_law 302 = .ok (.iadd, 1) := by decide +kernel
theorem dL_law_303 : decode cL_law 303 = .ok (.iaload, 1) := by decide +kernel
theorem dL_law_304 : decode cL_law 304 = .ok (.invokevirtual 51, 3) := by decide +kernel
theorem dL_law_307 : decode cL_law 307 = .ok (.aload_n 2, 1) := by decide +kernel
theorem dL_law_308 : decode cL_law 308 = .ok (.aload_n 0, 1) := by decide +kernel
theorem dL_law_309 : decode cL_law 309 = .ok (.iload 4, 2) := by decide +kernel
theorem dL_law_311 : decode cL_law 311 = .ok (.iconst 1, 1) := by decide +kernel
theorem dL_law_312 : decode cL_law 312 = .ok (.iadd, 1) := by decide +kernel
theorem dL_law_313 : decode cL_law 313 = .ok (.iaload, 1) := by decide +kernel
theorem dL_law_314 : decode cL_law 314 = .ok (.aload_n 0, 1) := by decide +kernel
theorem dL_law_315 : decode cL_law 315 = .ok (.iload 4, 2) := by decide +kernel
theorem dL_law_317 : decode cL_law 317 = .ok (.iconst 2, 1) := by decide +kernel
theorem dL_law_318 : decode cL_law 318 = .ok (.iadd, 1) := by decide +kernel
theorem dL_law_319 : decode cL_law 319 = .ok (.iaload, 1) := by decide +kernel
theorem dL_law_320 : decode cL_law 320 = .ok (.aload_n 0, 1) := by decide +kernel
theorem dL_law_321 : decode cL_law 321 = .ok (.iload 4, 2) := by decide +kernel
theorem dL_law_323 : decode cL_law 323 = .ok (.iconst 3, 1) := by decide +kernel
theorem dL_law_324 : decode cL_law 324 = .ok (.iadd, 1) := by decide +kernel
theorem dL_law_325 : decode cL_law 325 = .ok (.iaload, 1) := by decide +kernel
theorem dL_law_326 : decode cL_law 326 = .ok (.invokevirtual 55, 3) := by decide +kernel
theorem dL_law_329 : decode cL_law 329 = .ok (.if_icmp .eq 515, 3) := by decide +kernel
theorem dL_law_332 : decode cL_law 332 = .ok (.iconst 0, 1) := by decide +kernel
theorem dL_law_333 : decode cL_law 333 = .ok (.ireturn, 1) := by decide +kernel
theorem dL_law_334 : decode cL_law 334 = .ok (.aload_n 1, 1) := by decide +kernel
theorem dL_law_335 : decode cL_law 335 = .ok (.aload_n 0, 1) := by decide +kernel
theorem dL_law_336 : decode cL_law 336 = .ok (.iload 4, 2) := by decide +kernel
theorem dL_law_338 : decode cL_law 338 = .ok (.iconst 1, 1) := by decide +kernel
theorem dL_law_339 : decode cL_law 339 = .ok (.iadd, 1) := by decide +kernel
theorem dL_law_340 : decode cL_law 340 = .ok (.iaload, 1) := by decide +kernel
theorem dL_law_341 : decode cL_law 341 = .ok (.aload_n 0, 1) := by decide +kernel
theorem dL_law_342 : decode cL_law 342 = .ok (.iload 4, 2) := by decide +kernel
theorem dL_law_344 : decode cL_law 344 = .ok (.iconst 2, 1) := by decide +kernel
theorem dL_law_345 : decode cL_law 345 = .ok (.iadd, 1) := by decide +kernel
theorem dL_law_346 : decode cL_law 346 = .ok (.iaload, 1) := by decide +kernel
theorem dL_law_347 : decode cL_law 347 = .ok (.aload_n 3, 1) := by decide +kernel
theorem dL_law_348 : decode cL_law 348 = .ok (.invokestatic 56, 3) := by decide +kernel
theorem dL_law_351 : decode cL_law 351 = .ok (.istore 5, 2) := by decide +kernel
theorem dL_law_353 : decode cL_law 353 = .ok (.aload_n 2, 1) := by decide +kernel
theorem dL_law_354 : decode cL_law 354 = .ok (.aload_n 0, 1) := by decide +kernel
theorem dL_law_355 : decode cL_law 355 = .ok (.iload 4, 2) := by decide +kernel
theorem dL_law_357 : decode cL_law 357 = .ok (.iconst 1, 1) := by decide +kernel
theorem dL_law_358 : decode cL_law 358 = .ok (.iadd, 1) := by decide +kernel
theorem dL_law_359 : decode cL_law 359 = .ok (.iaload, 1) := by decide +kernel
theorem dL_law_360 : decode cL_law 360 = .ok (.aload_n 0, 1) := by decide +kernel
theorem dL_law_361 : decode cL_law 361 = .ok (.iload 4, 2) := by decide +kernel
theorem dL_law_363 : decode cL_law 363 = .ok (.iconst 2, 1) := by decide +kernel
theorem dL_law_364 : decode cL_law 364 = .ok (.iadd, 1) := by decide +kernel
theorem dL_law_365 : decode cL_law 365 = .ok (.iaload, 1) := by decide +kernel
theorem dL_law_366 : decode cL_law 366 = .ok (.invokevirtual 61, 3) := by decide +kernel
theorem dL_law_369 : decode cL_law 369 = .ok (.lstore 6, 2) := by decide +kernel
theorem dL_law_371 : decode cL_law 371 = .ok (.aload_n 2, 1) := by decide +kernel
theorem dL_law_372 : decode cL_law 372 = .ok (.invokevirtual 62, 3) := by decide +kernel
theorem dL_law_375 : decode cL_law 375 = .ok (.iload 5, 2) := by decide +kernel
theorem dL_law_377 : decode cL_law 377 = .ok (.if_icmp .eq 5, 3) := by decide +kernel
theorem dL_law_380 : decode cL_law 380 = .ok (.iconst 0, 1) := by decide +kernel
theorem dL_law_381 : decode cL_law 381 = .ok (.ireturn, 1) := by decide +kernel
theorem dL_law_382 : decode cL_law 382 = .ok (.iload 5, 2) := by decide +kernel
theorem dL_law_384 : decode cL_law 384 = .ok (.ifCond .ne 14, 3) := by decide +kernel
theorem dL_law_387 : decode cL_law 387 = .ok (.aload_n 3, 1) := by decide +kernel
theorem dL_law_388 : decode cL_law 388 = .ok (.iconst 0, 1) := by decide +kernel
theorem dL_law_389 : decode cL_law 389 = .ok (.laload, 1) := by decide +kernel
theorem dL_law_390 : decode cL_law 390 = .ok (.lload 6, 2) := by decide +kernel
theorem dL_law_392 : decode cL_law 392 = .ok (.lcmp, 1) := by decide +kernel
theorem dL_law_393 : decode cL_law 393 = .ok (.ifCond .eq 5, 3) := by decide +kernel
theorem dL_law_396 : decode cL_law 396 = .ok (.iconst 0, 1) := by decide +kernel
theorem dL_law_397 : decode cL_law 397 = .ok (.ireturn, 1) := by decide +kernel
theorem dL_law_398 : decode cL_law 398 = .ok (.goto 446, 3) := by decide +kernel
theorem dL_law_401 : decode cL_law 401 = .ok (.aload_n 1, 1) := by decide +kernel
theorem dL_law_402 : decode cL_law 402 = .ok (.aload_n 0, 1) := by decide +kernel
theorem dL_law_403 : decode cL_law 403 = .ok (.iload 4, 2) := by decide +kernel
theorem dL_law_405 : decode cL_law 405 = .ok (.iconst 1, 1) := by decide +kernel
theorem dL_law_406 : decode cL_law 406 = .ok (.iadd, 1) := by decide +kernel
theorem dL_law_407 : decode cL_law 407 = .ok (.iaload, 1) := by decide +kernel
theorem dL_law_408 : decode cL_law 408 = .ok (.aload_n 0, 1) := by decide +kernel
theorem dL_law_409 : decode cL_law 409 = .ok (.iload 4, 2) := by decide +kernel
theorem dL_law_411 : decode cL_law 411 = .ok (.iconst 2, 1) := by decide +kernel
theorem dL_law_412 : decode cL_law 412 = .ok (.iadd, 1) := by decide +kernel
theorem dL_law_413 : decode cL_law 413 = .ok (.iaload, 1) := by decide +kernel
theorem dL_law_414 : decode cL_law 414 = .ok (.aload_n 0, 1) := by decide +kernel
theorem dL_law_415 : decode cL_law 415 = .ok (.iload 4, 2) := by decide +kernel
theorem dL_law_417 : decode cL_law 417 = .ok (.iconst 3, 1) := by decide +kernel
theorem dL_law_418 : decode cL_law 418 = .ok (.iadd, 1) := by decide +kernel
theorem dL_law_419 : decode cL_law 419 = .ok (.iaload, 1) := by decide +kernel
theorem dL_law_420 : decode cL_law 420 = .ok (.invokevirtual 65, 3) := by decide +kernel
theorem dL_law_423 : decode cL_law 423 = .ok (.aload_n 2, 1) := by decide +kernel
theorem dL_law_424 : decode cL_law 424 = .ok (.aload_n 0, 1) := by decide +kernel
theorem dL_law_425 : decode cL_law 425 = .ok (.iload 4, 2) := by decide +kernel
theorem dL_law_427 : decode cL_law 427 = .ok (.iconst 1, 1) := by decide +kernel
theorem dL_law_428 : decode cL_law 428 = .ok (.iadd, 1) := by decide +kernel
theorem dL_law_429 : decode cL_law 429 = .ok (.iaload, 1) := by decide +kernel
theorem dL_law_430 : decode cL_law 430 = .ok (.aload_n 0, 1) := by decide +kernel
theorem dL_law_431 : decode cL_law 431 = .ok (.iload 4, 2) := by decide +kernel
theorem dL_law_433 : decode cL_law 433 = .ok (.iconst 2, 1) := by decide +kernel
theorem dL_law_434 : decode cL_law 434 = .ok (.iadd, 1) := by decide +kernel
theorem dL_law_435 : decode cL_law 435 = .ok (.iaload, 1) := by decide +kernel
theorem dL_law_436 : decode cL_law 436 = .ok (.aload_n 0, 1) := by decide +kernel
theorem dL_law_437 : decode cL_law 437 = .ok (.iload 4, 2) := by decide +kernel
theorem dL_law_439 : decode cL_law 439 = .ok (.iconst 3, 1) := by decide +kernel
theorem dL_law_440 : decode cL_law 440 = .ok (.iadd, 1) := by decide +kernel
theorem dL_law_441 : decode cL_law 441 = .ok (.iaload, 1) := by decide +kernel
theorem dL_law_442 : decode cL_law 442 = .ok (.invokevirtual 68, 3) := by decide +kernel
theorem dL_law_445 : decode cL_law 445 = .ok (.if_icmp .eq 399, 3) := by decide +kernel
theorem dL_law_448 : decode cL_law 448 = .ok (.iconst 0, 1) := by decide +kernel
theorem dL_law_449 : decode cL_law 449 = .ok (.ireturn, 1) := by decide +kernel
theorem dL_law_450 : decode cL_law 450 = .ok (.aload_n 1, 1) := by decide +kernel
theorem dL_law_451 : decode cL_law 451 = .ok (.aload_n 0, 1) := by decide +kernel
theorem dL_law_452 : decode cL_law 452 = .ok (.iload 4, 2) := by decide +kernel
theorem dL_law_454 : decode cL_law 454 = .ok (.iconst 1, 1) := by decide +kernel
theorem dL_law_455 : decode cL_law 455 = .ok (.iadd, 1) := by decide +kernel
theorem dL_law_456 : decode cL_law 456 = .ok (.iaload, 1) := by decide +kernel
theorem dL_law_457 : decode cL_law 457 = .ok (.aload_n 0, 1) := by decide +kernel
theorem dL_law_458 : decode cL_law 458 = .ok (.iload 4, 2) := by decide +kernel
theorem dL_law_460 : decode cL_law 460 = .ok (.iconst 2, 1) := by decide +kernel
theorem dL_law_461 : decode cL_law 461 = .ok (.iadd, 1) := by decide +kernel
theorem dL_law_462 : decode cL_law 462 = .ok (.iaload, 1) := by decide +kernel
theorem dL_law_463 : decode cL_law 463 = .ok (.aload_n 0, 1) := by decide +kernel
theorem dL_law_464 : decode cL_law 464 = .ok (.iload 4, 2) := by decide +kernel
theorem dL_law_466 : decode cL_law 466 = .ok (.iconst 3, 1) := by decide +kernel
theorem dL_law_467 : decode cL_law 467 = .ok (.iadd, 1) := by decide +kernel
theorem dL_law_468 : decode cL_law 468 = .ok (.iaload, 1) := by decide +kernel
theorem dL_law_469 : decode cL_law 469 = .ok (.aload_n 0, 1) := by decide +kernel
theorem dL_law_470 : decode cL_law 470 = .ok (.iload 4, 2) := by decide +kernel
theorem dL_law_472 : decode cL_law 472 = .ok (.iconst 4, 1) := by decide +kernel
theorem dL_law_473 : decode cL_law 473 = .ok (.iadd, 1) := by decide +kernel
theorem dL_law_474 : decode cL_law 474 = .ok (.iaload, 1) := by decide +kernel
theorem dL_law_475 : decode cL_law 475 = .ok (.invokevirtual 69, 3) := by decide +kernel
theorem dL_law_478 : decode cL_law 478 = .ok (.aload_n 2, 1) := by decide +kernel
theorem dL_law_479 : decode cL_law 479 = .ok (.aload_n 0, 1) := by decide +kernel
theorem dL_law_480 : decode cL_law 480 = .ok (.iload 4, 2) := by decide +kernel
theorem dL_law_482 : decode cL_law 482 = .ok (.iconst 1, 1) := by decide +kernel
theorem dL_law_483 : decode cL_law 483 = .ok (.iadd, 1) := by decide +kernel
theorem dL_law_484 : decode cL_law 484 = .ok (.iaload, 1) := by decide +kernel
theorem dL_law_485 : decode cL_law 485 = .ok (.aload_n 0, 1) := by decide +kernel
theorem dL_law_486 : decode cL_law 486 = .ok (.iload 4, 2) := by decide +kernel
theorem dL_law_488 : decode cL_law 488 = .ok (.iconst 2, 1) := by decide +kernel
theorem dL_law_489 : decode cL_law 489 = .ok (.iadd, 1) := by decide +kernel
theorem dL_law_490 : decode cL_law 490 = .ok (.iaload, 1) := by decide +kernel
theorem dL_law_491 : decode cL_law 491 = .ok (.aload_n 0, 1) := by decide +kernel
theorem dL_law_492 : decode cL_law 492 = .ok (.iload 4, 2) := by decide +kernel
theorem dL_law_494 : decode cL_law 494 = .ok (.iconst 3, 1) := by decide +kernel
theorem dL_law_495 : decode cL_law 495 = .ok (.iadd, 1) := by decide +kernel
theorem dL_law_496 : decode cL_law 496 = .ok (.iaload, 1) := by decide +kernel
theorem dL_law_497 : decode cL_law 497 = .ok (.aload_n 0, 1) := by decide +kernel
theorem dL_law_498 : decode cL_law 498 = .ok (.iload 4, 2) := by decide +kernel
theorem dL_law_500 : decode cL_law 500 = .ok (.iconst 4, 1) := by decide +kernel
theorem dL_law_501 : decode cL_law 501 = .ok (.iadd, 1) := by decide +kernel
theorem dL_law_502 : decode cL_law 502 = .ok (.iaload, 1) := by decide +kernel
theorem dL_law_503 : decode cL_law 503 = .ok (.invokevirtual 73, 3) := by decide +kernel
theorem dL_law_506 : decode cL_law 506 = .ok (.if_icmp .eq 338, 3) := by decide +kernel
theorem dL_law_509 : decode cL_law 509 = .ok (.iconst 0, 1) := by decide +kernel
theorem dL_law_510 : decode cL_law 510 = .ok (.ireturn, 1) := by decide +kernel
theorem dL_law_511 : decode cL_law 511 = .ok (.aload_n 1, 1) := by decide +kernel
theorem dL_law_512 : decode cL_law 512 = .ok (.aload_n 0, 1) := by decide +kernel
theorem dL_law_513 : decode cL_law 513 = .ok (.iload 4, 2) := by decide +kernel
theorem dL_law_515 : decode cL_law 515 = .ok (.iconst 1, 1) := by decide +kernel
theorem dL_law_516 : decode cL_law 516 = .ok (.iadd, 1) := by decide +kernel
theorem dL_law_517 : decode cL_law 517 = .ok (.iaload, 1) := by decide +kernel
theorem dL_law_518 : decode cL_law 518 = .ok (.aload_n 0, 1) := by decide +kernel
theorem dL_law_519 : decode cL_law 519 = .ok (.iload 4, 2) := by decide +kernel
theorem dL_law_521 : decode cL_law 521 = .ok (.iconst 2, 1) := by decide +kernel
theorem dL_law_522 : decode cL_law 522 = .ok (.iadd, 1) := by decide +kernel
theorem dL_law_523 : decode cL_law 523 = .ok (.iaload, 1) := by decide +kernel
theorem dL_law_524 : decode cL_law 524 = .ok (.aload_n 0, 1) := by decide +kernel
theorem dL_law_525 : decode cL_law 525 = .ok (.iload 4, 2) := by decide +kernel
theorem dL_law_527 : decode cL_law 527 = .ok (.iconst 3, 1) := by decide +kernel
theorem dL_law_528 : decode cL_law 528 = .ok (.iadd, 1) := by decide +kernel
theorem dL_law_529 : decode cL_law 529 = .ok (.iaload, 1) := by decide +kernel
theorem dL_law_530 : decode cL_law 530 = .ok (.aload_n 0, 1) := by decide +kernel
theorem dL_law_531 : decode cL_law 531 = .ok (.iload 4, 2) := by decide +kernel
theorem dL_law_533 : decode cL_law 533 = .ok (.iconst 4, 1) := by decide +kernel
theorem dL_law_534 : decode cL_law 534 = .ok (.iadd, 1) := by decide +kernel
theorem dL_law_535 : decode cL_law 535 = .ok (.iaload, 1) := by decide +kernel
theorem dL_law_536 : decode cL_law 536 = .ok (.invokevirtual 74, 3) := by decide +kernel
theorem dL_law_539 : decode cL_law 539 = .ok (.aload_n 2, 1) := by decide +kernel
theorem dL_law_540 : decode cL_law 540 = .ok (.aload_n 0, 1) := by decide +kernel
theorem dL_law_541 : decode cL_law 541 = .ok (.iload 4, 2) := by decide +kernel
theorem dL_law_543 : decode cL_law 543 = .ok (.iconst 1, 1) := by decide +kernel
theorem dL_law_544 : decode cL_law 544 = .ok (.iadd, 1) := by decide +kernel
theorem dL_law_545 : decode cL_law 545 = .ok (.iaload, 1) := by decide +kernel
theorem dL_law_546 : decode cL_law 546 = .ok (.aload_n 0, 1) := by decide +kernel
theorem dL_law_547 : decode cL_law 547 = .ok (.iload 4, 2) := by decide +kernel
theorem dL_law_549 : decode cL_law 549 = .ok (.iconst 2, 1) := by decide +kernel
theorem dL_law_550 : decode cL_law 550 = .ok (.iadd, 1) := by decide +kernel
theorem dL_law_551 : decode cL_law 551 = .ok (.iaload, 1) := by decide +kernel
theorem dL_law_552 : decode cL_law 552 = .ok (.aload_n 0, 1) := by decide +kernel
theorem dL_law_553 : decode cL_law 553 = .ok (.iload 4, 2) := by decide +kernel
theorem dL_law_555 : decode cL_law 555 = .ok (.iconst 3, 1) := by decide +kernel
theorem dL_law_556 : decode cL_law 556 = .ok (.iadd, 1) := by decide +kernel
theorem dL_law_557 : decode cL_law 557 = .ok (.iaload, 1) := by decide +kernel
theorem dL_law_558 : decode cL_law 558 = .ok (.aload_n 0, 1) := by decide +kernel
theorem dL_law_559 : decode cL_law 559 = .ok (.iload 4, 2) := by decide +kernel
theorem dL_law_561 : decode cL_law 561 = .ok (.iconst 4, 1) := by decide +kernel
theorem dL_law_562 : decode cL_law 562 = .ok (.iadd, 1) := by decide +kernel
theorem dL_law_563 : decode cL_law 563 = .ok (.iaload, 1) := by decide +kernel
theorem dL_law_564 : decode cL_law 564 = .ok (.invokevirtual 77, 3) := by decide +kernel
theorem dL_law_567 : decode cL_law 567 = .ok (.if_icmp .eq 277, 3) := by decide +kernel
theorem dL_law_570 : decode cL_law 570 = .ok (.iconst 0, 1) := by decide +kernel
theorem dL_law_571 : decode cL_law 571 = .ok (.ireturn, 1) := by decide +kernel
theorem dL_law_572 : decode cL_law 572 = .ok (.aload_n 1, 1) := by decide +kernel
theorem dL_law_573 : decode cL_law 573 = .ok (.aload_n 0, 1) := by decide +kernel
theorem dL_law_574 : decode cL_law 574 = .ok (.iload 4, 2) := by decide +kernel
theorem dL_law_576 : decode cL_law 576 = .ok (.iconst 1, 1) := by decide +kernel
theorem dL_law_577 : decode cL_law 577 = .ok (.iadd, 1) := by decide +kernel
theorem dL_law_578 : decode cL_law 578 = .ok (.iaload, 1) := by decide +kernel
theorem dL_law_579 : decode cL_law 579 = .ok (.aload_n 0, 1) := by decide +kernel
theorem dL_law_580 : decode cL_law 580 = .ok (.iload 4, 2) := by decide +kernel
theorem dL_law_582 : decode cL_law 582 = .ok (.iconst 2, 1) := by decide +kernel
theorem dL_law_583 : decode cL_law 583 = .ok (.iadd, 1) := by decide +kernel
theorem dL_law_584 : decode cL_law 584 = .ok (.iaload, 1) := by decide +kernel
theorem dL_law_585 : decode cL_law 585 = .ok (.aload_n 0, 1) := by decide +kernel
theorem dL_law_586 : decode cL_law 586 = .ok (.iload 4, 2) := by decide +kernel
theorem dL_law_588 : decode cL_law 588 = .ok (.iconst 3, 1) := by decide +kernel
theorem dL_law_589 : decode cL_law 589 = .ok (.iadd, 1) := by decide +kernel
theorem dL_law_590 : decode cL_law 590 = .ok (.iaload, 1) := by decide +kernel
theorem dL_law_591 : decode cL_law 591 = .ok (.aload_n 0, 1) := by decide +kernel
theorem dL_law_592 : decode cL_law 592 = .ok (.iload 4, 2) := by decide +kernel
theorem dL_law_594 : decode cL_law 594 = .ok (.iconst 4, 1) := by decide +kernel
theorem dL_law_595 : decode cL_law 595 = .ok (.iadd, 1) := by decide +kernel
theorem dL_law_596 : decode cL_law 596 = .ok (.iaload, 1) := by decide +kernel
theorem dL_law_597 : decode cL_law 597 = .ok (.aload_n 0, 1) := by decide +kernel
theorem dL_law_598 : decode cL_law 598 = .ok (.iload 4, 2) := by decide +kernel
theorem dL_law_600 : decode cL_law 600 = .ok (.iconst 5, 1) := by decide +kernel
theorem dL_law_601 : decode cL_law 601 = .ok (.iadd, 1) := by decide +kernel
theorem dL_law_602 : decode cL_law 602 = .ok (.iaload, 1) := by decide +kernel
theorem dL_law_603 : decode cL_law 603 = .ok (.invokevirtual 78, 3) := by decide +kernel
theorem dL_law_606 : decode cL_law 606 = .ok (.aload_n 2, 1) := by decide +kernel
theorem dL_law_607 : decode cL_law 607 = .ok (.aload_n 0, 1) := by decide +kernel
theorem dL_law_608 : decode cL_law 608 = .ok (.iload 4, 2) := by decide +kernel
theorem dL_law_610 : decode cL_law 610 = .ok (.iconst 1, 1) := by decide +kernel
theorem dL_law_611 : decode cL_law 611 = .ok (.iadd, 1) := by decide +kernel
theorem dL_law_612 : decode cL_law 612 = .ok (.iaload, 1) := by decide +kernel
theorem dL_law_613 : decode cL_law 613 = .ok (.aload_n 0, 1) := by decide +kernel
theorem dL_law_614 : decode cL_law 614 = .ok (.iload 4, 2) := by decide +kernel
theorem dL_law_616 : decode cL_law 616 = .ok (.iconst 2, 1) := by decide +kernel
theorem dL_law_617 : decode cL_law 617 = .ok (.iadd, 1) := by decide +kernel
theorem dL_law_618 : decode cL_law 618 = .ok (.iaload, 1) := by decide +kernel
theorem dL_law_619 : decode cL_law 619 = .ok (.aload_n 0, 1) := by decide +kernel
theorem dL_law_620 : decode cL_law 620 = .ok (.iload 4, 2) := by decide +kernel
theorem dL_law_622 : decode cL_law 622 = .ok (.iconst 3, 1) := by decide +kernel
theorem dL_law_623 : decode cL_law 623 = .ok (.iadd, 1) := by decide +kernel
theorem dL_law_624 : decode cL_law 624 = .ok (.iaload, 1) := by decide +kernel
theorem dL_law_625 : decode cL_law 625 = .ok (.aload_n 0, 1) := by decide +kernel
theorem dL_law_626 : decode cL_law 626 = .ok (.iload 4, 2) := by decide +kernel
theorem dL_law_628 : decode cL_law 628 = .ok (.iconst 4, 1) := by decide +kernel
theorem dL_law_629 : decode cL_law 629 = .ok (.iadd, 1) := by decide +kernel
theorem dL_law_630 : decode cL_law 630 = .ok (.iaload, 1) := by decide +kernel
theorem dL_law_631 : decode cL_law 631 = .ok (.aload_n 0, 1) := by decide +kernel
theorem dL_law_632 : decode cL_law 632 = .ok (.iload 4, 2) := by decide +kernel
theorem dL_law_634 : decode cL_law 634 = .ok (.iconst 5, 1) := by decide +kernel
theorem dL_law_635 : decode cL_law 635 = .ok (.iadd, 1) := by decide +kernel
theorem dL_law_636 : decode cL_law 636 = .ok (.iaload, 1) := by decide +kernel
theorem dL_law_637 : decode cL_law 637 = .ok (.invokevirtual 82, 3) := by decide +kernel
theorem dL_law_640 : decode cL_law 640 = .ok (.if_icmp .eq 204, 3) := by decide +kernel
theorem dL_law_643 : decode cL_law 643 = .ok (.iconst 0, 1) := by decide +kernel
theorem dL_law_644 : decode cL_law 644 = .ok (.ireturn, 1) := by decide +kernel
theorem dL_law_645 : decode cL_law 645 = .ok (.aload_n 1, 1) := by decide +kernel
theorem dL_law_646 : decode cL_law 646 = .ok (.aload_n 0, 1) := by decide +kernel
theorem dL_law_647 : decode cL_law 647 = .ok (.iload 4, 2) := by decide +kernel
theorem dL_law_649 : decode cL_law 649 = .ok (.iconst 1, 1) := by decide +kernel
theorem dL_law_650 : decode cL_law 650 = .ok (.iadd, 1) := by decide +kernel
theorem dL_law_651 : decode cL_law 651 = .ok (.iaload, 1) := by decide +kernel
theorem dL_law_652 : decode cL_law 652 = .ok (.invokevirtual 83, 3) := by decide +kernel
theorem dL_law_655 : decode cL_law 655 = .ok (.aload_n 2, 1) := by decide +kernel
theorem dL_law_656 : decode cL_law 656 = .ok (.aload_n 0, 1) := by decide +kernel
theorem dL_law_657 : decode cL_law 657 = .ok (.iload 4, 2) := by decide +kernel
theorem dL_law_659 : decode cL_law 659 = .ok (.iconst 1, 1) := by decide +kernel
theorem dL_law_660 : decode cL_law 660 = .ok (.iadd, 1) := by decide +kernel
theorem dL_law_661 : decode cL_law 661 = .ok (.iaload, 1) := by decide +kernel
theorem dL_law_662 : decode cL_law 662 = .ok (.invokevirtual 86, 3) := by decide +kernel
theorem dL_law_665 : decode cL_law 665 = .ok (.if_icmp .eq 179, 3) := by decide +kernel
theorem dL_law_668 : decode cL_law 668 = .ok (.iconst 0, 1) := by decide +kernel
theorem dL_law_669 : decode cL_law 669 = .ok (.ireturn, 1) := by decide +kernel
theorem dL_law_670 : decode cL_law 670 = .ok (.aload_n 1, 1) := by decide +kernel
theorem dL_law_671 : decode cL_law 671 = .ok (.invokevirtual 87, 3) := by decide +kernel
theorem dL_law_674 : decode cL_law 674 = .ok (.aload_n 2, 1) := by decide +kernel
theorem dL_law_675 : decode cL_law 675 = .ok (.invokevirtual 90, 3) := by decide +kernel
theorem dL_law_678 : decode cL_law 678 = .ok (.if_icmp .eq 166, 3) := by decide +kernel
theorem dL_law_681 : decode cL_law 681 = .ok (.iconst 0, 1) := by decide +kernel
theorem dL_law_682 : decode cL_law 682 = .ok (.ireturn, 1) := by decide +kernel
theorem dL_law_683 : decode cL_law 683 = .ok (.aload_n 1, 1) := by decide +kernel
theorem dL_law_684 : decode cL_law 684 = .ok (.aload_n 0, 1) := by decide +kernel
theorem dL_law_685 : decode cL_law 685 = .ok (.iload 4, 2) := by decide +kernel
theorem dL_law_687 : decode cL_law 687 = .ok (.iconst 1, 1) := by decide +kernel
theorem dL_law_688 : decode cL_law 688 = .ok (.iadd, 1) := by decide +kernel
theorem dL_law_689 : decode cL_law 689 = .ok (.iaload, 1) := by decide +kernel
theorem dL_law_690 : decode cL_law 690 = .ok (.aload_n 0, 1) := by decide +kernel
theorem dL_law_691 : decode cL_law 691 = .ok (.iload 4, 2) := by decide +kernel
theorem dL_law_693 : decode cL_law 693 = .ok (.iconst 2, 1) := by decide +kernel
theorem dL_law_694 : decode cL_law 694 = .ok (.iadd, 1) := by decide +kernel
theorem dL_law_695 : decode cL_law 695 = .ok (.iaload, 1) := by decide +kernel
theorem dL_law_696 : decode cL_law 696 = .ok (.invokevirtual 91, 3) := by decide +kernel
theorem dL_law_699 : decode cL_law 699 = .ok (.aload_n 2, 1) := by decide +kernel
theorem dL_law_700 : decode cL_law 700 = .ok (.aload_n 0, 1) := by decide +kernel
theorem dL_law_701 : decode cL_law 701 = .ok (.iload 4, 2) := by decide +kernel
theorem dL_law_703 : decode cL_law 703 = .ok (.iconst 1, 1) := by decide +kernel
theorem dL_law_704 : decode cL_law 704 = .ok (.iadd, 1) := by decide +kernel
theorem dL_law_705 : decode cL_law 705 = .ok (.iaload, 1) := by decide +kernel
theorem dL_law_706 : decode cL_law 706 = .ok (.aload_n 0, 1) := by decide +kernel
theorem dL_law_707 : decode cL_law 707 = .ok (.iload 4, 2) := by decide +kernel
theorem dL_law_709 : decode cL_law 709 = .ok (.iconst 2, 1) := by decide +kernel
theorem dL_law_710 : decode cL_law 710 = .ok (.iadd, 1) := by decide +kernel
theorem dL_law_711 : decode cL_law 711 = .ok (.iaload, 1) := by decide +kernel
theorem dL_law_712 : decode cL_law 712 = .ok (.invokevirtual 94, 3) := by decide +kernel
theorem dL_law_715 : decode cL_law 715 = .ok (.if_icmp .eq 129, 3) := by decide +kernel
theorem dL_law_718 : decode cL_law 718 = .ok (.iconst 0, 1) := by decide +kernel
theorem dL_law_719 : decode cL_law 719 = .ok (.ireturn, 1) := by decide +kernel
theorem dL_law_720 : decode cL_law 720 = .ok (.aload_n 1, 1) := by decide +kernel
theorem dL_law_721 : decode cL_law 721 = .ok (.aload_n 0, 1) := by decide +kernel
theorem dL_law_722 : decode cL_law 722 = .ok (.iload 4, 2) := by decide +kernel
theorem dL_law_724 : decode cL_law 724 = .ok (.iconst 1, 1) := by decide +kernel
theorem dL_law_725 : decode cL_law 725 = .ok (.iadd, 1) := by decide +kernel
theorem dL_law_726 : decode cL_law 726 = .ok (.iaload, 1) := by decide +kernel
theorem dL_law_727 : decode cL_law 727 = .ok (.aload_n 0, 1) := by decide +kernel
theorem dL_law_728 : decode cL_law 728 = .ok (.iload 4, 2) := by decide +kernel
theorem dL_law_730 : decode cL_law 730 = .ok (.iconst 2, 1) := by decide +kernel
theorem dL_law_731 : decode cL_law 731 = .ok (.iadd, 1) := by decide +kernel
theorem dL_law_732 : decode cL_law 732 = .ok (.iaload, 1) := by decide +kernel
theorem dL_law_733 : decode cL_law 733 = .ok (.invokevirtual 95, 3) := by decide +kernel
theorem dL_law_736 : decode cL_law 736 = .ok (.aload_n 2, 1) := by decide +kernel
theorem dL_law_737 : decode cL_law 737 = .ok (.aload_n 0, 1) := by decide +kernel
theorem dL_law_738 : decode cL_law 738 = .ok (.iload 4, 2) := by decide +kernel
theorem dL_law_740 : decode cL_law 740 = .ok (.iconst 1, 1) := by decide +kernel
theorem dL_law_741 : decode cL_law 741 = .ok (.iadd, 1) := by decide +kernel
theorem dL_law_742 : decode cL_law 742 = .ok (.iaload, 1) := by decide +kernel
theorem dL_law_743 : decode cL_law 743 = .ok (.aload_n 0, 1) := by decide +kernel
theorem dL_law_744 : decode cL_law 744 = .ok (.iload 4, 2) := by decide +kernel
theorem dL_law_746 : decode cL_law 746 = .ok (.iconst 2, 1) := by decide +kernel
theorem dL_law_747 : decode cL_law 747 = .ok (.iadd, 1) := by decide +kernel
theorem dL_law_748 : decode cL_law 748 = .ok (.iaload, 1) := by decide +kernel
theorem dL_law_749 : decode cL_law 749 = .ok (.invokevirtual 98, 3) := by decide +kernel
theorem dL_law_752 : decode cL_law 752 = .ok (.if_icmp .eq 92, 3) := by decide +kernel
theorem dL_law_755 : decode cL_law 755 = .ok (.iconst 0, 1) := by decide +kernel
theorem dL_law_756 : decode cL_law 756 = .ok (.ireturn, 1) := by decide +kernel
theorem dL_law_757 : decode cL_law 757 = .ok (.aload_n 1, 1) := by decide +kernel
theorem dL_law_758 : decode cL_law 758 = .ok (.aload_n 0, 1) := by decide +kernel
theorem dL_law_759 : decode cL_law 759 = .ok (.iload 4, 2) := by decide +kernel
theorem dL_law_761 : decode cL_law 761 = .ok (.iconst 1, 1) := by decide +kernel
theorem dL_law_762 : decode cL_law 762 = .ok (.iadd, 1) := by decide +kernel
theorem dL_law_763 : decode cL_law 763 = .ok (.iaload, 1) := by decide +kernel
theorem dL_law_764 : decode cL_law 764 = .ok (.aload_n 0, 1) := by decide +kernel
theorem dL_law_765 : decode cL_law 765 = .ok (.iload 4, 2) := by decide +kernel
theorem dL_law_767 : decode cL_law 767 = .ok (.iconst 2, 1) := by decide +kernel
theorem dL_law_768 : decode cL_law 768 = .ok (.iadd, 1) := by decide +kernel
theorem dL_law_769 : decode cL_law 769 = .ok (.iaload, 1) := by decide +kernel
theorem dL_law_770 : decode cL_law 770 = .ok (.invokevirtual 99, 3) := by decide +kernel
theorem dL_law_773 : decode cL_law 773 = .ok (.aload_n 2, 1) := by decide +kernel
theorem dL_law_774 : decode cL_law 774 = .ok (.aload_n 0, 1) := by decide +kernel
theorem dL_law_775 : decode cL_law 775 = .ok (.iload 4, 2) := by decide +kernel
theorem dL_law_777 : decode cL_law 777 = .ok (.iconst 1, 1) := by decide +kernel
theorem dL_law_778 : decode cL_law 778 = .ok (.iadd, 1) := by decide +kernel
theorem dL_law_779 : decode cL_law 779 = .ok (.iaload, 1) := by decide +kernel
theorem dL_law_780 : decode cL_law 780 = .ok (.aload_n 0, 1) := by decide +kernel
theorem dL_law_781 : decode cL_law 781 = .ok (.iload 4, 2) := by decide +kernel
theorem dL_law_783 : decode cL_law 783 = .ok (.iconst 2, 1) := by decide +kernel
theorem dL_law_784 : decode cL_law 784 = .ok (.iadd, 1) := by decide +kernel
theorem dL_law_785 : decode cL_law 785 = .ok (.iaload, 1) := by decide +kernel
theorem dL_law_786 : decode cL_law 786 = .ok (.invokevirtual 102, 3) := by decide +kernel
theorem dL_law_789 : decode cL_law 789 = .ok (.if_icmp .eq 55, 3) := by decide +kernel
theorem dL_law_792 : decode cL_law 792 = .ok (.iconst 0, 1) := by decide +kernel
theorem dL_law_793 : decode cL_law 793 = .ok (.ireturn, 1) := by decide +kernel
theorem dL_law_794 : decode cL_law 794 = .ok (.aload_n 1, 1) := by decide +kernel
theorem dL_law_795 : decode cL_law 795 = .ok (.aload_n 0, 1) := by decide +kernel
theorem dL_law_796 : decode cL_law 796 = .ok (.iload 4, 2) := by decide +kernel
theorem dL_law_798 : decode cL_law 798 = .ok (.iconst 1, 1) := by decide +kernel
theorem dL_law_799 : decode cL_law 799 = .ok (.iadd, 1) := by decide +kernel
theorem dL_law_800 : decode cL_law 800 = .ok (.iaload, 1) := by decide +kernel
theorem dL_law_801 : decode cL_law 801 = .ok (.aload_n 0, 1) := by decide +kernel
theorem dL_law_802 : decode cL_law 802 = .ok (.iload 4, 2) := by decide +kernel
theorem dL_law_804 : decode cL_law 804 = .ok (.iconst 2, 1) := by decide +kernel
theorem dL_law_805 : decode cL_law 805 = .ok (.iadd, 1) := by decide +kernel
theorem dL_law_806 : decode cL_law 806 = .ok (.iaload, 1) := by decide +kernel
theorem dL_law_807 : decode cL_law 807 = .ok (.invokevirtual 103, 3) := by decide +kernel
theorem dL_law_810 : decode cL_law 810 = .ok (.aload_n 2, 1) := by decide +kernel
theorem dL_law_811 : decode cL_law 811 = .ok (.aload_n 0, 1) := by decide +kernel
theorem dL_law_812 : decode cL_law 812 = .ok (.iload 4, 2) := by decide +kernel
theorem dL_law_814 : decode cL_law 814 = .ok (.iconst 1, 1) := by decide +kernel
theorem dL_law_815 : decode cL_law 815 = .ok (.iadd, 1) := by decide +kernel
theorem dL_law_816 : decode cL_law 816 = .ok (.iaload, 1) := by decide +kernel
theorem dL_law_817 : decode cL_law 817 = .ok (.aload_n 0, 1) := by decide +kernel
theorem dL_law_818 : decode cL_law 818 = .ok (.iload 4, 2) := by decide +kernel
theorem dL_law_820 : decode cL_law 820 = .ok (.iconst 2, 1) := by decide +kernel
theorem dL_law_821 : decode cL_law 821 = .ok (.iadd, 1) := by decide +kernel
theorem dL_law_822 : decode cL_law 822 = .ok (.iaload, 1) := by decide +kernel
theorem dL_law_823 : decode cL_law 823 = .ok (.invokevirtual 106, 3) := by decide +kernel
theorem dL_law_826 : decode cL_law 826 = .ok (.if_icmp .eq 18, 3) := by decide +kernel
theorem dL_law_829 : decode cL_law 829 = .ok (.iconst 0, 1) := by decide +kernel
theorem dL_law_830 : decode cL_law 830 = .ok (.ireturn, 1) := by decide +kernel
theorem dL_law_831 : decode cL_law 831 = .ok (.aload_n 1, 1) := by decide +kernel
theorem dL_law_832 : decode cL_law 832 = .ok (.invokevirtual 107, 3) := by decide +kernel
theorem dL_law_835 : decode cL_law 835 = .ok (.aload_n 2, 1) := by decide +kernel
theorem dL_law_836 : decode cL_law 836 = .ok (.invokevirtual 110, 3) := by decide +kernel
theorem dL_law_839 : decode cL_law 839 = .ok (.if_icmp .eq 5, 3) := by decide +kernel
theorem dL_law_842 : decode cL_law 842 = .ok (.iconst 0, 1) := by decide +kernel
theorem dL_law_843 : decode cL_law 843 = .ok (.ireturn, 1) := by decide +kernel
theorem dL_law_844 : decode cL_law 844 = .ok (.iinc 4 6, 3) := by decide +kernel
theorem dL_law_847 : decode cL_law 847 = .ok (.goto (-824), 3) := by decide +kernel
theorem dL_law_850 : decode cL_law 850 = .ok (.iconst 1, 1) := by decide +kernel
theorem dL_law_851 : decode cL_law 851 = .ok (.ireturn, 1) := by decide +kernel
set_option maxRecDepth 20000 in
theorem s_LW_law (E : XE) : Cs E (yL_law, cL_law, 8, some .boolean) (k_LW_law) := (Cs_nd (Cs_nd (Cs_nd (Cs_nd (Cs_nd (Cs_nd (Cs_nd (Cs_nd (Cs_nd (Cs_lf (sg_new dL_law_0 rfl inX7 tyX7_ok (by decide) w_32 w_33 w_1)) (Cs_lf (sg_dup dL_law_3))) (Cs_nd (Cs_lf (sg_invI (mid := 86) (by decide +kernel) dL_law_4 ok_86 rfl rfl w_34 w_35)) (Cs_lf (sg_astore_n dL_law_7 rfl (by decide))))) (Cs_nd (Cs_nd (Cs_lf (sg_new dL_law_8 rfl inX12 tyX12_ok (by decide) w_873 w_874 w_7)) (Cs_lf (sg_dup dL_law_11))) (Cs_nd (Cs_lf (sg_invI (mid := 121) (by decide +kernel) dL_law_12 ok_121 rfl rfl w_875 w_876)) (Cs_lf (sg_astore_n dL_law_15 rfl (by decide)))))) (Cs_nd (Cs_nd (Cs_nd (Cs_lf (sg_iconst dL_law_16 (by decide))) (Cs_lf (sg_newL dL_law_17 w_1368))) (Cs_nd (Cs_lf (sg_astore_n dL_law_19 rfl (by decide))) (Cs_lf (sg_iconst dL_law_20 (by decide))))) (Cs_nd (Cs_nd (Cs_lf (sg_istore dL_law_21 (by decide))) (Cs_lf (sg_iload dL_law_23))) (Cs_nd (Cs_lf (sg_aload_n dL_law_25 rfl)) (Cs_nd (Cs_lf (sg_alen dL_law_26)) (Cs_lf (sg_bipush dL_law_27 (by decide)))))))) (Cs_nd (Cs_nd (Cs_nd (Cs_nd (Cs_lf (sg_isub dL_law_29)) (Cs_lf (sg_cgt dL_law_30 (by decide)))) (Cs_nd (Cs_lf (sg_aload_n dL_law_33 rfl)) (Cs_lf (sg_iload dL_law_34)))) (Cs_nd (Cs_nd (Cs_lf (sg_iald dL_law_36)) (Cs_lf (sg_bipush dL_law_37 (by decide)))) (Cs_nd (Cs_lf (sg_iand dL_law_39)) (Cs_lf (sg_table dL_law_40 rfl (by decide) (by decide +kernel) (by decide)))))) (Cs_nd (Cs_nd (Cs_nd (Cs_lf (sg_aload_n dL_law_128 rfl)) (Cs_lf (sg_aload_n dL_law_129 rfl))) (Cs_nd (Cs_lf (sg_iload dL_law_130)) (Cs_lf (sg_iconst dL_law_132 (by decide))))) (Cs_nd (Cs_nd (Cs_lf (sg_iadd dL_law_133)) (Cs_lf (sg_iald dL_law_134))) (Cs_nd (Cs_lf (sg_i2l dL_law_135)) (Cs_nd (Cs_lf (sg_bipush dL_law_136 (by decide))) (Cs_lf (sg_lshl dL_law_138)))))))) (Cs_nd (Cs_nd (Cs_nd (Cs_nd (Cs_nd (Cs_lf (sg_aload_n dL_law_139 rfl)) (Cs_lf (sg_iload dL_law_140))) (Cs_nd (Cs_lf (sg_iconst dL_law_142 (by decide))) (Cs_lf (sg_iadd dL_law_143)))) (Cs_nd (Cs_nd (Cs_lf (sg_iald dL_law_144)) (Cs_lf (sg_i2l dL_law_145))) (Cs_nd (Cs_lf (sg_ldc2 dL_law_146 w_1367)) (Cs_lf (sg_land dL_law_149))))) (Cs_nd (Cs_nd (Cs_nd (Cs_lf (sg_lor dL_law_150)) (Cs_lf (sg_aload_n dL_law_151 rfl))) (Cs_nd (Cs_lf (sg_iload dL_law_152)) (Cs_lf (sg_iconst dL_law_154 (by decide))))) (Cs_nd (Cs_nd (Cs_lf (sg_iadd dL_law_155)) (Cs_lf (sg_iald dL_law_156))) (Cs_nd (Cs_lf (sg_invV (mid := 87) (ci := 6) (by decide +kernel) dL_law_157 ok_87 rfl w_186 w_187 w_188)) (Cs_nd (Cs_lf (sg_aload_n dL_law_160 rfl)) (Cs_lf (sg_aload_n dL_law_161 rfl))))))) (Cs_nd (Cs_nd (Cs_nd (Cs_nd (Cs_lf (sg_iload dL_law_162)) (Cs_lf (sg_iconst dL_law_164 (by decide)))) (Cs_nd (Cs_lf (sg_iadd dL_law_165)) (Cs_lf (sg_iald dL_law_166)))) (Cs_nd (Cs_nd (Cs_lf (sg_i2l dL_law_167)) (Cs_lf (sg_bipush dL_law_168 (by decide)))) (Cs_nd (Cs_lf (sg_lshl dL_law_170)) (Cs_lf (sg_aload_n dL_law_171 rfl))))) (Cs_nd (Cs_nd (Cs_nd (Cs_lf (sg_iload dL_law_172)) (Cs_lf (sg_iconst dL_law_174 (by decide)))) (Cs_nd (Cs_lf (sg_iadd dL_law_175)) (Cs_lf (sg_iald dL_law_176)))) (Cs_nd (Cs_nd (Cs_lf (sg_i2l dL_law_177)) (Cs_lf (sg_ldc2 dL_law_178 w_1367))) (Cs_nd (Cs_lf (sg_land dL_law_181)) (Cs_nd (Cs_lf (sg_lor dL_law_182)) (Cs_lf (sg_aload_n dL_law_183 rfl))))))))) (Cs_nd (Cs_nd (Cs_nd (Cs_nd (Cs_nd (Cs_nd (Cs_lf (sg_iload dL_law_184)) (Cs_lf (sg_iconst dL_law_186 (by decide)))) (Cs_nd (Cs_lf (sg_iadd dL_law_187)) (Cs_lf (sg_iald dL_law_188)))) (Cs_nd (Cs_nd (Cs_lf (sg_invV (mid := 125) (ci := 11) (by decide +kernel) dL_law_189 ok_125 rfl w_939 w_940 w_941)) (Cs_lf (sg_ceq dL_law_192 (by decide)))) (Cs_nd (Cs_lf (sg_iconst dL_law_195 (by decide))) (Cs_lf (sg_zret dL_law_196 rfl ⟨by decide, by decide⟩))))) (Cs_nd (Cs_nd (Cs_nd (Cs_lf (sg_aload_n dL_law_197 rfl)) (Cs_lf (sg_invV (mid := 88) (ci := 6) (by decide +kernel) dL_law_198 ok_88 rfl w_198 w_199 w_200))) (Cs_nd (Cs_lf (sg_aload_n dL_law_201 rfl)) (Cs_lf (sg_invV (mid := 142) (ci := 11) (by decide +kernel) dL_law_202 ok_142 rfl w_946 w_947 w_948)))) (Cs_nd (Cs_nd (Cs_lf (sg_ceq dL_law_205 (by decide))) (Cs_lf (sg_iconst dL_law_208 (by decide)))) (Cs_nd (Cs_lf (sg_zret dL_law_209 rfl ⟨by decide, by decide⟩)) (Cs_nd (Cs_lf (sg_aload_n dL_law_210 rfl)) (Cs_lf (sg_invV (mid := 89) (ci := 6) (by decide +kernel) dL_law_211 ok_89 rfl w_421 w_422 w_423))))))) (Cs_nd (Cs_nd (Cs_nd (Cs_nd (Cs_lf (sg_aload_n dL_law_214 rfl)) (Cs_lf (sg_invV (mid := 143) (ci := 11) (by decide +kernel) dL_law_215 ok_143 rfl w_1176 w_1177 w_1178))) (Cs_nd (Cs_lf (sg_ceq dL_law_218 (by decide))) (Cs_lf (sg_iconst dL_law_221 (by decide))))) (Cs_nd (Cs_nd (Cs_lf (sg_zret dL_law_222 rfl ⟨by decide, by decide⟩)) (Cs_lf (sg_aload_n dL_law_223 rfl))) (Cs_nd (Cs_lf (sg_aload_n dL_law_224 rfl)) (Cs_lf (sg_iload dL_law_225))))) (Cs_nd (Cs_nd (Cs_nd (Cs_lf (sg_iconst dL_law_227 (by decide))) (Cs_lf (sg_iadd dL_law_228))) (Cs_nd (Cs_lf (sg_iald dL_law_229)) (Cs_lf (sg_invV (mid := 90) (ci := 6) (by decide +kernel) dL_law_230 ok_90 rfl w_425 w_426 w_427)))) (Cs_nd (Cs_nd (Cs_lf (sg_aload_n dL_law_233 rfl)) (Cs_lf (sg_aload_n dL_law_234 rfl))) (Cs_nd (Cs_lf (sg_iload dL_law_235)) (Cs_nd (Cs_lf (sg_iconst dL_law_237 (by decide))) (Cs_lf (sg_iadd dL_law_238)))))))) (Cs_nd (Cs_nd (Cs_nd (Cs_nd (Cs_nd (Cs_lf (sg_iald dL_law_239)) (Cs_lf (sg_invV (mid := 144) (ci := 11) (by decide +kernel) dL_law_240 ok_144 rfl w_1180 w_1181 w_1182))) (Cs_nd (Cs_lf (sg_ceq dL_law_243 (by decide))) (Cs_lf (sg_iconst dL_law_246 (by decide))))) (Cs_nd (Cs_nd (Cs_lf (sg_zret dL_law_247 rfl ⟨by decide, by decide⟩)) (Cs_lf (sg_aload_n dL_law_248 rfl))) (Cs_nd (Cs_lf (sg_aload_n dL_law_249 rfl)) (Cs_lf (sg_iload dL_law_250))))) (Cs_nd (Cs_nd (Cs_nd (Cs_lf (sg_iconst dL_law_252 (by decide))) (Cs_lf (sg_iadd dL_law_253))) (Cs_nd (Cs_lf (sg_iald dL_law_254)) (Cs_lf (sg_aload_n dL_law_255 rfl)))) (Cs_nd (Cs_nd (Cs_lf (sg_iload dL_law_256)) (Cs_lf (sg_iconst dL_law_258 (by decide)))) (Cs_nd (Cs_lf (sg_iadd dL_law_259)) (Cs_nd (Cs_lf (sg_iald dL_law_260)) (Cs_lf (sg_invV (mid := 91) (ci := 6) (by decide +kernel) dL_law_261 ok_91 rfl w_433 w_434 w_435))))))) (Cs_nd (Cs_nd (Cs_nd (Cs_nd (Cs_lf (sg_aload_n dL_law_264 rfl)) (Cs_lf (sg_aload_n dL_law_265 rfl))) (Cs_nd (Cs_lf (sg_iload dL_law_266)) (Cs_lf (sg_iconst dL_law_268 (by decide))))) (Cs_nd (Cs_nd (Cs_lf (sg_iadd dL_law_269)) (Cs_lf (sg_iald dL_law_270))) (Cs_nd (Cs_lf (sg_aload_n dL_law_271 rfl)) (Cs_lf (sg_iload dL_law_272))))) (Cs_nd (Cs_nd (Cs_nd (Cs_lf (sg_iconst dL_law_274 (by decide))) (Cs_lf (sg_iadd dL_law_275))) (Cs_nd (Cs_lf (sg_iald dL_law_276)) (Cs_lf (sg_invV (mid := 145) (ci := 11) (by decide +kernel) dL_law_277 ok_145 rfl w_1188 w_1189 w_1190)))) (Cs_nd (Cs_nd (Cs_lf (sg_ceq dL_law_280 (by decide))) (Cs_lf (sg_iconst dL_law_283 (by decide)))) (Cs_nd (Cs_lf (sg_zret dL_law_284 rfl ⟨by decide, by decide⟩)) (Cs_nd (Cs_lf (sg_aload_n dL_law_285 rfl)) (Cs_lf (sg_aload_n dL_law_286 rfl)))))))))) (Cs_nd (Cs_nd (Cs_nd (Cs_nd (Cs_nd (Cs_nd (Cs_nd (Cs_lf (sg_iload dL_law_287)) (Cs_lf (sg_iconst dL_law_289 (by decide)))) (Cs_nd (Cs_lf (sg_iadd dL_law_290)) (Cs_lf (sg_iald dL_law_291)))) (Cs_nd (Cs_nd (Cs_lf (sg_aload_n dL_law_292 rfl)) (Cs_lf (sg_iload dL_law_293))) (Cs_nd (Cs_lf (sg_iconst dL_law_295 (by decide))) (Cs_lf (sg_iadd dL_law_296))))) (Cs_nd (Cs_nd (Cs_nd (Cs_lf (sg_iald dL_law_297)) (Cs_lf (sg_aload_n dL_law_298 rfl))) (Cs_nd (Cs_lf (sg_iload dL_law_299)) (Cs_lf (sg_iconst dL_law_301 (by decide))))) (Cs_nd (Cs_nd (Cs_lf (sg_iadd dL_law_302)) (Cs_lf (sg_iald dL_law_303))) (Cs_nd (Cs_lf (sg_invV (mid := 92) (ci := 6) (by decide +kernel) dL_law_304 ok_92 rfl w_448 w_449 w_450)) (Cs_nd (Cs_lf (sg_aload_n dL_law_307 rfl)) (Cs_lf (sg_aload_n dL_law_308 rfl))))))) (Cs_nd (Cs_nd (Cs_nd (Cs_nd (Cs_lf (sg_iload dL_law_309)) (Cs_lf (sg_iconst dL_law_311 (by decide)))) (Cs_nd (Cs_lf (sg_iadd dL_law_312)) (Cs_lf (sg_iald dL_law_313)))) (Cs_nd (Cs_nd (Cs_lf (sg_aload_n dL_law_314 rfl)) (Cs_lf (sg_iload dL_law_315))) (Cs_nd (Cs_lf (sg_iconst dL_law_317 (by decide))) (Cs_lf (sg_iadd dL_law_318))))) (Cs_nd (Cs_nd (Cs_nd (Cs_lf (sg_iald dL_law_319)) (Cs_lf (sg_aload_n dL_law_320 rfl))) (Cs_nd (Cs_lf (sg_iload dL_law_321)) (Cs_lf (sg_iconst dL_law_323 (by decide))))) (Cs_nd (Cs_nd (Cs_lf (sg_iadd dL_law_324)) (Cs_lf (sg_iald dL_law_325))) (Cs_nd (Cs_lf (sg_invV (mid := 146) (ci := 11) (by decide +kernel) dL_law_326 ok_146 rfl w_1192 w_1193 w_1194)) (Cs_nd (Cs_lf (sg_ceq dL_law_329 (by decide))) (Cs_lf (sg_iconst dL_law_332 (by decide))))))))) (Cs_nd (Cs_nd (Cs_nd (Cs_nd (Cs_nd (Cs_lf (sg_zret dL_law_333 rfl ⟨by decide, by decide⟩)) (Cs_lf (sg_aload_n dL_law_334 rfl))) (Cs_nd (Cs_lf (sg_aload_n dL_law_335 rfl)) (Cs_lf (sg_iload dL_law_336)))) (Cs_nd (Cs_nd (Cs_lf (sg_iconst dL_law_338 (by decide))) (Cs_lf (sg_iadd dL_law_339))) (Cs_nd (Cs_lf (sg_iald dL_law_340)) (Cs_lf (sg_aload_n dL_law_341 rfl))))) (Cs_nd (Cs_nd (Cs_nd (Cs_lf (sg_iload dL_law_342)) (Cs_lf (sg_iconst dL_law_344 (by decide)))) (Cs_nd (Cs_lf (sg_iadd dL_law_345)) (Cs_lf (sg_iald dL_law_346)))) (Cs_nd (Cs_nd (Cs_lf (sg_aload_n dL_law_347 rfl)) (Cs_lf (sg_invX (by decide +kernel) dL_law_348 (w_700) w_0 ⟨by decide +kernel, by decide +kernel, by decide +kernel⟩ w_698 w_699))) (Cs_nd (Cs_lf (sg_istore dL_law_351 (by decide))) (Cs_nd (Cs_lf (sg_aload_n dL_law_353 rfl)) (Cs_lf (sg_aload_n dL_law_354 rfl))))))) (Cs_nd (Cs_nd (Cs_nd (Cs_nd (Cs_lf (sg_iload dL_law_355)) (Cs_lf (sg_iconst dL_law_357 (by decide)))) (Cs_nd (Cs_lf (sg_iadd dL_law_358)) (Cs_lf (sg_iald dL_law_359)))) (Cs_nd (Cs_nd (Cs_lf (sg_aload_n dL_law_360 rfl)) (Cs_lf (sg_iload dL_law_361))) (Cs_nd (Cs_lf (sg_iconst dL_law_363 (by decide))) (Cs_lf (sg_iadd dL_law_364))))) (Cs_nd (Cs_nd (Cs_nd (Cs_lf (sg_iald dL_law_365)) (Cs_lf (sg_invV (mid := 147) (ci := 11) (by decide +kernel) dL_law_366 ok_147 rfl w_1204 w_1205 w_1206))) (Cs_nd (Cs_lf (sg_lstore dL_law_369 (by decide))) (Cs_lf (sg_aload_n dL_law_371 rfl)))) (Cs_nd (Cs_nd (Cs_lf (sg_invV (mid := 122) (ci := 11) (by decide +kernel) dL_law_372 ok_122 rfl w_935 w_936 w_937)) (Cs_lf (sg_iload dL_law_375))) (Cs_nd (Cs_lf (sg_ceq dL_law_377 (by decide))) (Cs_nd (Cs_lf (sg_iconst dL_law_380 (by decide))) (Cs_lf (sg_zret dL_law_381 rfl ⟨by decide, by decide⟩))))))))) (Cs_nd (Cs_nd (Cs_nd (Cs_nd (Cs_nd (Cs_nd (Cs_lf (sg_iload dL_law_382)) (Cs_lf (sg_ifne dL_law_384 (by decide)))) (Cs_nd (Cs_lf (sg_aload_n dL_law_387 rfl)) (Cs_lf (sg_iconst dL_law_388 (by decide))))) (Cs_nd (Cs_nd (Cs_lf (sg_lald dL_law_389)) (Cs_lf (sg_lload dL_law_390))) (Cs_nd (Cs_lf (sg_lcmp dL_law_392)) (Cs_lf (sg_ifeq dL_law_393 (by decide)))))) (Cs_nd (Cs_nd (Cs_nd (Cs_lf (sg_iconst dL_law_396 (by decide))) (Cs_lf (sg_zret dL_law_397 rfl ⟨by decide, by decide⟩))) (Cs_nd (Cs_lf (sg_goto dL_law_398 (by decide))) (Cs_lf (sg_aload_n dL_law_401 rfl)))) (Cs_nd (Cs_nd (Cs_lf (sg_aload_n dL_law_402 rfl)) (Cs_lf (sg_iload dL_law_403))) (Cs_nd (Cs_lf (sg_iconst dL_law_405 (by decide))) (Cs_nd (Cs_lf (sg_iadd dL_law_406)) (Cs_lf (sg_iald dL_law_407))))))) (Cs_nd (Cs_nd (Cs_nd (Cs_nd (Cs_lf (sg_aload_n dL_law_408 rfl)) (Cs_lf (sg_iload dL_law_409))) (Cs_nd (Cs_lf (sg_iconst dL_law_411 (by decide))) (Cs_lf (sg_iadd dL_law_412)))) (Cs_nd (Cs_nd (Cs_lf (sg_iald dL_law_413)) (Cs_lf (sg_aload_n dL_law_414 rfl))) (Cs_nd (Cs_lf (sg_iload dL_law_415)) (Cs_lf (sg_iconst dL_law_417 (by decide)))))) (Cs_nd (Cs_nd (Cs_nd (Cs_lf (sg_iadd dL_law_418)) (Cs_lf (sg_iald dL_law_419))) (Cs_nd (Cs_lf (sg_invV (mid := 94) (ci := 6) (by decide +kernel) dL_law_420 ok_94 rfl w_463 w_464 w_465)) (Cs_lf (sg_aload_n dL_law_423 rfl)))) (Cs_nd (Cs_nd (Cs_lf (sg_aload_n dL_law_424 rfl)) (Cs_lf (sg_iload dL_law_425))) (Cs_nd (Cs_lf (sg_iconst dL_law_427 (by decide))) (Cs_nd (Cs_lf (sg_iadd dL_law_428)) (Cs_lf (sg_iald dL_law_429)))))))) (Cs_nd (Cs_nd (Cs_nd (Cs_nd (Cs_nd (Cs_lf (sg_aload_n dL_law_430 rfl)) (Cs_lf (sg_iload dL_law_431))) (Cs_nd (Cs_lf (sg_iconst dL_law_433 (by decide))) (Cs_lf (sg_iadd dL_law_434)))) (Cs_nd (Cs_nd (Cs_lf (sg_iald dL_law_435)) (Cs_lf (sg_aload_n dL_law_436 rfl))) (Cs_nd (Cs_lf (sg_iload dL_law_437)) (Cs_lf (sg_iconst dL_law_439 (by decide)))))) (Cs_nd (Cs_nd (Cs_nd (Cs_lf (sg_iadd dL_law_440)) (Cs_lf (sg_iald dL_law_441))) (Cs_nd (Cs_lf (sg_invV (mid := 149) (ci := 11) (by decide +kernel) dL_law_442 ok_149 rfl w_1214 w_1215 w_1216)) (Cs_lf (sg_ceq dL_law_445 (by decide))))) (Cs_nd (Cs_nd (Cs_lf (sg_iconst dL_law_448 (by decide))) (Cs_lf (sg_zret dL_law_449 rfl ⟨by decide, by decide⟩))) (Cs_nd (Cs_lf (sg_aload_n dL_law_450 rfl)) (Cs_nd (Cs_lf (sg_aload_n dL_law_451 rfl)) (Cs_lf (sg_iload dL_law_452))))))) (Cs_nd (Cs_nd (Cs_nd (Cs_nd (Cs_lf (sg_iconst dL_law_454 (by decide))) (Cs_lf (sg_iadd dL_law_455))) (Cs_nd (Cs_lf (sg_iald dL_law_456)) (Cs_lf (sg_aload_n dL_law_457 rfl)))) (Cs_nd (Cs_nd (Cs_lf (sg_iload dL_law_458)) (Cs_lf (sg_iconst dL_law_460 (by decide)))) (Cs_nd (Cs_lf (sg_iadd dL_law_461)) (Cs_nd (Cs_lf (sg_iald dL_law_462)) (Cs_lf (sg_aload_n dL_law_463 rfl)))))) (Cs_nd (Cs_nd (Cs_nd (Cs_lf (sg_iload dL_law_464)) (Cs_lf (sg_iconst dL_law_466 (by decide)))) (Cs_nd (Cs_lf (sg_iadd dL_law_467)) (Cs_lf (sg_iald dL_law_468)))) (Cs_nd (Cs_nd (Cs_lf (sg_aload_n dL_law_469 rfl)) (Cs_lf (sg_iload dL_law_470))) (Cs_nd (Cs_lf (sg_iconst dL_law_472 (by decide))) (Cs_nd (Cs_lf (sg_iadd dL_law_473)) (Cs_lf (sg_iald dL_law_474))))))))))) (Cs_nd (Cs_nd (Cs_nd (Cs_nd (Cs_nd (Cs_nd (Cs_nd (Cs_nd (Cs_lf (sg_invV (mid := 95) (ci := 6) (by decide +kernel) dL_law_475 ok_95 rfl w_478 w_479 w_480)) (Cs_lf (sg_aload_n dL_law_478 rfl))) (Cs_nd (Cs_lf (sg_aload_n dL_law_479 rfl)) (Cs_lf (sg_iload dL_law_480)))) (Cs_nd (Cs_nd (Cs_lf (sg_iconst dL_law_482 (by decide))) (Cs_lf (sg_iadd dL_law_483))) (Cs_nd (Cs_lf (sg_iald dL_law_484)) (Cs_lf (sg_aload_n dL_law_485 rfl))))) (Cs_nd (Cs_nd (Cs_nd (Cs_lf (sg_iload dL_law_486)) (Cs_lf (sg_iconst dL_law_488 (by decide)))) (Cs_nd (Cs_lf (sg_iadd dL_law_489)) (Cs_lf (sg_iald dL_law_490)))) (Cs_nd (Cs_nd (Cs_lf (sg_aload_n dL_law_491 rfl)) (Cs_lf (sg_iload dL_law_492))) (Cs_nd (Cs_lf (sg_iconst dL_law_494 (by decide))) (Cs_nd (Cs_lf (sg_iadd dL_law_495)) (Cs_lf (sg_iald dL_law_496))))))) (Cs_nd (Cs_nd (Cs_nd (Cs_nd (Cs_lf (sg_aload_n dL_law_497 rfl)) (Cs_lf (sg_iload dL_law_498))) (Cs_nd (Cs_lf (sg_iconst dL_law_500 (by decide))) (Cs_lf (sg_iadd dL_law_501)))) (Cs_nd (Cs_nd (Cs_lf (sg_iald dL_law_502)) (Cs_lf (sg_invV (mid := 150) (ci := 11) (by decide +kernel) dL_law_503 ok_150 rfl w_1222 w_1223 w_1224))) (Cs_nd (Cs_lf (sg_ceq dL_law_506 (by decide))) (Cs_lf (sg_iconst dL_law_509 (by decide)))))) (Cs_nd (Cs_nd (Cs_nd (Cs_lf (sg_zret dL_law_510 rfl ⟨by decide, by decide⟩)) (Cs_lf (sg_aload_n dL_law_511 rfl))) (Cs_nd (Cs_lf (sg_aload_n dL_law_512 rfl)) (Cs_lf (sg_iload dL_law_513)))) (Cs_nd (Cs_nd (Cs_lf (sg_iconst dL_law_515 (by decide))) (Cs_lf (sg_iadd dL_law_516))) (Cs_nd (Cs_lf (sg_iald dL_law_517)) (Cs_nd (Cs_lf (sg_aload_n dL_law_518 rfl)) (Cs_lf (sg_iload dL_law_519)))))))) (Cs_nd (Cs_nd (Cs_nd (Cs_nd (Cs_nd (Cs_lf (sg_iconst dL_law_521 (by decide))) (Cs_lf (sg_iadd dL_law_522))) (Cs_nd (Cs_lf (sg_iald dL_law_523)) (Cs_lf (sg_aload_n dL_law_524 rfl)))) (Cs_nd (Cs_nd (Cs_lf (sg_iload dL_law_525)) (Cs_lf (sg_iconst dL_law_527 (by decide)))) (Cs_nd (Cs_lf (sg_iadd dL_law_528)) (Cs_lf (sg_iald dL_law_529))))) (Cs_nd (Cs_nd (Cs_nd (Cs_lf (sg_aload_n dL_law_530 rfl)) (Cs_lf (sg_iload dL_law_531))) (Cs_nd (Cs_lf (sg_iconst dL_law_533 (by decide))) (Cs_lf (sg_iadd dL_law_534)))) (Cs_nd (Cs_nd (Cs_lf (sg_iald dL_law_535)) (Cs_lf (sg_invV (mid := 96) (ci := 6) (by decide +kernel) dL_law_536 ok_96 rfl w_492 w_493 w_494))) (Cs_nd (Cs_lf (sg_aload_n dL_law_539 rfl)) (Cs_nd (Cs_lf (sg_aload_n dL_law_540 rfl)) (Cs_lf (sg_iload dL_law_541))))))) (Cs_nd (Cs_nd (Cs_nd (Cs_nd (Cs_lf (sg_iconst dL_law_543 (by decide))) (Cs_lf (sg_iadd dL_law_544))) (Cs_nd (Cs_lf (sg_iald dL_law_545)) (Cs_lf (sg_aload_n dL_law_546 rfl)))) (Cs_nd (Cs_nd (Cs_lf (sg_iload dL_law_547)) (Cs_lf (sg_iconst dL_law_549 (by decide)))) (Cs_nd (Cs_lf (sg_iadd dL_law_550)) (Cs_lf (sg_iald dL_law_551))))) (Cs_nd (Cs_nd (Cs_nd (Cs_lf (sg_aload_n dL_law_552 rfl)) (Cs_lf (sg_iload dL_law_553))) (Cs_nd (Cs_lf (sg_iconst dL_law_555 (by decide))) (Cs_lf (sg_iadd dL_law_556)))) (Cs_nd (Cs_nd (Cs_lf (sg_iald dL_law_557)) (Cs_lf (sg_aload_n dL_law_558 rfl))) (Cs_nd (Cs_lf (sg_iload dL_law_559)) (Cs_nd (Cs_lf (sg_iconst dL_law_561 (by decide))) (Cs_lf (sg_iadd dL_law_562))))))))) (Cs_nd (Cs_nd (Cs_nd (Cs_nd (Cs_nd (Cs_nd (Cs_lf (sg_iald dL_law_563)) (Cs_lf (sg_invV (mid := 151) (ci := 11) (by decide +kernel) dL_law_564 ok_151 rfl w_1226 w_1227 w_1228))) (Cs_nd (Cs_lf (sg_ceq dL_law_567 (by decide))) (Cs_lf (sg_iconst dL_law_570 (by decide))))) (Cs_nd (Cs_nd (Cs_lf (sg_zret dL_law_571 rfl ⟨by decide, by decide⟩)) (Cs_lf (sg_aload_n dL_law_572 rfl))) (Cs_nd (Cs_lf (sg_aload_n dL_law_573 rfl)) (Cs_lf (sg_iload dL_law_574))))) (Cs_nd (Cs_nd (Cs_nd (Cs_lf (sg_iconst dL_law_576 (by decide))) (Cs_lf (sg_iadd dL_law_577))) (Cs_nd (Cs_lf (sg_iald dL_law_578)) (Cs_lf (sg_aload_n dL_law_579 rfl)))) (Cs_nd (Cs_nd (Cs_lf (sg_iload dL_law_580)) (Cs_lf (sg_iconst dL_law_582 (by decide)))) (Cs_nd (Cs_lf (sg_iadd dL_law_583)) (Cs_nd (Cs_lf (sg_iald dL_law_584)) (Cs_lf (sg_aload_n dL_law_585 rfl))))))) (Cs_nd (Cs_nd (Cs_nd (Cs_nd (Cs_lf (sg_iload dL_law_586)) (Cs_lf (sg_iconst dL_law_588 (by decide)))) (Cs_nd (Cs_lf (sg_iadd dL_law_589)) (Cs_lf (sg_iald dL_law_590)))) (Cs_nd (Cs_nd (Cs_lf (sg_aload_n dL_law_591 rfl)) (Cs_lf (sg_iload dL_law_592))) (Cs_nd (Cs_lf (sg_iconst dL_law_594 (by decide))) (Cs_lf (sg_iadd dL_law_595))))) (Cs_nd (Cs_nd (Cs_nd (Cs_lf (sg_iald dL_law_596)) (Cs_lf (sg_aload_n dL_law_597 rfl))) (Cs_nd (Cs_lf (sg_iload dL_law_598)) (Cs_lf (sg_iconst dL_law_600 (by decide))))) (Cs_nd (Cs_nd (Cs_lf (sg_iadd dL_law_601)) (Cs_lf (sg_iald dL_law_602))) (Cs_nd (Cs_lf (sg_invV (mid := 97) (ci := 6) (by decide +kernel) dL_law_603 ok_97 rfl w_503 w_504 w_505)) (Cs_nd (Cs_lf (sg_aload_n dL_law_606 rfl)) (Cs_lf (sg_aload_n dL_law_607 rfl)))))))) (Cs_nd (Cs_nd (Cs_nd (Cs_nd (Cs_nd (Cs_lf (sg_iload dL_law_608)) (Cs_lf (sg_iconst dL_law_610 (by decide)))) (Cs_nd (Cs_lf (sg_iadd dL_law_611)) (Cs_lf (sg_iald dL_law_612)))) (Cs_nd (Cs_nd (Cs_lf (sg_aload_n dL_law_613 rfl)) (Cs_lf (sg_iload dL_law_614))) (Cs_nd (Cs_lf (sg_iconst dL_law_616 (by decide))) (Cs_lf (sg_iadd dL_law_617))))) (Cs_nd (Cs_nd (Cs_nd (Cs_lf (sg_iald dL_law_618)) (Cs_lf (sg_aload_n dL_law_619 rfl))) (Cs_nd (Cs_lf (sg_iload dL_law_620)) (Cs_lf (sg_iconst dL_law_622 (by decide))))) (Cs_nd (Cs_nd (Cs_lf (sg_iadd dL_law_623)) (Cs_lf (sg_iald dL_law_624))) (Cs_nd (Cs_lf (sg_aload_n dL_law_625 rfl)) (Cs_nd (Cs_lf (sg_iload dL_law_626)) (Cs_lf (sg_iconst dL_law_628 (by decide)))))))) (Cs_nd (Cs_nd (Cs_nd (Cs_nd (Cs_lf (sg_iadd dL_law_629)) (Cs_lf (sg_iald dL_law_630))) (Cs_nd (Cs_lf (sg_aload_n dL_law_631 rfl)) (Cs_lf (sg_iload dL_law_632)))) (Cs_nd (Cs_nd (Cs_lf (sg_iconst dL_law_634 (by decide))) (Cs_lf (sg_iadd dL_law_635))) (Cs_nd (Cs_lf (sg_iald dL_law_636)) (Cs_lf (sg_invV (mid := 152) (ci := 11) (by decide +kernel) dL_law_637 ok_152 rfl w_1233 w_1234 w_1235))))) (Cs_nd (Cs_nd (Cs_nd (Cs_lf (sg_ceq dL_law_640 (by decide))) (Cs_lf (sg_iconst dL_law_643 (by decide)))) (Cs_nd (Cs_lf (sg_zret dL_law_644 rfl ⟨by decide, by decide⟩)) (Cs_lf (sg_aload_n dL_law_645 rfl)))) (Cs_nd (Cs_nd (Cs_lf (sg_aload_n dL_law_646 rfl)) (Cs_lf (sg_iload dL_law_647))) (Cs_nd (Cs_lf (sg_iconst dL_law_649 (by decide))) (Cs_nd (Cs_lf (sg_iadd dL_law_650)) (Cs_lf (sg_iald dL_law_651)))))))))) (Cs_nd (Cs_nd (Cs_nd (Cs_nd (Cs_nd (Cs_nd (Cs_nd (Cs_lf (sg_invV (mid := 98) (ci := 6) (by decide +kernel) dL_law_652 ok_98 rfl w_518 w_519 w_520)) (Cs_lf (sg_aload_n dL_law_655 rfl))) (Cs_nd (Cs_lf (sg_aload_n dL_law_656 rfl)) (Cs_lf (sg_iload dL_law_657)))) (Cs_nd (Cs_nd (Cs_lf (sg_iconst dL_law_659 (by decide))) (Cs_lf (sg_iadd dL_law_660))) (Cs_nd (Cs_lf (sg_iald dL_law_661)) (Cs_lf (sg_invV (mid := 153) (ci := 11) (by decide +kernel) dL_law_662 ok_153 rfl w_1237 w_1238 w_1239))))) (Cs_nd (Cs_nd (Cs_nd (Cs_lf (sg_ceq dL_law_665 (by decide))) (Cs_lf (sg_iconst dL_law_668 (by decide)))) (Cs_nd (Cs_lf (sg_zret dL_law_669 rfl ⟨by decide, by decide⟩)) (Cs_lf (sg_aload_n dL_law_670 rfl)))) (Cs_nd (Cs_nd (Cs_lf (sg_invV (mid := 99) (ci := 6) (by decide +kernel) dL_law_671 ok_99 rfl w_524 w_525 w_526)) (Cs_lf (sg_aload_n dL_law_674 rfl))) (Cs_nd (Cs_lf (sg_invV (mid := 159) (ci := 11) (by decide +kernel) dL_law_675 ok_159 rfl w_1241 w_1242 w_1243)) (Cs_nd (Cs_lf (sg_ceq dL_law_678 (by decide))) (Cs_lf (sg_iconst dL_law_681 (by decide)))))))) (Cs_nd (Cs_nd (Cs_nd (Cs_nd (Cs_lf (sg_zret dL_law_682 rfl ⟨by decide, by decide⟩)) (Cs_lf (sg_aload_n dL_law_683 rfl))) (Cs_nd (Cs_lf (sg_aload_n dL_law_684 rfl)) (Cs_lf (sg_iload dL_law_685)))) (Cs_nd (Cs_nd (Cs_lf (sg_iconst dL_law_687 (by decide))) (Cs_lf (sg_iadd dL_law_688))) (Cs_nd (Cs_lf (sg_iald dL_law_689)) (Cs_lf (sg_aload_n dL_law_690 rfl))))) (Cs_nd (Cs_nd (Cs_nd (Cs_lf (sg_iload dL_law_691)) (Cs_lf (sg_iconst dL_law_693 (by decide)))) (Cs_nd (Cs_lf (sg_iadd dL_law_694)) (Cs_lf (sg_iald dL_law_695)))) (Cs_nd (Cs_nd (Cs_lf (sg_invV (mid := 100) (ci := 6) (by decide +kernel) dL_law_696 ok_100 rfl w_600 w_601 w_602)) (Cs_lf (sg_aload_n dL_law_699 rfl))) (Cs_nd (Cs_lf (sg_aload_n dL_law_700 rfl)) (Cs_nd (Cs_lf (sg_iload dL_law_701)) (Cs_lf (sg_iconst dL_law_703 (by decide))))))))) (Cs_nd (Cs_nd (Cs_nd (Cs_nd (Cs_nd (Cs_lf (sg_iadd dL_law_704)) (Cs_lf (sg_iald dL_law_705))) (Cs_nd (Cs_lf (sg_aload_n dL_law_706 rfl)) (Cs_lf (sg_iload dL_law_707)))) (Cs_nd (Cs_nd (Cs_lf (sg_iconst dL_law_709 (by decide))) (Cs_lf (sg_iadd dL_law_710))) (Cs_nd (Cs_lf (sg_iald dL_law_711)) (Cs_lf (sg_invV (mid := 161) (ci := 11) (by decide +kernel) dL_law_712 ok_161 rfl w_1289 w_1290 w_1291))))) (Cs_nd (Cs_nd (Cs_nd (Cs_lf (sg_ceq dL_law_715 (by decide))) (Cs_lf (sg_iconst dL_law_718 (by decide)))) (Cs_nd (Cs_lf (sg_zret dL_law_719 rfl ⟨by decide, by decide⟩)) (Cs_lf (sg_aload_n dL_law_720 rfl)))) (Cs_nd (Cs_nd (Cs_lf (sg_aload_n dL_law_721 rfl)) (Cs_lf (sg_iload dL_law_722))) (Cs_nd (Cs_lf (sg_iconst dL_law_724 (by decide))) (Cs_nd (Cs_lf (sg_iadd dL_law_725)) (Cs_lf (sg_iald dL_law_726))))))) (Cs_nd (Cs_nd (Cs_nd (Cs_nd (Cs_lf (sg_aload_n dL_law_727 rfl)) (Cs_lf (sg_iload dL_law_728))) (Cs_nd (Cs_lf (sg_iconst dL_law_730 (by decide))) (Cs_lf (sg_iadd dL_law_731)))) (Cs_nd (Cs_nd (Cs_lf (sg_iald dL_law_732)) (Cs_lf (sg_invV (mid := 101) (ci := 6) (by decide +kernel) dL_law_733 ok_101 rfl w_608 w_609 w_610))) (Cs_nd (Cs_lf (sg_aload_n dL_law_736 rfl)) (Cs_lf (sg_aload_n dL_law_737 rfl))))) (Cs_nd (Cs_nd (Cs_nd (Cs_lf (sg_iload dL_law_738)) (Cs_lf (sg_iconst dL_law_740 (by decide)))) (Cs_nd (Cs_lf (sg_iadd dL_law_741)) (Cs_lf (sg_iald dL_law_742)))) (Cs_nd (Cs_nd (Cs_lf (sg_aload_n dL_law_743 rfl)) (Cs_lf (sg_iload dL_law_744))) (Cs_nd (Cs_lf (sg_iconst dL_law_746 (by decide))) (Cs_nd (Cs_lf (sg_iadd dL_law_747)) (Cs_lf (sg_iald dL_law_748))))))))) (Cs_nd (Cs_nd (Cs_nd (Cs_nd (Cs_nd (Cs_nd (Cs_lf (sg_invV (mid := 162) (ci := 11) (by decide +kernel) dL_law_749 ok_162 rfl w_1298 w_1299 w_1300)) (Cs_lf (sg_ceq dL_law_752 (by decide)))) (Cs_nd (Cs_lf (sg_iconst dL_law_755 (by decide))) (Cs_lf (sg_zret dL_law_756 rfl ⟨by decide, by decide⟩)))) (Cs_nd (Cs_nd (Cs_lf (sg_aload_n dL_law_757 rfl)) (Cs_lf (sg_aload_n dL_law_758 rfl))) (Cs_nd (Cs_lf (sg_iload dL_law_759)) (Cs_lf (sg_iconst dL_law_761 (by decide)))))) (Cs_nd (Cs_nd (Cs_nd (Cs_lf (sg_iadd dL_law_762)) (Cs_lf (sg_iald dL_law_763))) (Cs_nd (Cs_lf (sg_aload_n dL_law_764 rfl)) (Cs_lf (sg_iload dL_law_765)))) (Cs_nd (Cs_nd (Cs_lf (sg_iconst dL_law_767 (by decide))) (Cs_lf (sg_iadd dL_law_768))) (Cs_nd (Cs_lf (sg_iald dL_law_769)) (Cs_nd (Cs_lf (sg_invV (mid := 102) (ci := 6) (by decide +kernel) dL_law_770 ok_102 rfl w_624 w_625 w_626)) (Cs_lf (sg_aload_n dL_law_773 rfl))))))) (Cs_nd (Cs_nd (Cs_nd (Cs_nd (Cs_lf (sg_aload_n dL_law_774 rfl)) (Cs_lf (sg_iload dL_law_775))) (Cs_nd (Cs_lf (sg_iconst dL_law_777 (by decide))) (Cs_lf (sg_iadd dL_law_778)))) (Cs_nd (Cs_nd (Cs_lf (sg_iald dL_law_779)) (Cs_lf (sg_aload_n dL_law_780 rfl))) (Cs_nd (Cs_lf (sg_iload dL_law_781)) (Cs_lf (sg_iconst dL_law_783 (by decide)))))) (Cs_nd (Cs_nd (Cs_nd (Cs_lf (sg_iadd dL_law_784)) (Cs_lf (sg_iald dL_law_785))) (Cs_nd (Cs_lf (sg_invV (mid := 167) (ci := 11) (by decide +kernel) dL_law_786 ok_167 rfl w_1302 w_1303 w_1304)) (Cs_lf (sg_ceq dL_law_789 (by decide))))) (Cs_nd (Cs_nd (Cs_lf (sg_iconst dL_law_792 (by decide))) (Cs_lf (sg_zret dL_law_793 rfl ⟨by decide, by decide⟩))) (Cs_nd (Cs_lf (sg_aload_n dL_law_794 rfl)) (Cs_nd (Cs_lf (sg_aload_n dL_law_795 rfl)) (Cs_lf (sg_iload dL_law_796)))))))) (Cs_nd (Cs_nd (Cs_nd (Cs_nd (Cs_nd (Cs_lf (sg_iconst dL_law_798 (by decide))) (Cs_lf (sg_iadd dL_law_799))) (Cs_nd (Cs_lf (sg_iald dL_law_800)) (Cs_lf (sg_aload_n dL_law_801 rfl)))) (Cs_nd (Cs_nd (Cs_lf (sg_iload dL_law_802)) (Cs_lf (sg_iconst dL_law_804 (by decide)))) (Cs_nd (Cs_lf (sg_iadd dL_law_805)) (Cs_lf (sg_iald dL_law_806))))) (Cs_nd (Cs_nd (Cs_nd (Cs_lf (sg_invV (mid := 103) (ci := 6) (by decide +kernel) dL_law_807 ok_103 rfl w_640 w_641 w_642)) (Cs_lf (sg_aload_n dL_law_810 rfl))) (Cs_nd (Cs_lf (sg_aload_n dL_law_811 rfl)) (Cs_lf (sg_iload dL_law_812)))) (Cs_nd (Cs_nd (Cs_lf (sg_iconst dL_law_814 (by decide))) (Cs_lf (sg_iadd dL_law_815))) (Cs_nd (Cs_lf (sg_iald dL_law_816)) (Cs_nd (Cs_lf (sg_aload_n dL_law_817 rfl)) (Cs_lf (sg_iload dL_law_818))))))) (Cs_nd (Cs_nd (Cs_nd (Cs_nd (Cs_lf (sg_iconst dL_law_820 (by decide))) (Cs_lf (sg_iadd dL_law_821))) (Cs_nd (Cs_lf (sg_iald dL_law_822)) (Cs_lf (sg_invV (mid := 177) (ci := 11) (by decide +kernel) dL_law_823 ok_177 rfl w_1322 w_1323 w_1324)))) (Cs_nd (Cs_nd (Cs_lf (sg_ceq dL_law_826 (by decide))) (Cs_lf (sg_iconst dL_law_829 (by decide)))) (Cs_nd (Cs_lf (sg_zret dL_law_830 rfl ⟨by decide, by decide⟩)) (Cs_nd (Cs_lf (sg_aload_n dL_law_831 rfl)) (Cs_lf (sg_invV (mid := 104) (ci := 6) (by decide +kernel) dL_law_832 ok_104 rfl w_694 w_695 w_696)))))) (Cs_nd (Cs_nd (Cs_nd (Cs_lf (sg_aload_n dL_law_835 rfl)) (Cs_lf (sg_invV (mid := 178) (ci := 11) (by decide +kernel) dL_law_836 ok_178 rfl w_1363 w_1364 w_1365))) (Cs_nd (Cs_lf (sg_ceq dL_law_839 (by decide))) (Cs_lf (sg_iconst dL_law_842 (by decide))))) (Cs_nd (Cs_nd (Cs_lf (sg_zret dL_law_843 rfl ⟨by decide, by decide⟩)) (Cs_lf (sg_iinc dL_law_844 (by decide) (by decide)))) (Cs_nd (Cs_lf (sg_goto dL_law_847 (by decide))) (Cs_nd (Cs_lf (sg_iconst dL_law_850 (by decide))) (Cs_lf (sg_zret dL_law_851 rfl ⟨by decide, by decide⟩))))))))))))
