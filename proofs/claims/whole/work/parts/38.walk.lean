theorem d_L_law_0 : decode (pw_cc cx_L_law) 0 = .ok (.new 8, 3) := by decide +kernel
theorem d_L_law_3 : decode (pw_cc cx_L_law) 3 = .ok (.dup, 1) := by decide +kernel
theorem d_L_law_4 : decode (pw_cc cx_L_law) 4 = .ok (.invokespecial 115, 3) := by decide +kernel
theorem d_L_law_7 : decode (pw_cc cx_L_law) 7 = .ok (.astore_n 1, 1) := by decide +kernel
theorem d_L_law_8 : decode (pw_cc cx_L_law) 8 = .ok (.new 116, 3) := by decide +kernel
theorem d_L_law_11 : decode (pw_cc cx_L_law) 11 = .ok (.dup, 1) := by decide +kernel
theorem d_L_law_12 : decode (pw_cc cx_L_law) 12 = .ok (.invokespecial 118, 3) := by decide +kernel
theorem d_L_law_15 : decode (pw_cc cx_L_law) 15 = .ok (.astore_n 2, 1) := by decide +kernel
theorem d_L_law_16 : decode (pw_cc cx_L_law) 16 = .ok (.iconst 1, 1) := by decide +kernel
theorem d_L_law_17 : decode (pw_cc cx_L_law) 17 = .ok (.newarray .long, 2) := by decide +kernel
theorem d_L_law_19 : decode (pw_cc cx_L_law) 19 = .ok (.astore_n 3, 1) := by decide +kernel
theorem d_L_law_20 : decode (pw_cc cx_L_law) 20 = .ok (.iconst 0, 1) := by decide +kernel
theorem d_L_law_21 : decode (pw_cc cx_L_law) 21 = .ok (.istore 4, 2) := by decide +kernel
theorem d_L_law_23 : decode (pw_cc cx_L_law) 23 = .ok (.iload 4, 2) := by decide +kernel
theorem d_L_law_25 : decode (pw_cc cx_L_law) 25 = .ok (.aload_n 0, 1) := by decide +kernel
theorem d_L_law_26 : decode (pw_cc cx_L_law) 26 = .ok (.arraylength, 1) := by decide +kernel
theorem d_L_law_27 : decode (pw_cc cx_L_law) 27 = .ok (.iconst 5, 1) := by decide +kernel
theorem d_L_law_28 : decode (pw_cc cx_L_law) 28 = .ok (.isub, 1) := by decide +kernel
theorem d_L_law_29 : decode (pw_cc cx_L_law) 29 = .ok (.if_icmp .gt 2298, 3) := by decide +kernel
theorem d_L_law_32 : decode (pw_cc cx_L_law) 32 = .ok (.aload_n 0, 1) := by decide +kernel
theorem d_L_law_33 : decode (pw_cc cx_L_law) 33 = .ok (.iload 4, 2) := by decide +kernel
theorem d_L_law_35 : decode (pw_cc cx_L_law) 35 = .ok (.iaload, 1) := by decide +kernel
theorem d_L_law_36 : decode (pw_cc cx_L_law) 36 = .ok (.bipush 63, 2) := by decide +kernel
theorem d_L_law_38 : decode (pw_cc cx_L_law) 38 = .ok (.iand, 1) := by decide +kernel
theorem d_L_law_39 : decode (pw_cc cx_L_law) 39 = .ok (.tableswitch 2282 0 32 #[145, 237, 305, 385, 465, 573, 669, 725, 781, 873, 936, 1016, 1072, 1140, 1196, 1276, 1332, 1400, 1456, 1524, 1580, 1593, 1606, 1662, 1730, 1786, 1842, 1898, 1966, 2034, 2102, 2158, 2214], 145) := by decide +kernel
theorem d_L_law_184 : decode (pw_cc cx_L_law) 184 = .ok (.aload_n 1, 1) := by decide +kernel
theorem d_L_law_185 : decode (pw_cc cx_L_law) 185 = .ok (.aload_n 0, 1) := by decide +kernel
theorem d_L_law_186 : decode (pw_cc cx_L_law) 186 = .ok (.iload 4, 2) := by decide +kernel
theorem d_L_law_188 : decode (pw_cc cx_L_law) 188 = .ok (.iconst 1, 1) := by decide +kernel
theorem d_L_law_189 : decode (pw_cc cx_L_law) 189 = .ok (.iadd, 1) := by decide +kernel
theorem d_L_law_190 : decode (pw_cc cx_L_law) 190 = .ok (.iaload, 1) := by decide +kernel
theorem d_L_law_191 : decode (pw_cc cx_L_law) 191 = .ok (.aload_n 0, 1) := by decide +kernel
theorem d_L_law_192 : decode (pw_cc cx_L_law) 192 = .ok (.iload 4, 2) := by decide +kernel
theorem d_L_law_194 : decode (pw_cc cx_L_law) 194 = .ok (.iconst 2, 1) := by decide +kernel
theorem d_L_law_195 : decode (pw_cc cx_L_law) 195 = .ok (.iadd, 1) := by decide +kernel
theorem d_L_law_196 : decode (pw_cc cx_L_law) 196 = .ok (.iaload, 1) := by decide +kernel
theorem d_L_law_197 : decode (pw_cc cx_L_law) 197 = .ok (.aload_n 0, 1) := by decide +kernel
theorem d_L_law_198 : decode (pw_cc cx_L_law) 198 = .ok (.iload 4, 2) := by decide +kernel
theorem d_L_law_200 : decode (pw_cc cx_L_law) 200 = .ok (.iconst 3, 1) := by decide +kernel
theorem d_L_law_201 : decode (pw_cc cx_L_law) 201 = .ok (.iadd, 1) := by decide +kernel
theorem d_L_law_202 : decode (pw_cc cx_L_law) 202 = .ok (.iaload, 1) := by decide +kernel
theorem d_L_law_203 : decode (pw_cc cx_L_law) 203 = .ok (.aload_n 0, 1) := by decide +kernel
theorem d_L_law_204 : decode (pw_cc cx_L_law) 204 = .ok (.iload 4, 2) := by decide +kernel
theorem d_L_law_206 : decode (pw_cc cx_L_law) 206 = .ok (.iconst 4, 1) := by decide +kernel
theorem d_L_law_207 : decode (pw_cc cx_L_law) 207 = .ok (.iadd, 1) := by decide +kernel
theorem d_L_law_208 : decode (pw_cc cx_L_law) 208 = .ok (.iaload, 1) := by decide +kernel
theorem d_L_law_209 : decode (pw_cc cx_L_law) 209 = .ok (.aload_n 3, 1) := by decide +kernel
theorem d_L_law_210 : decode (pw_cc cx_L_law) 210 = .ok (.invokestatic 119, 3) := by decide +kernel
theorem d_L_law_213 : decode (pw_cc cx_L_law) 213 = .ok (.istore 5, 2) := by decide +kernel
theorem d_L_law_215 : decode (pw_cc cx_L_law) 215 = .ok (.aload_n 2, 1) := by decide +kernel
theorem d_L_law_216 : decode (pw_cc cx_L_law) 216 = .ok (.aload_n 0, 1) := by decide +kernel
theorem d_L_law_217 : decode (pw_cc cx_L_law) 217 = .ok (.iload 4, 2) := by decide +kernel
theorem d_L_law_219 : decode (pw_cc cx_L_law) 219 = .ok (.iconst 1, 1) := by decide +kernel
theorem d_L_law_220 : decode (pw_cc cx_L_law) 220 = .ok (.iadd, 1) := by decide +kernel
theorem d_L_law_221 : decode (pw_cc cx_L_law) 221 = .ok (.iaload, 1) := by decide +kernel
theorem d_L_law_222 : decode (pw_cc cx_L_law) 222 = .ok (.aload_n 0, 1) := by decide +kernel
theorem d_L_law_223 : decode (pw_cc cx_L_law) 223 = .ok (.iload 4, 2) := by decide +kernel
theorem d_L_law_225 : decode (pw_cc cx_L_law) 225 = .ok (.iconst 2, 1) := by decide +kernel
theorem d_L_law_226 : decode (pw_cc cx_L_law) 226 = .ok (.iadd, 1) := by decide +kernel
theorem d_L_law_227 : decode (pw_cc cx_L_law) 227 = .ok (.iaload, 1) := by decide +kernel
theorem d_L_law_228 : decode (pw_cc cx_L_law) 228 = .ok (.aload_n 0, 1) := by decide +kernel
theorem d_L_law_229 : decode (pw_cc cx_L_law) 229 = .ok (.iload 4, 2) := by decide +kernel
theorem d_L_law_231 : decode (pw_cc cx_L_law) 231 = .ok (.iconst 3, 1) := by decide +kernel
theorem d_L_law_232 : decode (pw_cc cx_L_law) 232 = .ok (.iadd, 1) := by decide +kernel
theorem d_L_law_233 : decode (pw_cc cx_L_law) 233 = .ok (.iaload, 1) := by decide +kernel
theorem d_L_law_234 : decode (pw_cc cx_L_law) 234 = .ok (.aload_n 0, 1) := by decide +kernel
theorem d_L_law_235 : decode (pw_cc cx_L_law) 235 = .ok (.iload 4, 2) := by decide +kernel
theorem d_L_law_237 : decode (pw_cc cx_L_law) 237 = .ok (.iconst 4, 1) := by decide +kernel
theorem d_L_law_238 : decode (pw_cc cx_L_law) 238 = .ok (.iadd, 1) := by decide +kernel
theorem d_L_law_239 : decode (pw_cc cx_L_law) 239 = .ok (.iaload, 1) := by decide +kernel
theorem d_L_law_240 : decode (pw_cc cx_L_law) 240 = .ok (.invokevirtual 124, 3) := by decide +kernel
theorem d_L_law_243 : decode (pw_cc cx_L_law) 243 = .ok (.istore 6, 2) := by decide +kernel
theorem d_L_law_245 : decode (pw_cc cx_L_law) 245 = .ok (.aload_n 2, 1) := by decide +kernel
theorem d_L_law_246 : decode (pw_cc cx_L_law) 246 = .ok (.invokevirtual 125, 3) := by decide +kernel
theorem d_L_law_249 : decode (pw_cc cx_L_law) 249 = .ok (.iload 5, 2) := by decide +kernel
theorem d_L_law_251 : decode (pw_cc cx_L_law) 251 = .ok (.if_icmp .eq 5, 3) := by decide +kernel
theorem d_L_law_254 : decode (pw_cc cx_L_law) 254 = .ok (.iconst 0, 1) := by decide +kernel
theorem d_L_law_255 : decode (pw_cc cx_L_law) 255 = .ok (.ireturn, 1) := by decide +kernel
theorem d_L_law_256 : decode (pw_cc cx_L_law) 256 = .ok (.iload 5, 2) := by decide +kernel
theorem d_L_law_258 : decode (pw_cc cx_L_law) 258 = .ok (.ifCond .ne 15, 3) := by decide +kernel
theorem d_L_law_261 : decode (pw_cc cx_L_law) 261 = .ok (.aload_n 3, 1) := by decide +kernel
theorem d_L_law_262 : decode (pw_cc cx_L_law) 262 = .ok (.iconst 0, 1) := by decide +kernel
theorem d_L_law_263 : decode (pw_cc cx_L_law) 263 = .ok (.laload, 1) := by decide +kernel
theorem d_L_law_264 : decode (pw_cc cx_L_law) 264 = .ok (.iload 6, 2) := by decide +kernel
theorem d_L_law_266 : decode (pw_cc cx_L_law) 266 = .ok (.i2l, 1) := by decide +kernel
theorem d_L_law_267 : decode (pw_cc cx_L_law) 267 = .ok (.lcmp, 1) := by decide +kernel
theorem d_L_law_268 : decode (pw_cc cx_L_law) 268 = .ok (.ifCond .eq 5, 3) := by decide +kernel
theorem d_L_law_271 : decode (pw_cc cx_L_law) 271 = .ok (.iconst 0, 1) := by decide +kernel
theorem d_L_law_272 : decode (pw_cc cx_L_law) 272 = .ok (.ireturn, 1) := by decide +kernel
theorem d_L_law_273 : decode (pw_cc cx_L_law) 273 = .ok (.goto 2048, 3) := by decide +kernel
theorem d_L_law_276 : decode (pw_cc cx_L_law) 276 = .ok (.aload_n 1, 1) := by decide +kernel
theorem d_L_law_277 : decode (pw_cc cx_L_law) 277 = .ok (.aload_n 0, 1) := by decide +kernel
theorem d_L_law_278 : decode (pw_cc cx_L_law) 278 = .ok (.iload 4, 2) := by decide +kernel
theorem d_L_law_280 : decode (pw_cc cx_L_law) 280 = .ok (.iconst 1, 1) := by decide +kernel
theorem d_L_law_281 : decode (pw_cc cx_L_law) 281 = .ok (.iadd, 1) := by decide +kernel
theorem d_L_law_282 : decode (pw_cc cx_L_law) 282 = .ok (.iaload, 1) := by decide +kernel
theorem d_L_law_283 : decode (pw_cc cx_L_law) 283 = .ok (.aload_n 0, 1) := by decide +kernel
theorem d_L_law_284 : decode (pw_cc cx_L_law) 284 = .ok (.iload 4, 2) := by decide +kernel
theorem d_L_law_286 : decode (pw_cc cx_L_law) 286 = .ok (.iconst 2, 1) := by decide +kernel
theorem d_L_law_287 : decode (pw_cc cx_L_law) 287 = .ok (.iadd, 1) := by decide +kernel
theorem d_L_law_288 : decode (pw_cc cx_L_law) 288 = .ok (.iaload, 1) := by decide +kernel
theorem d_L_law_289 : decode (pw_cc cx_L_law) 289 = .ok (.aload_n 3, 1) := by decide +kernel
theorem d_L_law_290 : decode (pw_cc cx_L_law) 290 = .ok (.invokestatic 129, 3) := by decide +kernel
theorem d_L_law_293 : decode (pw_cc cx_L_law) 293 = .ok (.istore 5, 2) := by decide +kernel
theorem d_L_law_295 : decode (pw_cc cx_L_law) 295 = .ok (.aload_n 2, 1) := by decide +kernel
theorem d_L_law_296 : decode (pw_cc cx_L_law) 296 = .ok (.aload_n 0, 1) := by decide +kernel
theorem d_L_law_297 : decode (pw_cc cx_L_law) 297 = .ok (.iload 4, 2) := by decide +kernel
theorem d_L_law_299 : decode (pw_cc cx_L_law) 299 = .ok (.iconst 1, 1) := by decide +kernel
theorem d_L_law_300 : decode (pw_cc cx_L_law) 300 = .ok (.iadd, 1) := by decide +kernel
theorem d_L_law_301 : decode (pw_cc cx_L_law) 301 = .ok (.iaload, 1) := by decide +kernel
theorem d_L_law_302 : decode (pw_cc cx_L_law) 302 = .ok (.aload_n 0, 1) := by decide +kernel
theorem d_L_law_303 : decode (pw_cc cx_L_law) 303 = .ok (.iload 4, 2) := by decide +kernel
theorem d_L_law_305 : decode (pw_cc cx_L_law) 305 = .ok (.iconst 2, 1) := by decide +kernel
theorem d_L_law_306 : decode (pw_cc cx_L_law) 306 = .ok (.iadd, 1) := by decide +kernel
theorem d_L_law_307 : decode (pw_cc cx_L_law) 307 = .ok (.iaload, 1) := by decide +kernel
theorem d_L_law_308 : decode (pw_cc cx_L_law) 308 = .ok (.invokevirtual 132, 3) := by decide +kernel
theorem d_L_law_311 : decode (pw_cc cx_L_law) 311 = .ok (.istore 6, 2) := by decide +kernel
theorem d_L_law_313 : decode (pw_cc cx_L_law) 313 = .ok (.aload_n 2, 1) := by decide +kernel
theorem d_L_law_314 : decode (pw_cc cx_L_law) 314 = .ok (.invokevirtual 125, 3) := by decide +kernel
theorem d_L_law_317 : decode (pw_cc cx_L_law) 317 = .ok (.iload 5, 2) := by decide +kernel
theorem d_L_law_319 : decode (pw_cc cx_L_law) 319 = .ok (.if_icmp .eq 5, 3) := by decide +kernel
theorem d_L_law_322 : decode (pw_cc cx_L_law) 322 = .ok (.iconst 0, 1) := by decide +kernel
theorem d_L_law_323 : decode (pw_cc cx_L_law) 323 = .ok (.ireturn, 1) := by decide +kernel
theorem d_L_law_324 : decode (pw_cc cx_L_law) 324 = .ok (.iload 5, 2) := by decide +kernel
theorem d_L_law_326 : decode (pw_cc cx_L_law) 326 = .ok (.ifCond .ne 15, 3) := by decide +kernel
theorem d_L_law_329 : decode (pw_cc cx_L_law) 329 = .ok (.aload_n 3, 1) := by decide +kernel
theorem d_L_law_330 : decode (pw_cc cx_L_law) 330 = .ok (.iconst 0, 1) := by decide +kernel
theorem d_L_law_331 : decode (pw_cc cx_L_law) 331 = .ok (.laload, 1) := by decide +kernel
theorem d_L_law_332 : decode (pw_cc cx_L_law) 332 = .ok (.iload 6, 2) := by decide +kernel
theorem d_L_law_334 : decode (pw_cc cx_L_law) 334 = .ok (.i2l, 1) := by decide +kernel
theorem d_L_law_335 : decode (pw_cc cx_L_law) 335 = .ok (.lcmp, 1) := by decide +kernel
theorem d_L_law_336 : decode (pw_cc cx_L_law) 336 = .ok (.ifCond .eq 5, 3) := by decide +kernel
theorem d_L_law_339 : decode (pw_cc cx_L_law) 339 = .ok (.iconst 0, 1) := by decide +kernel
theorem d_L_law_340 : decode (pw_cc cx_L_law) 340 = .ok (.ireturn, 1) := by decide +kernel
theorem d_L_law_341 : decode (pw_cc cx_L_law) 341 = .ok (.goto 1980, 3) := by decide +kernel
theorem d_L_law_344 : decode (pw_cc cx_L_law) 344 = .ok (.aload_n 1, 1) := by decide +kernel
theorem d_L_law_345 : decode (pw_cc cx_L_law) 345 = .ok (.aload_n 0, 1) := by decide +kernel
theorem d_L_law_346 : decode (pw_cc cx_L_law) 346 = .ok (.iload 4, 2) := by decide +kernel
theorem d_L_law_348 : decode (pw_cc cx_L_law) 348 = .ok (.iconst 1, 1) := by decide +kernel
theorem d_L_law_349 : decode (pw_cc cx_L_law) 349 = .ok (.iadd, 1) := by decide +kernel
theorem d_L_law_350 : decode (pw_cc cx_L_law) 350 = .ok (.iaload, 1) := by decide +kernel
theorem d_L_law_351 : decode (pw_cc cx_L_law) 351 = .ok (.aload_n 0, 1) := by decide +kernel
theorem d_L_law_352 : decode (pw_cc cx_L_law) 352 = .ok (.iload 4, 2) := by decide +kernel
theorem d_L_law_354 : decode (pw_cc cx_L_law) 354 = .ok (.iconst 2, 1) := by decide +kernel
theorem d_L_law_355 : decode (pw_cc cx_L_law) 355 = .ok (.iadd, 1) := by decide +kernel
theorem d_L_law_356 : decode (pw_cc cx_L_law) 356 = .ok (.iaload, 1) := by decide +kernel
theorem d_L_law_357 : decode (pw_cc cx_L_law) 357 = .ok (.aload_n 0, 1) := by decide +kernel
theorem d_L_law_358 : decode (pw_cc cx_L_law) 358 = .ok (.iload 4, 2) := by decide +kernel
theorem d_L_law_360 : decode (pw_cc cx_L_law) 360 = .ok (.iconst 3, 1) := by decide +kernel
theorem d_L_law_361 : decode (pw_cc cx_L_law) 361 = .ok (.iadd, 1) := by decide +kernel
theorem d_L_law_362 : decode (pw_cc cx_L_law) 362 = .ok (.iaload, 1) := by decide +kernel
theorem d_L_law_363 : decode (pw_cc cx_L_law) 363 = .ok (.aload_n 3, 1) := by decide +kernel
theorem d_L_law_364 : decode (pw_cc cx_L_law) 364 = .ok (.invokestatic 133, 3) := by decide +kernel
theorem d_L_law_367 : decode (pw_cc cx_L_law) 367 = .ok (.istore 5, 2) := by decide +kernel
theorem d_L_law_369 : decode (pw_cc cx_L_law) 369 = .ok (.aload_n 2, 1) := by decide +kernel
theorem d_L_law_370 : decode (pw_cc cx_L_law) 370 = .ok (.aload_n 0, 1) := by decide +kernel
theorem d_L_law_371 : decode (pw_cc cx_L_law) 371 = .ok (.iload 4, 2) := by decide +kernel
theorem d_L_law_373 : decode (pw_cc cx_L_law) 373 = .ok (.iconst 1, 1) := by decide +kernel
theorem d_L_law_374 : decode (pw_cc cx_L_law) 374 = .ok (.iadd, 1) := by decide +kernel
theorem d_L_law_375 : decode (pw_cc cx_L_law) 375 = .ok (.iaload, 1) := by decide +kernel
theorem d_L_law_376 : decode (pw_cc cx_L_law) 376 = .ok (.aload_n 0, 1) := by decide +kernel
theorem d_L_law_377 : decode (pw_cc cx_L_law) 377 = .ok (.iload 4, 2) := by decide +kernel
theorem d_L_law_379 : decode (pw_cc cx_L_law) 379 = .ok (.iconst 2, 1) := by decide +kernel
theorem d_L_law_380 : decode (pw_cc cx_L_law) 380 = .ok (.iadd, 1) := by decide +kernel
theorem d_L_law_381 : decode (pw_cc cx_L_law) 381 = .ok (.iaload, 1) := by decide +kernel
theorem d_L_law_382 : decode (pw_cc cx_L_law) 382 = .ok (.aload_n 0, 1) := by decide +kernel
theorem d_L_law_383 : decode (pw_cc cx_L_law) 383 = .ok (.iload 4, 2) := by decide +kernel
theorem d_L_law_385 : decode (pw_cc cx_L_law) 385 = .ok (.iconst 3, 1) := by decide +kernel
theorem d_L_law_386 : decode (pw_cc cx_L_law) 386 = .ok (.iadd, 1) := by decide +kernel
theorem d_L_law_387 : decode (pw_cc cx_L_law) 387 = .ok (.iaload, 1) := by decide +kernel
theorem d_L_law_388 : decode (pw_cc cx_L_law) 388 = .ok (.invokevirtual 136, 3) := by decide +kernel
theorem d_L_law_391 : decode (pw_cc cx_L_law) 391 = .ok (.istore 6, 2) := by decide +kernel
theorem d_L_law_393 : decode (pw_cc cx_L_law) 393 = .ok (.aload_n 2, 1) := by decide +kernel
theorem d_L_law_394 : decode (pw_cc cx_L_law) 394 = .ok (.invokevirtual 125, 3) := by decide +kernel
theorem d_L_law_397 : decode (pw_cc cx_L_law) 397 = .ok (.iload 5, 2) := by decide +kernel
theorem d_L_law_399 : decode (pw_cc cx_L_law) 399 = .ok (.if_icmp .eq 5, 3) := by decide +kernel
theorem d_L_law_402 : decode (pw_cc cx_L_law) 402 = .ok (.iconst 0, 1) := by decide +kernel
theorem d_L_law_403 : decode (pw_cc cx_L_law) 403 = .ok (.ireturn, 1) := by decide +kernel
theorem d_L_law_404 : decode (pw_cc cx_L_law) 404 = .ok (.iload 5, 2) := by decide +kernel
theorem d_L_law_406 : decode (pw_cc cx_L_law) 406 = .ok (.ifCond .ne 15, 3) := by decide +kernel
theorem d_L_law_409 : decode (pw_cc cx_L_law) 409 = .ok (.aload_n 3, 1) := by decide +kernel
theorem d_L_law_410 : decode (pw_cc cx_L_law) 410 = .ok (.iconst 0, 1) := by decide +kernel
theorem d_L_law_411 : decode (pw_cc cx_L_law) 411 = .ok (.laload, 1) := by decide +kernel
theorem d_L_law_412 : decode (pw_cc cx_L_law) 412 = .ok (.iload 6, 2) := by decide +kernel
theorem d_L_law_414 : decode (pw_cc cx_L_law) 414 = .ok (.i2l, 1) := by decide +kernel
theorem d_L_law_415 : decode (pw_cc cx_L_law) 415 = .ok (.lcmp, 1) := by decide +kernel
theorem d_L_law_416 : decode (pw_cc cx_L_law) 416 = .ok (.ifCond .eq 5, 3) := by decide +kernel
theorem d_L_law_419 : decode (pw_cc cx_L_law) 419 = .ok (.iconst 0, 1) := by decide +kernel
theorem d_L_law_420 : decode (pw_cc cx_L_law) 420 = .ok (.ireturn, 1) := by decide +kernel
theorem d_L_law_421 : decode (pw_cc cx_L_law) 421 = .ok (.goto 1900, 3) := by decide +kernel
theorem d_L_law_424 : decode (pw_cc cx_L_law) 424 = .ok (.aload_n 1, 1) := by decide +kernel
theorem d_L_law_425 : decode (pw_cc cx_L_law) 425 = .ok (.aload_n 0, 1) := by decide +kernel
theorem d_L_law_426 : decode (pw_cc cx_L_law) 426 = .ok (.iload 4, 2) := by decide +kernel
theorem d_L_law_428 : decode (pw_cc cx_L_law) 428 = .ok (.iconst 1, 1) := by decide +kernel
theorem d_L_law_429 : decode (pw_cc cx_L_law) 429 = .ok (.iadd, 1) := by decide +kernel
theorem d_L_law_430 : decode (pw_cc cx_L_law) 430 = .ok (.iaload, 1) := by decide +kernel
theorem d_L_law_431 : decode (pw_cc cx_L_law) 431 = .ok (.aload_n 0, 1) := by decide +kernel
theorem d_L_law_432 : decode (pw_cc cx_L_law) 432 = .ok (.iload 4, 2) := by decide +kernel
theorem d_L_law_434 : decode (pw_cc cx_L_law) 434 = .ok (.iconst 2, 1) := by decide +kernel
theorem d_L_law_435 : decode (pw_cc cx_L_law) 435 = .ok (.iadd, 1) := by decide +kernel
theorem d_L_law_436 : decode (pw_cc cx_L_law) 436 = .ok (.iaload, 1) := by decide +kernel
theorem d_L_law_437 : decode (pw_cc cx_L_law) 437 = .ok (.aload_n 0, 1) := by decide +kernel
theorem d_L_law_438 : decode (pw_cc cx_L_law) 438 = .ok (.iload 4, 2) := by decide +kernel
theorem d_L_law_440 : decode (pw_cc cx_L_law) 440 = .ok (.iconst 3, 1) := by decide +kernel
theorem d_L_law_441 : decode (pw_cc cx_L_law) 441 = .ok (.iadd, 1) := by decide +kernel
theorem d_L_law_442 : decode (pw_cc cx_L_law) 442 = .ok (.iaload, 1) := by decide +kernel
theorem d_L_law_443 : decode (pw_cc cx_L_law) 443 = .ok (.aload_n 3, 1) := by decide +kernel
theorem d_L_law_444 : decode (pw_cc cx_L_law) 444 = .ok (.invokestatic 137, 3) := by decide +kernel
theorem d_L_law_447 : decode (pw_cc cx_L_law) 447 = .ok (.istore 5, 2) := by decide +kernel
theorem d_L_law_449 : decode (pw_cc cx_L_law) 449 = .ok (.aload_n 2, 1) := by decide +kernel
theorem d_L_law_450 : decode (pw_cc cx_L_law) 450 = .ok (.aload_n 0, 1) := by decide +kernel
theorem d_L_law_451 : decode (pw_cc cx_L_law) 451 = .ok (.iload 4, 2) := by decide +kernel
theorem d_L_law_453 : decode (pw_cc cx_L_law) 453 = .ok (.iconst 1, 1) := by decide +kernel
theorem d_L_law_454 : decode (pw_cc cx_L_law) 454 = .ok (.iadd, 1) := by decide +kernel
theorem d_L_law_455 : decode (pw_cc cx_L_law) 455 = .ok (.iaload, 1) := by decide +kernel
theorem d_L_law_456 : decode (pw_cc cx_L_law) 456 = .ok (.aload_n 0, 1) := by decide +kernel
theorem d_L_law_457 : decode (pw_cc cx_L_law) 457 = .ok (.iload 4, 2) := by decide +kernel
theorem d_L_law_459 : decode (pw_cc cx_L_law) 459 = .ok (.iconst 2, 1) := by decide +kernel
theorem d_L_law_460 : decode (pw_cc cx_L_law) 460 = .ok (.iadd, 1) := by decide +kernel
theorem d_L_law_461 : decode (pw_cc cx_L_law) 461 = .ok (.iaload, 1) := by decide +kernel
theorem d_L_law_462 : decode (pw_cc cx_L_law) 462 = .ok (.aload_n 0, 1) := by decide +kernel
theorem d_L_law_463 : decode (pw_cc cx_L_law) 463 = .ok (.iload 4, 2) := by decide +kernel
theorem d_L_law_465 : decode (pw_cc cx_L_law) 465 = .ok (.iconst 3, 1) := by decide +kernel
theorem d_L_law_466 : decode (pw_cc cx_L_law) 466 = .ok (.iadd, 1) := by decide +kernel
theorem d_L_law_467 : decode (pw_cc cx_L_law) 467 = .ok (.iaload, 1) := by decide +kernel
theorem d_L_law_468 : decode (pw_cc cx_L_law) 468 = .ok (.invokevirtual 139, 3) := by decide +kernel
theorem d_L_law_471 : decode (pw_cc cx_L_law) 471 = .ok (.istore 6, 2) := by decide +kernel
theorem d_L_law_473 : decode (pw_cc cx_L_law) 473 = .ok (.aload_n 2, 1) := by decide +kernel
theorem d_L_law_474 : decode (pw_cc cx_L_law) 474 = .ok (.invokevirtual 125, 3) := by decide +kernel
theorem d_L_law_477 : decode (pw_cc cx_L_law) 477 = .ok (.iload 5, 2) := by decide +kernel
theorem d_L_law_479 : decode (pw_cc cx_L_law) 479 = .ok (.if_icmp .eq 5, 3) := by decide +kernel
theorem d_L_law_482 : decode (pw_cc cx_L_law) 482 = .ok (.iconst 0, 1) := by decide +kernel
theorem d_L_law_483 : decode (pw_cc cx_L_law) 483 = .ok (.ireturn, 1) := by decide +kernel
theorem d_L_law_484 : decode (pw_cc cx_L_law) 484 = .ok (.iload 5, 2) := by decide +kernel
theorem d_L_law_486 : decode (pw_cc cx_L_law) 486 = .ok (.ifCond .ne 15, 3) := by decide +kernel
theorem d_L_law_489 : decode (pw_cc cx_L_law) 489 = .ok (.aload_n 3, 1) := by decide +kernel
theorem d_L_law_490 : decode (pw_cc cx_L_law) 490 = .ok (.iconst 0, 1) := by decide +kernel
theorem d_L_law_491 : decode (pw_cc cx_L_law) 491 = .ok (.laload, 1) := by decide +kernel
theorem d_L_law_492 : decode (pw_cc cx_L_law) 492 = .ok (.iload 6, 2) := by decide +kernel
theorem d_L_law_494 : decode (pw_cc cx_L_law) 494 = .ok (.i2l, 1) := by decide +kernel
theorem d_L_law_495 : decode (pw_cc cx_L_law) 495 = .ok (.lcmp, 1) := by decide +kernel
theorem d_L_law_496 : decode (pw_cc cx_L_law) 496 = .ok (.ifCond .eq 5, 3) := by decide +kernel
theorem d_L_law_499 : decode (pw_cc cx_L_law) 499 = .ok (.iconst 0, 1) := by decide +kernel
theorem d_L_law_500 : decode (pw_cc cx_L_law) 500 = .ok (.ireturn, 1) := by decide +kernel
theorem d_L_law_501 : decode (pw_cc cx_L_law) 501 = .ok (.goto 1820, 3) := by decide +kernel
theorem d_L_law_504 : decode (pw_cc cx_L_law) 504 = .ok (.aload_n 1, 1) := by decide +kernel
theorem d_L_law_505 : decode (pw_cc cx_L_law) 505 = .ok (.aload_n 0, 1) := by decide +kernel
theorem d_L_law_506 : decode (pw_cc cx_L_law) 506 = .ok (.iload 4, 2) := by decide +kernel
theorem d_L_law_508 : decode (pw_cc cx_L_law) 508 = .ok (.iconst 1, 1) := by decide +kernel
theorem d_L_law_509 : decode (pw_cc cx_L_law) 509 = .ok (.iadd, 1) := by decide +kernel
theorem d_L_law_510 : decode (pw_cc cx_L_law) 510 = .ok (.iaload, 1) := by decide +kernel
theorem d_L_law_511 : decode (pw_cc cx_L_law) 511 = .ok (.aload_n 0, 1) := by decide +kernel
theorem d_L_law_512 : decode (pw_cc cx_L_law) 512 = .ok (.iload 4, 2) := by decide +kernel
theorem d_L_law_514 : decode (pw_cc cx_L_law) 514 = .ok (.iconst 2, 1) := by decide +kernel
theorem d_L_law_515 : decode (pw_cc cx_L_law) 515 = .ok (.iadd, 1) := by decide +kernel
theorem d_L_law_516 : decode (pw_cc cx_L_law) 516 = .ok (.iaload, 1) := by decide +kernel
theorem d_L_law_517 : decode (pw_cc cx_L_law) 517 = .ok (.ifCond .eq 7, 3) := by decide +kernel
theorem d_L_law_520 : decode (pw_cc cx_L_law) 520 = .ok (.iconst 1, 1) := by decide +kernel
theorem d_L_law_521 : decode (pw_cc cx_L_law) 521 = .ok (.goto 4, 3) := by decide +kernel
theorem d_L_law_524 : decode (pw_cc cx_L_law) 524 = .ok (.iconst 0, 1) := by decide +kernel
theorem d_L_law_525 : decode (pw_cc cx_L_law) 525 = .ok (.aload_n 0, 1) := by decide +kernel
theorem d_L_law_526 : decode (pw_cc cx_L_law) 526 = .ok (.iload 4, 2) := by decide +kernel
theorem d_L_law_528 : decode (pw_cc cx_L_law) 528 = .ok (.iconst 3, 1) := by decide +kernel
theorem d_L_law_529 : decode (pw_cc cx_L_law) 529 = .ok (.iadd, 1) := by decide +kernel
theorem d_L_law_530 : decode (pw_cc cx_L_law) 530 = .ok (.iaload, 1) := by decide +kernel
theorem d_L_law_531 : decode (pw_cc cx_L_law) 531 = .ok (.aload_n 0, 1) := by decide +kernel
theorem d_L_law_532 : decode (pw_cc cx_L_law) 532 = .ok (.iload 4, 2) := by decide +kernel
theorem d_L_law_534 : decode (pw_cc cx_L_law) 534 = .ok (.iconst 4, 1) := by decide +kernel
theorem d_L_law_535 : decode (pw_cc cx_L_law) 535 = .ok (.iadd, 1) := by decide +kernel
theorem d_L_law_536 : decode (pw_cc cx_L_law) 536 = .ok (.iaload, 1) := by decide +kernel
theorem d_L_law_537 : decode (pw_cc cx_L_law) 537 = .ok (.aload_n 3, 1) := by decide +kernel
theorem d_L_law_538 : decode (pw_cc cx_L_law) 538 = .ok (.invokestatic 140, 3) := by decide +kernel
theorem d_L_law_541 : decode (pw_cc cx_L_law) 541 = .ok (.istore 5, 2) := by decide +kernel
theorem d_L_law_543 : decode (pw_cc cx_L_law) 543 = .ok (.aload_n 2, 1) := by decide +kernel
theorem d_L_law_544 : decode (pw_cc cx_L_law) 544 = .ok (.aload_n 0, 1) := by decide +kernel
theorem d_L_law_545 : decode (pw_cc cx_L_law) 545 = .ok (.iload 4, 2) := by decide +kernel
theorem d_L_law_547 : decode (pw_cc cx_L_law) 547 = .ok (.iconst 1, 1) := by decide +kernel
theorem d_L_law_548 : decode (pw_cc cx_L_law) 548 = .ok (.iadd, 1) := by decide +kernel
theorem d_L_law_549 : decode (pw_cc cx_L_law) 549 = .ok (.iaload, 1) := by decide +kernel
theorem d_L_law_550 : decode (pw_cc cx_L_law) 550 = .ok (.aload_n 0, 1) := by decide +kernel
theorem d_L_law_551 : decode (pw_cc cx_L_law) 551 = .ok (.iload 4, 2) := by decide +kernel
theorem d_L_law_553 : decode (pw_cc cx_L_law) 553 = .ok (.iconst 2, 1) := by decide +kernel
theorem d_L_law_554 : decode (pw_cc cx_L_law) 554 = .ok (.iadd, 1) := by decide +kernel
theorem d_L_law_555 : decode (pw_cc cx_L_law) 555 = .ok (.iaload, 1) := by decide +kernel
theorem d_L_law_556 : decode (pw_cc cx_L_law) 556 = .ok (.ifCond .eq 7, 3) := by decide +kernel
theorem d_L_law_559 : decode (pw_cc cx_L_law) 559 = .ok (.iconst 1, 1) := by decide +kernel
theorem d_L_law_560 : decode (pw_cc cx_L_law) 560 = .ok (.goto 4, 3) := by decide +kernel
theorem d_L_law_563 : decode (pw_cc cx_L_law) 563 = .ok (.iconst 0, 1) := by decide +kernel
theorem d_L_law_564 : decode (pw_cc cx_L_law) 564 = .ok (.aload_n 0, 1) := by decide +kernel
theorem d_L_law_565 : decode (pw_cc cx_L_law) 565 = .ok (.iload 4, 2) := by decide +kernel
theorem d_L_law_567 : decode (pw_cc cx_L_law) 567 = .ok (.iconst 3, 1) := by decide +kernel
theorem d_L_law_568 : decode (pw_cc cx_L_law) 568 = .ok (.iadd, 1) := by decide +kernel
theorem d_L_law_569 : decode (pw_cc cx_L_law) 569 = .ok (.iaload, 1) := by decide +kernel
theorem d_L_law_570 : decode (pw_cc cx_L_law) 570 = .ok (.aload_n 0, 1) := by decide +kernel
theorem d_L_law_571 : decode (pw_cc cx_L_law) 571 = .ok (.iload 4, 2) := by decide +kernel
theorem d_L_law_573 : decode (pw_cc cx_L_law) 573 = .ok (.iconst 4, 1) := by decide +kernel
theorem d_L_law_574 : decode (pw_cc cx_L_law) 574 = .ok (.iadd, 1) := by decide +kernel
theorem d_L_law_575 : decode (pw_cc cx_L_law) 575 = .ok (.iaload, 1) := by decide +kernel
theorem d_L_law_576 : decode (pw_cc cx_L_law) 576 = .ok (.invokevirtual 143, 3) := by decide +kernel
theorem d_L_law_579 : decode (pw_cc cx_L_law) 579 = .ok (.istore 6, 2) := by decide +kernel
theorem d_L_law_581 : decode (pw_cc cx_L_law) 581 = .ok (.aload_n 2, 1) := by decide +kernel
theorem d_L_law_582 : decode (pw_cc cx_L_law) 582 = .ok (.invokevirtual 125, 3) := by decide +kernel
theorem d_L_law_585 : decode (pw_cc cx_L_law) 585 = .ok (.iload 5, 2) := by decide +kernel
theorem d_L_law_587 : decode (pw_cc cx_L_law) 587 = .ok (.if_icmp .eq 5, 3) := by decide +kernel
theorem d_L_law_590 : decode (pw_cc cx_L_law) 590 = .ok (.iconst 0, 1) := by decide +kernel
theorem d_L_law_591 : decode (pw_cc cx_L_law) 591 = .ok (.ireturn, 1) := by decide +kernel
theorem d_L_law_592 : decode (pw_cc cx_L_law) 592 = .ok (.iload 5, 2) := by decide +kernel
theorem d_L_law_594 : decode (pw_cc cx_L_law) 594 = .ok (.ifCond .ne 15, 3) := by decide +kernel
theorem d_L_law_597 : decode (pw_cc cx_L_law) 597 = .ok (.aload_n 3, 1) := by decide +kernel
theorem d_L_law_598 : decode (pw_cc cx_L_law) 598 = .ok (.iconst 0, 1) := by decide +kernel
theorem d_L_law_599 : decode (pw_cc cx_L_law) 599 = .ok (.laload, 1) := by decide +kernel
theorem d_L_law_600 : decode (pw_cc cx_L_law) 600 = .ok (.iload 6, 2) := by decide +kernel
theorem d_L_law_602 : decode (pw_cc cx_L_law) 602 = .ok (.i2l, 1) := by decide +kernel
theorem d_L_law_603 : decode (pw_cc cx_L_law) 603 = .ok (.lcmp, 1) := by decide +kernel
theorem d_L_law_604 : decode (pw_cc cx_L_law) 604 = .ok (.ifCond .eq 5, 3) := by decide +kernel
theorem d_L_law_607 : decode (pw_cc cx_L_law) 607 = .ok (.iconst 0, 1) := by decide +kernel
theorem d_L_law_608 : decode (pw_cc cx_L_law) 608 = .ok (.ireturn, 1) := by decide +kernel
theorem d_L_law_609 : decode (pw_cc cx_L_law) 609 = .ok (.goto 1712, 3) := by decide +kernel
theorem d_L_law_612 : decode (pw_cc cx_L_law) 612 = .ok (.aload_n 1, 1) := by decide +kernel
theorem d_L_law_613 : decode (pw_cc cx_L_law) 613 = .ok (.aload_n 0, 1) := by decide +kernel
theorem d_L_law_614 : decode (pw_cc cx_L_law) 614 = .ok (.iload 4, 2) := by decide +kernel
theorem d_L_law_616 : decode (pw_cc cx_L_law) 616 = .ok (.iconst 1, 1) := by decide +kernel
theorem d_L_law_617 : decode (pw_cc cx_L_law) 617 = .ok (.iadd, 1) := by decide +kernel
theorem d_L_law_618 : decode (pw_cc cx_L_law) 618 = .ok (.iaload, 1) := by decide +kernel
theorem d_L_law_619 : decode (pw_cc cx_L_law) 619 = .ok (.aload_n 0, 1) := by decide +kernel
theorem d_L_law_620 : decode (pw_cc cx_L_law) 620 = .ok (.iload 4, 2) := by decide +kernel
theorem d_L_law_622 : decode (pw_cc cx_L_law) 622 = .ok (.iconst 2, 1) := by decide +kernel
theorem d_L_law_623 : decode (pw_cc cx_L_law) 623 = .ok (.iadd, 1) := by decide +kernel
theorem d_L_law_624 : decode (pw_cc cx_L_law) 624 = .ok (.iaload, 1) := by decide +kernel
theorem d_L_law_625 : decode (pw_cc cx_L_law) 625 = .ok (.ifCond .eq 7, 3) := by decide +kernel
theorem d_L_law_628 : decode (pw_cc cx_L_law) 628 = .ok (.iconst 1, 1) := by decide +kernel
theorem d_L_law_629 : decode (pw_cc cx_L_law) 629 = .ok (.goto 4, 3) := by decide +kernel
theorem d_L_law_632 : decode (pw_cc cx_L_law) 632 = .ok (.iconst 0, 1) := by decide +kernel
theorem d_L_law_633 : decode (pw_cc cx_L_law) 633 = .ok (.aload_n 0, 1) := by decide +kernel
theorem d_L_law_634 : decode (pw_cc cx_L_law) 634 = .ok (.iload 4, 2) := by decide +kernel
theorem d_L_law_636 : decode (pw_cc cx_L_law) 636 = .ok (.iconst 3, 1) := by decide +kernel
theorem d_L_law_637 : decode (pw_cc cx_L_law) 637 = .ok (.iadd, 1) := by decide +kernel
theorem d_L_law_638 : decode (pw_cc cx_L_law) 638 = .ok (.iaload, 1) := by decide +kernel
theorem d_L_law_639 : decode (pw_cc cx_L_law) 639 = .ok (.aload_n 3, 1) := by decide +kernel
theorem d_L_law_640 : decode (pw_cc cx_L_law) 640 = .ok (.invokestatic 144, 3) := by decide +kernel
theorem d_L_law_643 : decode (pw_cc cx_L_law) 643 = .ok (.istore 5, 2) := by decide +kernel
theorem d_L_law_645 : decode (pw_cc cx_L_law) 645 = .ok (.aload_n 2, 1) := by decide +kernel
theorem d_L_law_646 : decode (pw_cc cx_L_law) 646 = .ok (.aload_n 0, 1) := by decide +kernel
theorem d_L_law_647 : decode (pw_cc cx_L_law) 647 = .ok (.iload 4, 2) := by decide +kernel
theorem d_L_law_649 : decode (pw_cc cx_L_law) 649 = .ok (.iconst 1, 1) := by decide +kernel
theorem d_L_law_650 : decode (pw_cc cx_L_law) 650 = .ok (.iadd, 1) := by decide +kernel
theorem d_L_law_651 : decode (pw_cc cx_L_law) 651 = .ok (.iaload, 1) := by decide +kernel
theorem d_L_law_652 : decode (pw_cc cx_L_law) 652 = .ok (.aload_n 0, 1) := by decide +kernel
theorem d_L_law_653 : decode (pw_cc cx_L_law) 653 = .ok (.iload 4, 2) := by decide +kernel
theorem d_L_law_655 : decode (pw_cc cx_L_law) 655 = .ok (.iconst 2, 1) := by decide +kernel
theorem d_L_law_656 : decode (pw_cc cx_L_law) 656 = .ok (.iadd, 1) := by decide +kernel
theorem d_L_law_657 : decode (pw_cc cx_L_law) 657 = .ok (.iaload, 1) := by decide +kernel
theorem d_L_law_658 : decode (pw_cc cx_L_law) 658 = .ok (.ifCond .eq 7, 3) := by decide +kernel
theorem d_L_law_661 : decode (pw_cc cx_L_law) 661 = .ok (.iconst 1, 1) := by decide +kernel
theorem d_L_law_662 : decode (pw_cc cx_L_law) 662 = .ok (.goto 4, 3) := by decide +kernel
theorem d_L_law_665 : decode (pw_cc cx_L_law) 665 = .ok (.iconst 0, 1) := by decide +kernel
theorem d_L_law_666 : decode (pw_cc cx_L_law) 666 = .ok (.aload_n 0, 1) := by decide +kernel
theorem d_L_law_667 : decode (pw_cc cx_L_law) 667 = .ok (.iload 4, 2) := by decide +kernel
theorem d_L_law_669 : decode (pw_cc cx_L_law) 669 = .ok (.iconst 3, 1) := by decide +kernel
theorem d_L_law_670 : decode (pw_cc cx_L_law) 670 = .ok (.iadd, 1) := by decide +kernel
theorem d_L_law_671 : decode (pw_cc cx_L_law) 671 = .ok (.iaload, 1) := by decide +kernel
theorem d_L_law_672 : decode (pw_cc cx_L_law) 672 = .ok (.invokevirtual 147, 3) := by decide +kernel
theorem d_L_law_675 : decode (pw_cc cx_L_law) 675 = .ok (.istore 6, 2) := by decide +kernel
theorem d_L_law_677 : decode (pw_cc cx_L_law) 677 = .ok (.aload_n 2, 1) := by decide +kernel
theorem d_L_law_678 : decode (pw_cc cx_L_law) 678 = .ok (.invokevirtual 125, 3) := by decide +kernel
theorem d_L_law_681 : decode (pw_cc cx_L_law) 681 = .ok (.iload 5, 2) := by decide +kernel
theorem d_L_law_683 : decode (pw_cc cx_L_law) 683 = .ok (.if_icmp .eq 5, 3) := by decide +kernel
theorem d_L_law_686 : decode (pw_cc cx_L_law) 686 = .ok (.iconst 0, 1) := by decide +kernel
theorem d_L_law_687 : decode (pw_cc cx_L_law) 687 = .ok (.ireturn, 1) := by decide +kernel
theorem d_L_law_688 : decode (pw_cc cx_L_law) 688 = .ok (.iload 5, 2) := by decide +kernel
theorem d_L_law_690 : decode (pw_cc cx_L_law) 690 = .ok (.ifCond .ne 15, 3) := by decide +kernel
theorem d_L_law_693 : decode (pw_cc cx_L_law) 693 = .ok (.aload_n 3, 1) := by decide +kernel
theorem d_L_law_694 : decode (pw_cc cx_L_law) 694 = .ok (.iconst 0, 1) := by decide +kernel
theorem d_L_law_695 : decode (pw_cc cx_L_law) 695 = .ok (.laload, 1) := by decide +kernel
theorem d_L_law_696 : decode (pw_cc cx_L_law) 696 = .ok (.iload 6, 2) := by decide +kernel
theorem d_L_law_698 : decode (pw_cc cx_L_law) 698 = .ok (.i2l, 1) := by decide +kernel
theorem d_L_law_699 : decode (pw_cc cx_L_law) 699 = .ok (.lcmp, 1) := by decide +kernel
theorem d_L_law_700 : decode (pw_cc cx_L_law) 700 = .ok (.ifCond .eq 5, 3) := by decide +kernel
theorem d_L_law_703 : decode (pw_cc cx_L_law) 703 = .ok (.iconst 0, 1) := by decide +kernel
theorem d_L_law_704 : decode (pw_cc cx_L_law) 704 = .ok (.ireturn, 1) := by decide +kernel
theorem d_L_law_705 : decode (pw_cc cx_L_law) 705 = .ok (.goto 1616, 3) := by decide +kernel
theorem d_L_law_708 : decode (pw_cc cx_L_law) 708 = .ok (.aload_n 1, 1) := by decide +kernel
theorem d_L_law_709 : decode (pw_cc cx_L_law) 709 = .ok (.aload_n 0, 1) := by decide +kernel
theorem d_L_law_710 : decode (pw_cc cx_L_law) 710 = .ok (.iload 4, 2) := by decide +kernel
theorem d_L_law_712 : decode (pw_cc cx_L_law) 712 = .ok (.iconst 1, 1) := by decide +kernel
theorem d_L_law_713 : decode (pw_cc cx_L_law) 713 = .ok (.iadd, 1) := by decide +kernel
theorem d_L_law_714 : decode (pw_cc cx_L_law) 714 = .ok (.iaload, 1) := by decide +kernel
theorem d_L_law_715 : decode (pw_cc cx_L_law) 715 = .ok (.aload_n 3, 1) := by decide +kernel
theorem d_L_law_716 : decode (pw_cc cx_L_law) 716 = .ok (.invokestatic 148, 3) := by decide +kernel
theorem d_L_law_719 : decode (pw_cc cx_L_law) 719 = .ok (.istore 5, 2) := by decide +kernel
theorem d_L_law_721 : decode (pw_cc cx_L_law) 721 = .ok (.aload_n 2, 1) := by decide +kernel
theorem d_L_law_722 : decode (pw_cc cx_L_law) 722 = .ok (.aload_n 0, 1) := by decide +kernel
theorem d_L_law_723 : decode (pw_cc cx_L_law) 723 = .ok (.iload 4, 2) := by decide +kernel
theorem d_L_law_725 : decode (pw_cc cx_L_law) 725 = .ok (.iconst 1, 1) := by decide +kernel
theorem d_L_law_726 : decode (pw_cc cx_L_law) 726 = .ok (.iadd, 1) := by decide +kernel
theorem d_L_law_727 : decode (pw_cc cx_L_law) 727 = .ok (.iaload, 1) := by decide +kernel
theorem d_L_law_728 : decode (pw_cc cx_L_law) 728 = .ok (.invokevirtual 151, 3) := by decide +kernel
theorem d_L_law_731 : decode (pw_cc cx_L_law) 731 = .ok (.istore 6, 2) := by decide +kernel
theorem d_L_law_733 : decode (pw_cc cx_L_law) 733 = .ok (.aload_n 2, 1) := by decide +kernel
theorem d_L_law_734 : decode (pw_cc cx_L_law) 734 = .ok (.invokevirtual 125, 3) := by decide +kernel
theorem d_L_law_737 : decode (pw_cc cx_L_law) 737 = .ok (.iload 5, 2) := by decide +kernel
theorem d_L_law_739 : decode (pw_cc cx_L_law) 739 = .ok (.if_icmp .eq 5, 3) := by decide +kernel
theorem d_L_law_742 : decode (pw_cc cx_L_law) 742 = .ok (.iconst 0, 1) := by decide +kernel
theorem d_L_law_743 : decode (pw_cc cx_L_law) 743 = .ok (.ireturn, 1) := by decide +kernel
theorem d_L_law_744 : decode (pw_cc cx_L_law) 744 = .ok (.iload 5, 2) := by decide +kernel
theorem d_L_law_746 : decode (pw_cc cx_L_law) 746 = .ok (.ifCond .ne 15, 3) := by decide +kernel
theorem d_L_law_749 : decode (pw_cc cx_L_law) 749 = .ok (.aload_n 3, 1) := by decide +kernel
theorem d_L_law_750 : decode (pw_cc cx_L_law) 750 = .ok (.iconst 0, 1) := by decide +kernel
theorem d_L_law_751 : decode (pw_cc cx_L_law) 751 = .ok (.laload, 1) := by decide +kernel
theorem d_L_law_752 : decode (pw_cc cx_L_law) 752 = .ok (.iload 6, 2) := by decide +kernel
theorem d_L_law_754 : decode (pw_cc cx_L_law) 754 = .ok (.i2l, 1) := by decide +kernel
theorem d_L_law_755 : decode (pw_cc cx_L_law) 755 = .ok (.lcmp, 1) := by decide +kernel
theorem d_L_law_756 : decode (pw_cc cx_L_law) 756 = .ok (.ifCond .eq 5, 3) := by decide +kernel
theorem d_L_law_759 : decode (pw_cc cx_L_law) 759 = .ok (.iconst 0, 1) := by decide +kernel
theorem d_L_law_760 : decode (pw_cc cx_L_law) 760 = .ok (.ireturn, 1) := by decide +kernel
theorem d_L_law_761 : decode (pw_cc cx_L_law) 761 = .ok (.goto 1560, 3) := by decide +kernel
theorem d_L_law_764 : decode (pw_cc cx_L_law) 764 = .ok (.aload_n 1, 1) := by decide +kernel
theorem d_L_law_765 : decode (pw_cc cx_L_law) 765 = .ok (.aload_n 0, 1) := by decide +kernel
theorem d_L_law_766 : decode (pw_cc cx_L_law) 766 = .ok (.iload 4, 2) := by decide +kernel
theorem d_L_law_768 : decode (pw_cc cx_L_law) 768 = .ok (.iconst 1, 1) := by decide +kernel
theorem d_L_law_769 : decode (pw_cc cx_L_law) 769 = .ok (.iadd, 1) := by decide +kernel
theorem d_L_law_770 : decode (pw_cc cx_L_law) 770 = .ok (.iaload, 1) := by decide +kernel
theorem d_L_law_771 : decode (pw_cc cx_L_law) 771 = .ok (.aload_n 3, 1) := by decide +kernel
theorem d_L_law_772 : decode (pw_cc cx_L_law) 772 = .ok (.invokestatic 152, 3) := by decide +kernel
theorem d_L_law_775 : decode (pw_cc cx_L_law) 775 = .ok (.istore 5, 2) := by decide +kernel
theorem d_L_law_777 : decode (pw_cc cx_L_law) 777 = .ok (.aload_n 2, 1) := by decide +kernel
theorem d_L_law_778 : decode (pw_cc cx_L_law) 778 = .ok (.aload_n 0, 1) := by decide +kernel
theorem d_L_law_779 : decode (pw_cc cx_L_law) 779 = .ok (.iload 4, 2) := by decide +kernel
theorem d_L_law_781 : decode (pw_cc cx_L_law) 781 = .ok (.iconst 1, 1) := by decide +kernel
theorem d_L_law_782 : decode (pw_cc cx_L_law) 782 = .ok (.iadd, 1) := by decide +kernel
theorem d_L_law_783 : decode (pw_cc cx_L_law) 783 = .ok (.iaload, 1) := by decide +kernel
theorem d_L_law_784 : decode (pw_cc cx_L_law) 784 = .ok (.invokevirtual 154, 3) := by decide +kernel
theorem d_L_law_787 : decode (pw_cc cx_L_law) 787 = .ok (.istore 6, 2) := by decide +kernel
theorem d_L_law_789 : decode (pw_cc cx_L_law) 789 = .ok (.aload_n 2, 1) := by decide +kernel
theorem d_L_law_790 : decode (pw_cc cx_L_law) 790 = .ok (.invokevirtual 125, 3) := by decide +kernel
theorem d_L_law_793 : decode (pw_cc cx_L_law) 793 = .ok (.iload 5, 2) := by decide +kernel
theorem d_L_law_795 : decode (pw_cc cx_L_law) 795 = .ok (.if_icmp .eq 5, 3) := by decide +kernel
theorem d_L_law_798 : decode (pw_cc cx_L_law) 798 = .ok (.iconst 0, 1) := by decide +kernel
theorem d_L_law_799 : decode (pw_cc cx_L_law) 799 = .ok (.ireturn, 1) := by decide +kernel
theorem d_L_law_800 : decode (pw_cc cx_L_law) 800 = .ok (.iload 5, 2) := by decide +kernel
theorem d_L_law_802 : decode (pw_cc cx_L_law) 802 = .ok (.ifCond .ne 15, 3) := by decide +kernel
theorem d_L_law_805 : decode (pw_cc cx_L_law) 805 = .ok (.aload_n 3, 1) := by decide +kernel
theorem d_L_law_806 : decode (pw_cc cx_L_law) 806 = .ok (.iconst 0, 1) := by decide +kernel
theorem d_L_law_807 : decode (pw_cc cx_L_law) 807 = .ok (.laload, 1) := by decide +kernel
theorem d_L_law_808 : decode (pw_cc cx_L_law) 808 = .ok (.iload 6, 2) := by decide +kernel
theorem d_L_law_810 : decode (pw_cc cx_L_law) 810 = .ok (.i2l, 1) := by decide +kernel
theorem d_L_law_811 : decode (pw_cc cx_L_law) 811 = .ok (.lcmp, 1) := by decide +kernel
theorem d_L_law_812 : decode (pw_cc cx_L_law) 812 = .ok (.ifCond .eq 5, 3) := by decide +kernel
theorem d_L_law_815 : decode (pw_cc cx_L_law) 815 = .ok (.iconst 0, 1) := by decide +kernel
theorem d_L_law_816 : decode (pw_cc cx_L_law) 816 = .ok (.ireturn, 1) := by decide +kernel
theorem d_L_law_817 : decode (pw_cc cx_L_law) 817 = .ok (.goto 1504, 3) := by decide +kernel
theorem d_L_law_820 : decode (pw_cc cx_L_law) 820 = .ok (.aload_n 1, 1) := by decide +kernel
theorem d_L_law_821 : decode (pw_cc cx_L_law) 821 = .ok (.aload_n 0, 1) := by decide +kernel
theorem d_L_law_822 : decode (pw_cc cx_L_law) 822 = .ok (.iload 4, 2) := by decide +kernel
theorem d_L_law_824 : decode (pw_cc cx_L_law) 824 = .ok (.iconst 1, 1) := by decide +kernel
theorem d_L_law_825 : decode (pw_cc cx_L_law) 825 = .ok (.iadd, 1) := by decide +kernel
theorem d_L_law_826 : decode (pw_cc cx_L_law) 826 = .ok (.iaload, 1) := by decide +kernel
theorem d_L_law_827 : decode (pw_cc cx_L_law) 827 = .ok (.aload_n 0, 1) := by decide +kernel
theorem d_L_law_828 : decode (pw_cc cx_L_law) 828 = .ok (.iload 4, 2) := by decide +kernel
theorem d_L_law_830 : decode (pw_cc cx_L_law) 830 = .ok (.iconst 2, 1) := by decide +kernel
theorem d_L_law_831 : decode (pw_cc cx_L_law) 831 = .ok (.iadd, 1) := by decide +kernel
theorem d_L_law_832 : decode (pw_cc cx_L_law) 832 = .ok (.iaload, 1) := by decide +kernel
theorem d_L_law_833 : decode (pw_cc cx_L_law) 833 = .ok (.aload_n 0, 1) := by decide +kernel
theorem d_L_law_834 : decode (pw_cc cx_L_law) 834 = .ok (.iload 4, 2) := by decide +kernel
theorem d_L_law_836 : decode (pw_cc cx_L_law) 836 = .ok (.iconst 3, 1) := by decide +kernel
theorem d_L_law_837 : decode (pw_cc cx_L_law) 837 = .ok (.iadd, 1) := by decide +kernel
theorem d_L_law_838 : decode (pw_cc cx_L_law) 838 = .ok (.iaload, 1) := by decide +kernel
theorem d_L_law_839 : decode (pw_cc cx_L_law) 839 = .ok (.aload_n 0, 1) := by decide +kernel
theorem d_L_law_840 : decode (pw_cc cx_L_law) 840 = .ok (.iload 4, 2) := by decide +kernel
theorem d_L_law_842 : decode (pw_cc cx_L_law) 842 = .ok (.iconst 4, 1) := by decide +kernel
theorem d_L_law_843 : decode (pw_cc cx_L_law) 843 = .ok (.iadd, 1) := by decide +kernel
theorem d_L_law_844 : decode (pw_cc cx_L_law) 844 = .ok (.iaload, 1) := by decide +kernel
theorem d_L_law_845 : decode (pw_cc cx_L_law) 845 = .ok (.aload_n 3, 1) := by decide +kernel
theorem d_L_law_846 : decode (pw_cc cx_L_law) 846 = .ok (.invokestatic 155, 3) := by decide +kernel
theorem d_L_law_849 : decode (pw_cc cx_L_law) 849 = .ok (.istore 5, 2) := by decide +kernel
theorem d_L_law_851 : decode (pw_cc cx_L_law) 851 = .ok (.aload_n 2, 1) := by decide +kernel
theorem d_L_law_852 : decode (pw_cc cx_L_law) 852 = .ok (.aload_n 0, 1) := by decide +kernel
theorem d_L_law_853 : decode (pw_cc cx_L_law) 853 = .ok (.iload 4, 2) := by decide +kernel
theorem d_L_law_855 : decode (pw_cc cx_L_law) 855 = .ok (.iconst 1, 1) := by decide +kernel
theorem d_L_law_856 : decode (pw_cc cx_L_law) 856 = .ok (.iadd, 1) := by decide +kernel
theorem d_L_law_857 : decode (pw_cc cx_L_law) 857 = .ok (.iaload, 1) := by decide +kernel
theorem d_L_law_858 : decode (pw_cc cx_L_law) 858 = .ok (.aload_n 0, 1) := by decide +kernel
theorem d_L_law_859 : decode (pw_cc cx_L_law) 859 = .ok (.iload 4, 2) := by decide +kernel
theorem d_L_law_861 : decode (pw_cc cx_L_law) 861 = .ok (.iconst 2, 1) := by decide +kernel
theorem d_L_law_862 : decode (pw_cc cx_L_law) 862 = .ok (.iadd, 1) := by decide +kernel
theorem d_L_law_863 : decode (pw_cc cx_L_law) 863 = .ok (.iaload, 1) := by decide +kernel
theorem d_L_law_864 : decode (pw_cc cx_L_law) 864 = .ok (.aload_n 0, 1) := by decide +kernel
theorem d_L_law_865 : decode (pw_cc cx_L_law) 865 = .ok (.iload 4, 2) := by decide +kernel
theorem d_L_law_867 : decode (pw_cc cx_L_law) 867 = .ok (.iconst 3, 1) := by decide +kernel
theorem d_L_law_868 : decode (pw_cc cx_L_law) 868 = .ok (.iadd, 1) := by decide +kernel
theorem d_L_law_869 : decode (pw_cc cx_L_law) 869 = .ok (.iaload, 1) := by decide +kernel
theorem d_L_law_870 : decode (pw_cc cx_L_law) 870 = .ok (.aload_n 0, 1) := by decide +kernel
theorem d_L_law_871 : decode (pw_cc cx_L_law) 871 = .ok (.iload 4, 2) := by decide +kernel
theorem d_L_law_873 : decode (pw_cc cx_L_law) 873 = .ok (.iconst 4, 1) := by decide +kernel
theorem d_L_law_874 : decode (pw_cc cx_L_law) 874 = .ok (.iadd, 1) := by decide +kernel
theorem d_L_law_875 : decode (pw_cc cx_L_law) 875 = .ok (.iaload, 1) := by decide +kernel
theorem d_L_law_876 : decode (pw_cc cx_L_law) 876 = .ok (.invokevirtual 157, 3) := by decide +kernel
theorem d_L_law_879 : decode (pw_cc cx_L_law) 879 = .ok (.istore 6, 2) := by decide +kernel
theorem d_L_law_881 : decode (pw_cc cx_L_law) 881 = .ok (.aload_n 2, 1) := by decide +kernel
theorem d_L_law_882 : decode (pw_cc cx_L_law) 882 = .ok (.invokevirtual 125, 3) := by decide +kernel
theorem d_L_law_885 : decode (pw_cc cx_L_law) 885 = .ok (.iload 5, 2) := by decide +kernel
theorem d_L_law_887 : decode (pw_cc cx_L_law) 887 = .ok (.if_icmp .eq 5, 3) := by decide +kernel
theorem d_L_law_890 : decode (pw_cc cx_L_law) 890 = .ok (.iconst 0, 1) := by decide +kernel
theorem d_L_law_891 : decode (pw_cc cx_L_law) 891 = .ok (.ireturn, 1) := by decide +kernel
theorem d_L_law_892 : decode (pw_cc cx_L_law) 892 = .ok (.iload 5, 2) := by decide +kernel
theorem d_L_law_894 : decode (pw_cc cx_L_law) 894 = .ok (.ifCond .ne 15, 3) := by decide +kernel
theorem d_L_law_897 : decode (pw_cc cx_L_law) 897 = .ok (.aload_n 3, 1) := by decide +kernel
theorem d_L_law_898 : decode (pw_cc cx_L_law) 898 = .ok (.iconst 0, 1) := by decide +kernel
theorem d_L_law_899 : decode (pw_cc cx_L_law) 899 = .ok (.laload, 1) := by decide +kernel
theorem d_L_law_900 : decode (pw_cc cx_L_law) 900 = .ok (.iload 6, 2) := by decide +kernel
theorem d_L_law_902 : decode (pw_cc cx_L_law) 902 = .ok (.i2l, 1) := by decide +kernel
theorem d_L_law_903 : decode (pw_cc cx_L_law) 903 = .ok (.lcmp, 1) := by decide +kernel
theorem d_L_law_904 : decode (pw_cc cx_L_law) 904 = .ok (.ifCond .eq 5, 3) := by decide +kernel
theorem d_L_law_907 : decode (pw_cc cx_L_law) 907 = .ok (.iconst 0, 1) := by decide +kernel
theorem d_L_law_908 : decode (pw_cc cx_L_law) 908 = .ok (.ireturn, 1) := by decide +kernel
theorem d_L_law_909 : decode (pw_cc cx_L_law) 909 = .ok (.goto 1412, 3) := by decide +kernel
theorem d_L_law_912 : decode (pw_cc cx_L_law) 912 = .ok (.aload_n 1, 1) := by decide +kernel
theorem d_L_law_913 : decode (pw_cc cx_L_law) 913 = .ok (.aload_n 0, 1) := by decide +kernel
theorem d_L_law_914 : decode (pw_cc cx_L_law) 914 = .ok (.iload 4, 2) := by decide +kernel
theorem d_L_law_916 : decode (pw_cc cx_L_law) 916 = .ok (.iconst 1, 1) := by decide +kernel
theorem d_L_law_917 : decode (pw_cc cx_L_law) 917 = .ok (.iadd, 1) := by decide +kernel
theorem d_L_law_918 : decode (pw_cc cx_L_law) 918 = .ok (.iaload, 1) := by decide +kernel
theorem d_L_law_919 : decode (pw_cc cx_L_law) 919 = .ok (.aload_n 3, 1) := by decide +kernel
theorem d_L_law_920 : decode (pw_cc cx_L_law) 920 = .ok (.invokestatic 158, 3) := by decide +kernel
theorem d_L_law_923 : decode (pw_cc cx_L_law) 923 = .ok (.istore 5, 2) := by decide +kernel
theorem d_L_law_925 : decode (pw_cc cx_L_law) 925 = .ok (.aload_n 2, 1) := by decide +kernel
theorem d_L_law_926 : decode (pw_cc cx_L_law) 926 = .ok (.aload_n 0, 1) := by decide +kernel
theorem d_L_law_927 : decode (pw_cc cx_L_law) 927 = .ok (.iload 4, 2) := by decide +kernel
theorem d_L_law_929 : decode (pw_cc cx_L_law) 929 = .ok (.iconst 1, 1) := by decide +kernel
theorem d_L_law_930 : decode (pw_cc cx_L_law) 930 = .ok (.iadd, 1) := by decide +kernel
theorem d_L_law_931 : decode (pw_cc cx_L_law) 931 = .ok (.iaload, 1) := by decide +kernel
theorem d_L_law_932 : decode (pw_cc cx_L_law) 932 = .ok (.invokevirtual 160, 3) := by decide +kernel
theorem d_L_law_935 : decode (pw_cc cx_L_law) 935 = .ok (.istore 6, 2) := by decide +kernel
theorem d_L_law_937 : decode (pw_cc cx_L_law) 937 = .ok (.aload_n 2, 1) := by decide +kernel
theorem d_L_law_938 : decode (pw_cc cx_L_law) 938 = .ok (.invokevirtual 125, 3) := by decide +kernel
theorem d_L_law_941 : decode (pw_cc cx_L_law) 941 = .ok (.iload 5, 2) := by decide +kernel
theorem d_L_law_943 : decode (pw_cc cx_L_law) 943 = .ok (.if_icmp .eq 5, 3) := by decide +kernel
theorem d_L_law_946 : decode (pw_cc cx_L_law) 946 = .ok (.iconst 0, 1) := by decide +kernel
theorem d_L_law_947 : decode (pw_cc cx_L_law) 947 = .ok (.ireturn, 1) := by decide +kernel
theorem d_L_law_948 : decode (pw_cc cx_L_law) 948 = .ok (.iload 5, 2) := by decide +kernel
theorem d_L_law_950 : decode (pw_cc cx_L_law) 950 = .ok (.ifCond .ne 22, 3) := by decide +kernel
theorem d_L_law_953 : decode (pw_cc cx_L_law) 953 = .ok (.aload_n 3, 1) := by decide +kernel
theorem d_L_law_954 : decode (pw_cc cx_L_law) 954 = .ok (.iconst 0, 1) := by decide +kernel
theorem d_L_law_955 : decode (pw_cc cx_L_law) 955 = .ok (.laload, 1) := by decide +kernel
theorem d_L_law_956 : decode (pw_cc cx_L_law) 956 = .ok (.iload 6, 2) := by decide +kernel
theorem d_L_law_958 : decode (pw_cc cx_L_law) 958 = .ok (.ifCond .eq 7, 3) := by decide +kernel
theorem d_L_law_961 : decode (pw_cc cx_L_law) 961 = .ok (.lconst 1, 1) := by decide +kernel
theorem d_L_law_962 : decode (pw_cc cx_L_law) 962 = .ok (.goto 4, 3) := by decide +kernel
theorem d_L_law_965 : decode (pw_cc cx_L_law) 965 = .ok (.lconst 0, 1) := by decide +kernel
theorem d_L_law_966 : decode (pw_cc cx_L_law) 966 = .ok (.lcmp, 1) := by decide +kernel
theorem d_L_law_967 : decode (pw_cc cx_L_law) 967 = .ok (.ifCond .eq 5, 3) := by decide +kernel
theorem d_L_law_970 : decode (pw_cc cx_L_law) 970 = .ok (.iconst 0, 1) := by decide +kernel
theorem d_L_law_971 : decode (pw_cc cx_L_law) 971 = .ok (.ireturn, 1) := by decide +kernel
theorem d_L_law_972 : decode (pw_cc cx_L_law) 972 = .ok (.goto 1349, 3) := by decide +kernel
theorem d_L_law_975 : decode (pw_cc cx_L_law) 975 = .ok (.aload_n 1, 1) := by decide +kernel
theorem d_L_law_976 : decode (pw_cc cx_L_law) 976 = .ok (.aload_n 0, 1) := by decide +kernel
theorem d_L_law_977 : decode (pw_cc cx_L_law) 977 = .ok (.iload 4, 2) := by decide +kernel
theorem d_L_law_979 : decode (pw_cc cx_L_law) 979 = .ok (.iconst 1, 1) := by decide +kernel
theorem d_L_law_980 : decode (pw_cc cx_L_law) 980 = .ok (.iadd, 1) := by decide +kernel
theorem d_L_law_981 : decode (pw_cc cx_L_law) 981 = .ok (.iaload, 1) := by decide +kernel
theorem d_L_law_982 : decode (pw_cc cx_L_law) 982 = .ok (.aload_n 0, 1) := by decide +kernel
theorem d_L_law_983 : decode (pw_cc cx_L_law) 983 = .ok (.iload 4, 2) := by decide +kernel
theorem d_L_law_985 : decode (pw_cc cx_L_law) 985 = .ok (.iconst 2, 1) := by decide +kernel
theorem d_L_law_986 : decode (pw_cc cx_L_law) 986 = .ok (.iadd, 1) := by decide +kernel
theorem d_L_law_987 : decode (pw_cc cx_L_law) 987 = .ok (.iaload, 1) := by decide +kernel
theorem d_L_law_988 : decode (pw_cc cx_L_law) 988 = .ok (.aload_n 0, 1) := by decide +kernel
theorem d_L_law_989 : decode (pw_cc cx_L_law) 989 = .ok (.iload 4, 2) := by decide +kernel
theorem d_L_law_991 : decode (pw_cc cx_L_law) 991 = .ok (.iconst 3, 1) := by decide +kernel
theorem d_L_law_992 : decode (pw_cc cx_L_law) 992 = .ok (.iadd, 1) := by decide +kernel
theorem d_L_law_993 : decode (pw_cc cx_L_law) 993 = .ok (.iaload, 1) := by decide +kernel
theorem d_L_law_994 : decode (pw_cc cx_L_law) 994 = .ok (.aload_n 3, 1) := by decide +kernel
theorem d_L_law_995 : decode (pw_cc cx_L_law) 995 = .ok (.invokestatic 161, 3) := by decide +kernel
theorem d_L_law_998 : decode (pw_cc cx_L_law) 998 = .ok (.istore 5, 2) := by decide +kernel
theorem d_L_law_1000 : decode (pw_cc cx_L_law) 1000 = .ok (.aload_n 2, 1) := by decide +kernel
theorem d_L_law_1001 : decode (pw_cc cx_L_law) 1001 = .ok (.aload_n 0, 1) := by decide +kernel
theorem d_L_law_1002 : decode (pw_cc cx_L_law) 1002 = .ok (.iload 4, 2) := by decide +kernel
theorem d_L_law_1004 : decode (pw_cc cx_L_law) 1004 = .ok (.iconst 1, 1) := by decide +kernel
theorem d_L_law_1005 : decode (pw_cc cx_L_law) 1005 = .ok (.iadd, 1) := by decide +kernel
theorem d_L_law_1006 : decode (pw_cc cx_L_law) 1006 = .ok (.iaload, 1) := by decide +kernel
theorem d_L_law_1007 : decode (pw_cc cx_L_law) 1007 = .ok (.aload_n 0, 1) := by decide +kernel
theorem d_L_law_1008 : decode (pw_cc cx_L_law) 1008 = .ok (.iload 4, 2) := by decide +kernel
theorem d_L_law_1010 : decode (pw_cc cx_L_law) 1010 = .ok (.iconst 2, 1) := by decide +kernel
theorem d_L_law_1011 : decode (pw_cc cx_L_law) 1011 = .ok (.iadd, 1) := by decide +kernel
theorem d_L_law_1012 : decode (pw_cc cx_L_law) 1012 = .ok (.iaload, 1) := by decide +kernel
theorem d_L_law_1013 : decode (pw_cc cx_L_law) 1013 = .ok (.aload_n 0, 1) := by decide +kernel
theorem d_L_law_1014 : decode (pw_cc cx_L_law) 1014 = .ok (.iload 4, 2) := by decide +kernel
theorem d_L_law_1016 : decode (pw_cc cx_L_law) 1016 = .ok (.iconst 3, 1) := by decide +kernel
theorem d_L_law_1017 : decode (pw_cc cx_L_law) 1017 = .ok (.iadd, 1) := by decide +kernel
theorem d_L_law_1018 : decode (pw_cc cx_L_law) 1018 = .ok (.iaload, 1) := by decide +kernel
theorem d_L_law_1019 : decode (pw_cc cx_L_law) 1019 = .ok (.invokevirtual 163, 3) := by decide +kernel
theorem d_L_law_1022 : decode (pw_cc cx_L_law) 1022 = .ok (.istore 6, 2) := by decide +kernel
theorem d_L_law_1024 : decode (pw_cc cx_L_law) 1024 = .ok (.aload_n 2, 1) := by decide +kernel
theorem d_L_law_1025 : decode (pw_cc cx_L_law) 1025 = .ok (.invokevirtual 125, 3) := by decide +kernel
theorem d_L_law_1028 : decode (pw_cc cx_L_law) 1028 = .ok (.iload 5, 2) := by decide +kernel
theorem d_L_law_1030 : decode (pw_cc cx_L_law) 1030 = .ok (.if_icmp .eq 5, 3) := by decide +kernel
theorem d_L_law_1033 : decode (pw_cc cx_L_law) 1033 = .ok (.iconst 0, 1) := by decide +kernel
theorem d_L_law_1034 : decode (pw_cc cx_L_law) 1034 = .ok (.ireturn, 1) := by decide +kernel
theorem d_L_law_1035 : decode (pw_cc cx_L_law) 1035 = .ok (.iload 5, 2) := by decide +kernel
theorem d_L_law_1037 : decode (pw_cc cx_L_law) 1037 = .ok (.ifCond .ne 15, 3) := by decide +kernel
theorem d_L_law_1040 : decode (pw_cc cx_L_law) 1040 = .ok (.aload_n 3, 1) := by decide +kernel
theorem d_L_law_1041 : decode (pw_cc cx_L_law) 1041 = .ok (.iconst 0, 1) := by decide +kernel
theorem d_L_law_1042 : decode (pw_cc cx_L_law) 1042 = .ok (.laload, 1) := by decide +kernel
theorem d_L_law_1043 : decode (pw_cc cx_L_law) 1043 = .ok (.iload 6, 2) := by decide +kernel
theorem d_L_law_1045 : decode (pw_cc cx_L_law) 1045 = .ok (.i2l, 1) := by decide +kernel
theorem d_L_law_1046 : decode (pw_cc cx_L_law) 1046 = .ok (.lcmp, 1) := by decide +kernel
theorem d_L_law_1047 : decode (pw_cc cx_L_law) 1047 = .ok (.ifCond .eq 5, 3) := by decide +kernel
theorem d_L_law_1050 : decode (pw_cc cx_L_law) 1050 = .ok (.iconst 0, 1) := by decide +kernel
theorem d_L_law_1051 : decode (pw_cc cx_L_law) 1051 = .ok (.ireturn, 1) := by decide +kernel
theorem d_L_law_1052 : decode (pw_cc cx_L_law) 1052 = .ok (.goto 1269, 3) := by decide +kernel
theorem d_L_law_1055 : decode (pw_cc cx_L_law) 1055 = .ok (.aload_n 1, 1) := by decide +kernel
theorem d_L_law_1056 : decode (pw_cc cx_L_law) 1056 = .ok (.aload_n 0, 1) := by decide +kernel
theorem d_L_law_1057 : decode (pw_cc cx_L_law) 1057 = .ok (.iload 4, 2) := by decide +kernel
theorem d_L_law_1059 : decode (pw_cc cx_L_law) 1059 = .ok (.iconst 1, 1) := by decide +kernel
theorem d_L_law_1060 : decode (pw_cc cx_L_law) 1060 = .ok (.iadd, 1) := by decide +kernel
theorem d_L_law_1061 : decode (pw_cc cx_L_law) 1061 = .ok (.iaload, 1) := by decide +kernel
theorem d_L_law_1062 : decode (pw_cc cx_L_law) 1062 = .ok (.aload_n 3, 1) := by decide +kernel
theorem d_L_law_1063 : decode (pw_cc cx_L_law) 1063 = .ok (.invokestatic 164, 3) := by decide +kernel
theorem d_L_law_1066 : decode (pw_cc cx_L_law) 1066 = .ok (.istore 5, 2) := by decide +kernel
theorem d_L_law_1068 : decode (pw_cc cx_L_law) 1068 = .ok (.aload_n 2, 1) := by decide +kernel
theorem d_L_law_1069 : decode (pw_cc cx_L_law) 1069 = .ok (.aload_n 0, 1) := by decide +kernel
theorem d_L_law_1070 : decode (pw_cc cx_L_law) 1070 = .ok (.iload 4, 2) := by decide +kernel
theorem d_L_law_1072 : decode (pw_cc cx_L_law) 1072 = .ok (.iconst 1, 1) := by decide +kernel
theorem d_L_law_1073 : decode (pw_cc cx_L_law) 1073 = .ok (.iadd, 1) := by decide +kernel
theorem d_L_law_1074 : decode (pw_cc cx_L_law) 1074 = .ok (.iaload, 1) := by decide +kernel
theorem d_L_law_1075 : decode (pw_cc cx_L_law) 1075 = .ok (.invokevirtual 166, 3) := by decide +kernel
theorem d_L_law_1078 : decode (pw_cc cx_L_law) 1078 = .ok (.istore 6, 2) := by decide +kernel
theorem d_L_law_1080 : decode (pw_cc cx_L_law) 1080 = .ok (.aload_n 2, 1) := by decide +kernel
theorem d_L_law_1081 : decode (pw_cc cx_L_law) 1081 = .ok (.invokevirtual 125, 3) := by decide +kernel
theorem d_L_law_1084 : decode (pw_cc cx_L_law) 1084 = .ok (.iload 5, 2) := by decide +kernel
theorem d_L_law_1086 : decode (pw_cc cx_L_law) 1086 = .ok (.if_icmp .eq 5, 3) := by decide +kernel
theorem d_L_law_1089 : decode (pw_cc cx_L_law) 1089 = .ok (.iconst 0, 1) := by decide +kernel
theorem d_L_law_1090 : decode (pw_cc cx_L_law) 1090 = .ok (.ireturn, 1) := by decide +kernel
theorem d_L_law_1091 : decode (pw_cc cx_L_law) 1091 = .ok (.iload 5, 2) := by decide +kernel
theorem d_L_law_1093 : decode (pw_cc cx_L_law) 1093 = .ok (.ifCond .ne 15, 3) := by decide +kernel
theorem d_L_law_1096 : decode (pw_cc cx_L_law) 1096 = .ok (.aload_n 3, 1) := by decide +kernel
theorem d_L_law_1097 : decode (pw_cc cx_L_law) 1097 = .ok (.iconst 0, 1) := by decide +kernel
theorem d_L_law_1098 : decode (pw_cc cx_L_law) 1098 = .ok (.laload, 1) := by decide +kernel
theorem d_L_law_1099 : decode (pw_cc cx_L_law) 1099 = .ok (.iload 6, 2) := by decide +kernel
theorem d_L_law_1101 : decode (pw_cc cx_L_law) 1101 = .ok (.i2l, 1) := by decide +kernel
theorem d_L_law_1102 : decode (pw_cc cx_L_law) 1102 = .ok (.lcmp, 1) := by decide +kernel
theorem d_L_law_1103 : decode (pw_cc cx_L_law) 1103 = .ok (.ifCond .eq 5, 3) := by decide +kernel
theorem d_L_law_1106 : decode (pw_cc cx_L_law) 1106 = .ok (.iconst 0, 1) := by decide +kernel
theorem d_L_law_1107 : decode (pw_cc cx_L_law) 1107 = .ok (.ireturn, 1) := by decide +kernel
theorem d_L_law_1108 : decode (pw_cc cx_L_law) 1108 = .ok (.goto 1213, 3) := by decide +kernel
theorem d_L_law_1111 : decode (pw_cc cx_L_law) 1111 = .ok (.aload_n 1, 1) := by decide +kernel
theorem d_L_law_1112 : decode (pw_cc cx_L_law) 1112 = .ok (.aload_n 0, 1) := by decide +kernel
theorem d_L_law_1113 : decode (pw_cc cx_L_law) 1113 = .ok (.iload 4, 2) := by decide +kernel
theorem d_L_law_1115 : decode (pw_cc cx_L_law) 1115 = .ok (.iconst 1, 1) := by decide +kernel
theorem d_L_law_1116 : decode (pw_cc cx_L_law) 1116 = .ok (.iadd, 1) := by decide +kernel
theorem d_L_law_1117 : decode (pw_cc cx_L_law) 1117 = .ok (.iaload, 1) := by decide +kernel
theorem d_L_law_1118 : decode (pw_cc cx_L_law) 1118 = .ok (.aload_n 0, 1) := by decide +kernel
theorem d_L_law_1119 : decode (pw_cc cx_L_law) 1119 = .ok (.iload 4, 2) := by decide +kernel
theorem d_L_law_1121 : decode (pw_cc cx_L_law) 1121 = .ok (.iconst 2, 1) := by decide +kernel
theorem d_L_law_1122 : decode (pw_cc cx_L_law) 1122 = .ok (.iadd, 1) := by decide +kernel
theorem d_L_law_1123 : decode (pw_cc cx_L_law) 1123 = .ok (.iaload, 1) := by decide +kernel
theorem d_L_law_1124 : decode (pw_cc cx_L_law) 1124 = .ok (.aload_n 3, 1) := by decide +kernel
theorem d_L_law_1125 : decode (pw_cc cx_L_law) 1125 = .ok (.invokestatic 167, 3) := by decide +kernel
theorem d_L_law_1128 : decode (pw_cc cx_L_law) 1128 = .ok (.istore 5, 2) := by decide +kernel
theorem d_L_law_1130 : decode (pw_cc cx_L_law) 1130 = .ok (.aload_n 2, 1) := by decide +kernel
theorem d_L_law_1131 : decode (pw_cc cx_L_law) 1131 = .ok (.aload_n 0, 1) := by decide +kernel
theorem d_L_law_1132 : decode (pw_cc cx_L_law) 1132 = .ok (.iload 4, 2) := by decide +kernel
theorem d_L_law_1134 : decode (pw_cc cx_L_law) 1134 = .ok (.iconst 1, 1) := by decide +kernel
theorem d_L_law_1135 : decode (pw_cc cx_L_law) 1135 = .ok (.iadd, 1) := by decide +kernel
theorem d_L_law_1136 : decode (pw_cc cx_L_law) 1136 = .ok (.iaload, 1) := by decide +kernel
theorem d_L_law_1137 : decode (pw_cc cx_L_law) 1137 = .ok (.aload_n 0, 1) := by decide +kernel
theorem d_L_law_1138 : decode (pw_cc cx_L_law) 1138 = .ok (.iload 4, 2) := by decide +kernel
theorem d_L_law_1140 : decode (pw_cc cx_L_law) 1140 = .ok (.iconst 2, 1) := by decide +kernel
theorem d_L_law_1141 : decode (pw_cc cx_L_law) 1141 = .ok (.iadd, 1) := by decide +kernel
theorem d_L_law_1142 : decode (pw_cc cx_L_law) 1142 = .ok (.iaload, 1) := by decide +kernel
theorem d_L_law_1143 : decode (pw_cc cx_L_law) 1143 = .ok (.invokevirtual 169, 3) := by decide +kernel
theorem d_L_law_1146 : decode (pw_cc cx_L_law) 1146 = .ok (.istore 6, 2) := by decide +kernel
theorem d_L_law_1148 : decode (pw_cc cx_L_law) 1148 = .ok (.aload_n 2, 1) := by decide +kernel
theorem d_L_law_1149 : decode (pw_cc cx_L_law) 1149 = .ok (.invokevirtual 125, 3) := by decide +kernel
theorem d_L_law_1152 : decode (pw_cc cx_L_law) 1152 = .ok (.iload 5, 2) := by decide +kernel
theorem d_L_law_1154 : decode (pw_cc cx_L_law) 1154 = .ok (.if_icmp .eq 5, 3) := by decide +kernel
theorem d_L_law_1157 : decode (pw_cc cx_L_law) 1157 = .ok (.iconst 0, 1) := by decide +kernel
theorem d_L_law_1158 : decode (pw_cc cx_L_law) 1158 = .ok (.ireturn, 1) := by decide +kernel
theorem d_L_law_1159 : decode (pw_cc cx_L_law) 1159 = .ok (.iload 5, 2) := by decide +kernel
theorem d_L_law_1161 : decode (pw_cc cx_L_law) 1161 = .ok (.ifCond .ne 15, 3) := by decide +kernel
theorem d_L_law_1164 : decode (pw_cc cx_L_law) 1164 = .ok (.aload_n 3, 1) := by decide +kernel
theorem d_L_law_1165 : decode (pw_cc cx_L_law) 1165 = .ok (.iconst 0, 1) := by decide +kernel
theorem d_L_law_1166 : decode (pw_cc cx_L_law) 1166 = .ok (.laload, 1) := by decide +kernel
theorem d_L_law_1167 : decode (pw_cc cx_L_law) 1167 = .ok (.iload 6, 2) := by decide +kernel
theorem d_L_law_1169 : decode (pw_cc cx_L_law) 1169 = .ok (.i2l, 1) := by decide +kernel
theorem d_L_law_1170 : decode (pw_cc cx_L_law) 1170 = .ok (.lcmp, 1) := by decide +kernel
theorem d_L_law_1171 : decode (pw_cc cx_L_law) 1171 = .ok (.ifCond .eq 5, 3) := by decide +kernel
theorem d_L_law_1174 : decode (pw_cc cx_L_law) 1174 = .ok (.iconst 0, 1) := by decide +kernel
theorem d_L_law_1175 : decode (pw_cc cx_L_law) 1175 = .ok (.ireturn, 1) := by decide +kernel
theorem d_L_law_1176 : decode (pw_cc cx_L_law) 1176 = .ok (.goto 1145, 3) := by decide +kernel
theorem d_L_law_1179 : decode (pw_cc cx_L_law) 1179 = .ok (.aload_n 1, 1) := by decide +kernel
theorem d_L_law_1180 : decode (pw_cc cx_L_law) 1180 = .ok (.aload_n 0, 1) := by decide +kernel
theorem d_L_law_1181 : decode (pw_cc cx_L_law) 1181 = .ok (.iload 4, 2) := by decide +kernel
theorem d_L_law_1183 : decode (pw_cc cx_L_law) 1183 = .ok (.iconst 1, 1) := by decide +kernel
theorem d_L_law_1184 : decode (pw_cc cx_L_law) 1184 = .ok (.iadd, 1) := by decide +kernel
theorem d_L_law_1185 : decode (pw_cc cx_L_law) 1185 = .ok (.iaload, 1) := by decide +kernel
theorem d_L_law_1186 : decode (pw_cc cx_L_law) 1186 = .ok (.aload_n 3, 1) := by decide +kernel
theorem d_L_law_1187 : decode (pw_cc cx_L_law) 1187 = .ok (.invokestatic 170, 3) := by decide +kernel
theorem d_L_law_1190 : decode (pw_cc cx_L_law) 1190 = .ok (.istore 5, 2) := by decide +kernel
theorem d_L_law_1192 : decode (pw_cc cx_L_law) 1192 = .ok (.aload_n 2, 1) := by decide +kernel
theorem d_L_law_1193 : decode (pw_cc cx_L_law) 1193 = .ok (.aload_n 0, 1) := by decide +kernel
theorem d_L_law_1194 : decode (pw_cc cx_L_law) 1194 = .ok (.iload 4, 2) := by decide +kernel
theorem d_L_law_1196 : decode (pw_cc cx_L_law) 1196 = .ok (.iconst 1, 1) := by decide +kernel
theorem d_L_law_1197 : decode (pw_cc cx_L_law) 1197 = .ok (.iadd, 1) := by decide +kernel
theorem d_L_law_1198 : decode (pw_cc cx_L_law) 1198 = .ok (.iaload, 1) := by decide +kernel
theorem d_L_law_1199 : decode (pw_cc cx_L_law) 1199 = .ok (.invokevirtual 172, 3) := by decide +kernel
theorem d_L_law_1202 : decode (pw_cc cx_L_law) 1202 = .ok (.istore 6, 2) := by decide +kernel
theorem d_L_law_1204 : decode (pw_cc cx_L_law) 1204 = .ok (.aload_n 2, 1) := by decide +kernel
theorem d_L_law_1205 : decode (pw_cc cx_L_law) 1205 = .ok (.invokevirtual 125, 3) := by decide +kernel
theorem d_L_law_1208 : decode (pw_cc cx_L_law) 1208 = .ok (.iload 5, 2) := by decide +kernel
theorem d_L_law_1210 : decode (pw_cc cx_L_law) 1210 = .ok (.if_icmp .eq 5, 3) := by decide +kernel
theorem d_L_law_1213 : decode (pw_cc cx_L_law) 1213 = .ok (.iconst 0, 1) := by decide +kernel
theorem d_L_law_1214 : decode (pw_cc cx_L_law) 1214 = .ok (.ireturn, 1) := by decide +kernel
theorem d_L_law_1215 : decode (pw_cc cx_L_law) 1215 = .ok (.iload 5, 2) := by decide +kernel
theorem d_L_law_1217 : decode (pw_cc cx_L_law) 1217 = .ok (.ifCond .ne 15, 3) := by decide +kernel
theorem d_L_law_1220 : decode (pw_cc cx_L_law) 1220 = .ok (.aload_n 3, 1) := by decide +kernel
theorem d_L_law_1221 : decode (pw_cc cx_L_law) 1221 = .ok (.iconst 0, 1) := by decide +kernel
theorem d_L_law_1222 : decode (pw_cc cx_L_law) 1222 = .ok (.laload, 1) := by decide +kernel
theorem d_L_law_1223 : decode (pw_cc cx_L_law) 1223 = .ok (.iload 6, 2) := by decide +kernel
theorem d_L_law_1225 : decode (pw_cc cx_L_law) 1225 = .ok (.i2l, 1) := by decide +kernel
theorem d_L_law_1226 : decode (pw_cc cx_L_law) 1226 = .ok (.lcmp, 1) := by decide +kernel
theorem d_L_law_1227 : decode (pw_cc cx_L_law) 1227 = .ok (.ifCond .eq 5, 3) := by decide +kernel
theorem d_L_law_1230 : decode (pw_cc cx_L_law) 1230 = .ok (.iconst 0, 1) := by decide +kernel
theorem d_L_law_1231 : decode (pw_cc cx_L_law) 1231 = .ok (.ireturn, 1) := by decide +kernel
theorem d_L_law_1232 : decode (pw_cc cx_L_law) 1232 = .ok (.goto 1089, 3) := by decide +kernel
theorem d_L_law_1235 : decode (pw_cc cx_L_law) 1235 = .ok (.aload_n 1, 1) := by decide +kernel
theorem d_L_law_1236 : decode (pw_cc cx_L_law) 1236 = .ok (.aload_n 0, 1) := by decide +kernel
theorem d_L_law_1237 : decode (pw_cc cx_L_law) 1237 = .ok (.iload 4, 2) := by decide +kernel
theorem d_L_law_1239 : decode (pw_cc cx_L_law) 1239 = .ok (.iconst 1, 1) := by decide +kernel
theorem d_L_law_1240 : decode (pw_cc cx_L_law) 1240 = .ok (.iadd, 1) := by decide +kernel
theorem d_L_law_1241 : decode (pw_cc cx_L_law) 1241 = .ok (.iaload, 1) := by decide +kernel
theorem d_L_law_1242 : decode (pw_cc cx_L_law) 1242 = .ok (.aload_n 0, 1) := by decide +kernel
theorem d_L_law_1243 : decode (pw_cc cx_L_law) 1243 = .ok (.iload 4, 2) := by decide +kernel
theorem d_L_law_1245 : decode (pw_cc cx_L_law) 1245 = .ok (.iconst 2, 1) := by decide +kernel
theorem d_L_law_1246 : decode (pw_cc cx_L_law) 1246 = .ok (.iadd, 1) := by decide +kernel
theorem d_L_law_1247 : decode (pw_cc cx_L_law) 1247 = .ok (.iaload, 1) := by decide +kernel
theorem d_L_law_1248 : decode (pw_cc cx_L_law) 1248 = .ok (.aload_n 0, 1) := by decide +kernel
theorem d_L_law_1249 : decode (pw_cc cx_L_law) 1249 = .ok (.iload 4, 2) := by decide +kernel
theorem d_L_law_1251 : decode (pw_cc cx_L_law) 1251 = .ok (.iconst 3, 1) := by decide +kernel
theorem d_L_law_1252 : decode (pw_cc cx_L_law) 1252 = .ok (.iadd, 1) := by decide +kernel
theorem d_L_law_1253 : decode (pw_cc cx_L_law) 1253 = .ok (.iaload, 1) := by decide +kernel
theorem d_L_law_1254 : decode (pw_cc cx_L_law) 1254 = .ok (.aload_n 3, 1) := by decide +kernel
theorem d_L_law_1255 : decode (pw_cc cx_L_law) 1255 = .ok (.invokestatic 173, 3) := by decide +kernel
theorem d_L_law_1258 : decode (pw_cc cx_L_law) 1258 = .ok (.istore 5, 2) := by decide +kernel
theorem d_L_law_1260 : decode (pw_cc cx_L_law) 1260 = .ok (.aload_n 2, 1) := by decide +kernel
theorem d_L_law_1261 : decode (pw_cc cx_L_law) 1261 = .ok (.aload_n 0, 1) := by decide +kernel
theorem d_L_law_1262 : decode (pw_cc cx_L_law) 1262 = .ok (.iload 4, 2) := by decide +kernel
theorem d_L_law_1264 : decode (pw_cc cx_L_law) 1264 = .ok (.iconst 1, 1) := by decide +kernel
theorem d_L_law_1265 : decode (pw_cc cx_L_law) 1265 = .ok (.iadd, 1) := by decide +kernel
theorem d_L_law_1266 : decode (pw_cc cx_L_law) 1266 = .ok (.iaload, 1) := by decide +kernel
theorem d_L_law_1267 : decode (pw_cc cx_L_law) 1267 = .ok (.aload_n 0, 1) := by decide +kernel
theorem d_L_law_1268 : decode (pw_cc cx_L_law) 1268 = .ok (.iload 4, 2) := by decide +kernel
theorem d_L_law_1270 : decode (pw_cc cx_L_law) 1270 = .ok (.iconst 2, 1) := by decide +kernel
theorem d_L_law_1271 : decode (pw_cc cx_L_law) 1271 = .ok (.iadd, 1) := by decide +kernel
theorem d_L_law_1272 : decode (pw_cc cx_L_law) 1272 = .ok (.iaload, 1) := by decide +kernel
theorem d_L_law_1273 : decode (pw_cc cx_L_law) 1273 = .ok (.aload_n 0, 1) := by decide +kernel
theorem d_L_law_1274 : decode (pw_cc cx_L_law) 1274 = .ok (.iload 4, 2) := by decide +kernel
theorem d_L_law_1276 : decode (pw_cc cx_L_law) 1276 = .ok (.iconst 3, 1) := by decide +kernel
theorem d_L_law_1277 : decode (pw_cc cx_L_law) 1277 = .ok (.iadd, 1) := by decide +kernel
theorem d_L_law_1278 : decode (pw_cc cx_L_law) 1278 = .ok (.iaload, 1) := by decide +kernel
theorem d_L_law_1279 : decode (pw_cc cx_L_law) 1279 = .ok (.invokevirtual 175, 3) := by decide +kernel
theorem d_L_law_1282 : decode (pw_cc cx_L_law) 1282 = .ok (.istore 6, 2) := by decide +kernel
theorem d_L_law_1284 : decode (pw_cc cx_L_law) 1284 = .ok (.aload_n 2, 1) := by decide +kernel
theorem d_L_law_1285 : decode (pw_cc cx_L_law) 1285 = .ok (.invokevirtual 125, 3) := by decide +kernel
theorem d_L_law_1288 : decode (pw_cc cx_L_law) 1288 = .ok (.iload 5, 2) := by decide +kernel
theorem d_L_law_1290 : decode (pw_cc cx_L_law) 1290 = .ok (.if_icmp .eq 5, 3) := by decide +kernel
theorem d_L_law_1293 : decode (pw_cc cx_L_law) 1293 = .ok (.iconst 0, 1) := by decide +kernel
theorem d_L_law_1294 : decode (pw_cc cx_L_law) 1294 = .ok (.ireturn, 1) := by decide +kernel
theorem d_L_law_1295 : decode (pw_cc cx_L_law) 1295 = .ok (.iload 5, 2) := by decide +kernel
theorem d_L_law_1297 : decode (pw_cc cx_L_law) 1297 = .ok (.ifCond .ne 15, 3) := by decide +kernel
theorem d_L_law_1300 : decode (pw_cc cx_L_law) 1300 = .ok (.aload_n 3, 1) := by decide +kernel
theorem d_L_law_1301 : decode (pw_cc cx_L_law) 1301 = .ok (.iconst 0, 1) := by decide +kernel
theorem d_L_law_1302 : decode (pw_cc cx_L_law) 1302 = .ok (.laload, 1) := by decide +kernel
theorem d_L_law_1303 : decode (pw_cc cx_L_law) 1303 = .ok (.iload 6, 2) := by decide +kernel
theorem d_L_law_1305 : decode (pw_cc cx_L_law) 1305 = .ok (.i2l, 1) := by decide +kernel
theorem d_L_law_1306 : decode (pw_cc cx_L_law) 1306 = .ok (.lcmp, 1) := by decide +kernel
theorem d_L_law_1307 : decode (pw_cc cx_L_law) 1307 = .ok (.ifCond .eq 5, 3) := by decide +kernel
theorem d_L_law_1310 : decode (pw_cc cx_L_law) 1310 = .ok (.iconst 0, 1) := by decide +kernel
theorem d_L_law_1311 : decode (pw_cc cx_L_law) 1311 = .ok (.ireturn, 1) := by decide +kernel
theorem d_L_law_1312 : decode (pw_cc cx_L_law) 1312 = .ok (.goto 1009, 3) := by decide +kernel
theorem d_L_law_1315 : decode (pw_cc cx_L_law) 1315 = .ok (.aload_n 1, 1) := by decide +kernel
theorem d_L_law_1316 : decode (pw_cc cx_L_law) 1316 = .ok (.aload_n 0, 1) := by decide +kernel
theorem d_L_law_1317 : decode (pw_cc cx_L_law) 1317 = .ok (.iload 4, 2) := by decide +kernel
theorem d_L_law_1319 : decode (pw_cc cx_L_law) 1319 = .ok (.iconst 1, 1) := by decide +kernel
theorem d_L_law_1320 : decode (pw_cc cx_L_law) 1320 = .ok (.iadd, 1) := by decide +kernel
theorem d_L_law_1321 : decode (pw_cc cx_L_law) 1321 = .ok (.iaload, 1) := by decide +kernel
theorem d_L_law_1322 : decode (pw_cc cx_L_law) 1322 = .ok (.aload_n 3, 1) := by decide +kernel
theorem d_L_law_1323 : decode (pw_cc cx_L_law) 1323 = .ok (.invokestatic 176, 3) := by decide +kernel
theorem d_L_law_1326 : decode (pw_cc cx_L_law) 1326 = .ok (.istore 5, 2) := by decide +kernel
theorem d_L_law_1328 : decode (pw_cc cx_L_law) 1328 = .ok (.aload_n 2, 1) := by decide +kernel
theorem d_L_law_1329 : decode (pw_cc cx_L_law) 1329 = .ok (.aload_n 0, 1) := by decide +kernel
theorem d_L_law_1330 : decode (pw_cc cx_L_law) 1330 = .ok (.iload 4, 2) := by decide +kernel
theorem d_L_law_1332 : decode (pw_cc cx_L_law) 1332 = .ok (.iconst 1, 1) := by decide +kernel
theorem d_L_law_1333 : decode (pw_cc cx_L_law) 1333 = .ok (.iadd, 1) := by decide +kernel
theorem d_L_law_1334 : decode (pw_cc cx_L_law) 1334 = .ok (.iaload, 1) := by decide +kernel
theorem d_L_law_1335 : decode (pw_cc cx_L_law) 1335 = .ok (.invokevirtual 178, 3) := by decide +kernel
theorem d_L_law_1338 : decode (pw_cc cx_L_law) 1338 = .ok (.istore 6, 2) := by decide +kernel
theorem d_L_law_1340 : decode (pw_cc cx_L_law) 1340 = .ok (.aload_n 2, 1) := by decide +kernel
theorem d_L_law_1341 : decode (pw_cc cx_L_law) 1341 = .ok (.invokevirtual 125, 3) := by decide +kernel
theorem d_L_law_1344 : decode (pw_cc cx_L_law) 1344 = .ok (.iload 5, 2) := by decide +kernel
theorem d_L_law_1346 : decode (pw_cc cx_L_law) 1346 = .ok (.if_icmp .eq 5, 3) := by decide +kernel
theorem d_L_law_1349 : decode (pw_cc cx_L_law) 1349 = .ok (.iconst 0, 1) := by decide +kernel
theorem d_L_law_1350 : decode (pw_cc cx_L_law) 1350 = .ok (.ireturn, 1) := by decide +kernel
theorem d_L_law_1351 : decode (pw_cc cx_L_law) 1351 = .ok (.iload 5, 2) := by decide +kernel
theorem d_L_law_1353 : decode (pw_cc cx_L_law) 1353 = .ok (.ifCond .ne 15, 3) := by decide +kernel
theorem d_L_law_1356 : decode (pw_cc cx_L_law) 1356 = .ok (.aload_n 3, 1) := by decide +kernel
theorem d_L_law_1357 : decode (pw_cc cx_L_law) 1357 = .ok (.iconst 0, 1) := by decide +kernel
theorem d_L_law_1358 : decode (pw_cc cx_L_law) 1358 = .ok (.laload, 1) := by decide +kernel
theorem d_L_law_1359 : decode (pw_cc cx_L_law) 1359 = .ok (.iload 6, 2) := by decide +kernel
theorem d_L_law_1361 : decode (pw_cc cx_L_law) 1361 = .ok (.i2l, 1) := by decide +kernel
theorem d_L_law_1362 : decode (pw_cc cx_L_law) 1362 = .ok (.lcmp, 1) := by decide +kernel
theorem d_L_law_1363 : decode (pw_cc cx_L_law) 1363 = .ok (.ifCond .eq 5, 3) := by decide +kernel
theorem d_L_law_1366 : decode (pw_cc cx_L_law) 1366 = .ok (.iconst 0, 1) := by decide +kernel
theorem d_L_law_1367 : decode (pw_cc cx_L_law) 1367 = .ok (.ireturn, 1) := by decide +kernel
theorem d_L_law_1368 : decode (pw_cc cx_L_law) 1368 = .ok (.goto 953, 3) := by decide +kernel
theorem d_L_law_1371 : decode (pw_cc cx_L_law) 1371 = .ok (.aload_n 1, 1) := by decide +kernel
theorem d_L_law_1372 : decode (pw_cc cx_L_law) 1372 = .ok (.aload_n 0, 1) := by decide +kernel
theorem d_L_law_1373 : decode (pw_cc cx_L_law) 1373 = .ok (.iload 4, 2) := by decide +kernel
theorem d_L_law_1375 : decode (pw_cc cx_L_law) 1375 = .ok (.iconst 1, 1) := by decide +kernel
theorem d_L_law_1376 : decode (pw_cc cx_L_law) 1376 = .ok (.iadd, 1) := by decide +kernel
theorem d_L_law_1377 : decode (pw_cc cx_L_law) 1377 = .ok (.iaload, 1) := by decide +kernel
theorem d_L_law_1378 : decode (pw_cc cx_L_law) 1378 = .ok (.aload_n 0, 1) := by decide +kernel
theorem d_L_law_1379 : decode (pw_cc cx_L_law) 1379 = .ok (.iload 4, 2) := by decide +kernel
theorem d_L_law_1381 : decode (pw_cc cx_L_law) 1381 = .ok (.iconst 2, 1) := by decide +kernel
theorem d_L_law_1382 : decode (pw_cc cx_L_law) 1382 = .ok (.iadd, 1) := by decide +kernel
theorem d_L_law_1383 : decode (pw_cc cx_L_law) 1383 = .ok (.iaload, 1) := by decide +kernel
theorem d_L_law_1384 : decode (pw_cc cx_L_law) 1384 = .ok (.aload_n 3, 1) := by decide +kernel
theorem d_L_law_1385 : decode (pw_cc cx_L_law) 1385 = .ok (.invokestatic 179, 3) := by decide +kernel
theorem d_L_law_1388 : decode (pw_cc cx_L_law) 1388 = .ok (.istore 5, 2) := by decide +kernel
theorem d_L_law_1390 : decode (pw_cc cx_L_law) 1390 = .ok (.aload_n 2, 1) := by decide +kernel
theorem d_L_law_1391 : decode (pw_cc cx_L_law) 1391 = .ok (.aload_n 0, 1) := by decide +kernel
theorem d_L_law_1392 : decode (pw_cc cx_L_law) 1392 = .ok (.iload 4, 2) := by decide +kernel
theorem d_L_law_1394 : decode (pw_cc cx_L_law) 1394 = .ok (.iconst 1, 1) := by decide +kernel
theorem d_L_law_1395 : decode (pw_cc cx_L_law) 1395 = .ok (.iadd, 1) := by decide +kernel
theorem d_L_law_1396 : decode (pw_cc cx_L_law) 1396 = .ok (.iaload, 1) := by decide +kernel
theorem d_L_law_1397 : decode (pw_cc cx_L_law) 1397 = .ok (.aload_n 0, 1) := by decide +kernel
theorem d_L_law_1398 : decode (pw_cc cx_L_law) 1398 = .ok (.iload 4, 2) := by decide +kernel
theorem d_L_law_1400 : decode (pw_cc cx_L_law) 1400 = .ok (.iconst 2, 1) := by decide +kernel
theorem d_L_law_1401 : decode (pw_cc cx_L_law) 1401 = .ok (.iadd, 1) := by decide +kernel
theorem d_L_law_1402 : decode (pw_cc cx_L_law) 1402 = .ok (.iaload, 1) := by decide +kernel
theorem d_L_law_1403 : decode (pw_cc cx_L_law) 1403 = .ok (.invokevirtual 181, 3) := by decide +kernel
theorem d_L_law_1406 : decode (pw_cc cx_L_law) 1406 = .ok (.istore 6, 2) := by decide +kernel
theorem d_L_law_1408 : decode (pw_cc cx_L_law) 1408 = .ok (.aload_n 2, 1) := by decide +kernel
theorem d_L_law_1409 : decode (pw_cc cx_L_law) 1409 = .ok (.invokevirtual 125, 3) := by decide +kernel
theorem d_L_law_1412 : decode (pw_cc cx_L_law) 1412 = .ok (.iload 5, 2) := by decide +kernel
theorem d_L_law_1414 : decode (pw_cc cx_L_law) 1414 = .ok (.if_icmp .eq 5, 3) := by decide +kernel
theorem d_L_law_1417 : decode (pw_cc cx_L_law) 1417 = .ok (.iconst 0, 1) := by decide +kernel
theorem d_L_law_1418 : decode (pw_cc cx_L_law) 1418 = .ok (.ireturn, 1) := by decide +kernel
theorem d_L_law_1419 : decode (pw_cc cx_L_law) 1419 = .ok (.iload 5, 2) := by decide +kernel
theorem d_L_law_1421 : decode (pw_cc cx_L_law) 1421 = .ok (.ifCond .ne 15, 3) := by decide +kernel
theorem d_L_law_1424 : decode (pw_cc cx_L_law) 1424 = .ok (.aload_n 3, 1) := by decide +kernel
theorem d_L_law_1425 : decode (pw_cc cx_L_law) 1425 = .ok (.iconst 0, 1) := by decide +kernel
theorem d_L_law_1426 : decode (pw_cc cx_L_law) 1426 = .ok (.laload, 1) := by decide +kernel
theorem d_L_law_1427 : decode (pw_cc cx_L_law) 1427 = .ok (.iload 6, 2) := by decide +kernel
theorem d_L_law_1429 : decode (pw_cc cx_L_law) 1429 = .ok (.i2l, 1) := by decide +kernel
theorem d_L_law_1430 : decode (pw_cc cx_L_law) 1430 = .ok (.lcmp, 1) := by decide +kernel
theorem d_L_law_1431 : decode (pw_cc cx_L_law) 1431 = .ok (.ifCond .eq 5, 3) := by decide +kernel
theorem d_L_law_1434 : decode (pw_cc cx_L_law) 1434 = .ok (.iconst 0, 1) := by decide +kernel
theorem d_L_law_1435 : decode (pw_cc cx_L_law) 1435 = .ok (.ireturn, 1) := by decide +kernel
theorem d_L_law_1436 : decode (pw_cc cx_L_law) 1436 = .ok (.goto 885, 3) := by decide +kernel
theorem d_L_law_1439 : decode (pw_cc cx_L_law) 1439 = .ok (.aload_n 1, 1) := by decide +kernel
theorem d_L_law_1440 : decode (pw_cc cx_L_law) 1440 = .ok (.aload_n 0, 1) := by decide +kernel
theorem d_L_law_1441 : decode (pw_cc cx_L_law) 1441 = .ok (.iload 4, 2) := by decide +kernel
theorem d_L_law_1443 : decode (pw_cc cx_L_law) 1443 = .ok (.iconst 1, 1) := by decide +kernel
theorem d_L_law_1444 : decode (pw_cc cx_L_law) 1444 = .ok (.iadd, 1) := by decide +kernel
theorem d_L_law_1445 : decode (pw_cc cx_L_law) 1445 = .ok (.iaload, 1) := by decide +kernel
theorem d_L_law_1446 : decode (pw_cc cx_L_law) 1446 = .ok (.aload_n 3, 1) := by decide +kernel
theorem d_L_law_1447 : decode (pw_cc cx_L_law) 1447 = .ok (.invokestatic 182, 3) := by decide +kernel
theorem d_L_law_1450 : decode (pw_cc cx_L_law) 1450 = .ok (.istore 5, 2) := by decide +kernel
theorem d_L_law_1452 : decode (pw_cc cx_L_law) 1452 = .ok (.aload_n 2, 1) := by decide +kernel
theorem d_L_law_1453 : decode (pw_cc cx_L_law) 1453 = .ok (.aload_n 0, 1) := by decide +kernel
theorem d_L_law_1454 : decode (pw_cc cx_L_law) 1454 = .ok (.iload 4, 2) := by decide +kernel
theorem d_L_law_1456 : decode (pw_cc cx_L_law) 1456 = .ok (.iconst 1, 1) := by decide +kernel
theorem d_L_law_1457 : decode (pw_cc cx_L_law) 1457 = .ok (.iadd, 1) := by decide +kernel
theorem d_L_law_1458 : decode (pw_cc cx_L_law) 1458 = .ok (.iaload, 1) := by decide +kernel
theorem d_L_law_1459 : decode (pw_cc cx_L_law) 1459 = .ok (.invokevirtual 184, 3) := by decide +kernel
theorem d_L_law_1462 : decode (pw_cc cx_L_law) 1462 = .ok (.istore 6, 2) := by decide +kernel
theorem d_L_law_1464 : decode (pw_cc cx_L_law) 1464 = .ok (.aload_n 2, 1) := by decide +kernel
theorem d_L_law_1465 : decode (pw_cc cx_L_law) 1465 = .ok (.invokevirtual 125, 3) := by decide +kernel
theorem d_L_law_1468 : decode (pw_cc cx_L_law) 1468 = .ok (.iload 5, 2) := by decide +kernel
theorem d_L_law_1470 : decode (pw_cc cx_L_law) 1470 = .ok (.if_icmp .eq 5, 3) := by decide +kernel
theorem d_L_law_1473 : decode (pw_cc cx_L_law) 1473 = .ok (.iconst 0, 1) := by decide +kernel
theorem d_L_law_1474 : decode (pw_cc cx_L_law) 1474 = .ok (.ireturn, 1) := by decide +kernel
theorem d_L_law_1475 : decode (pw_cc cx_L_law) 1475 = .ok (.iload 5, 2) := by decide +kernel
theorem d_L_law_1477 : decode (pw_cc cx_L_law) 1477 = .ok (.ifCond .ne 15, 3) := by decide +kernel
theorem d_L_law_1480 : decode (pw_cc cx_L_law) 1480 = .ok (.aload_n 3, 1) := by decide +kernel
theorem d_L_law_1481 : decode (pw_cc cx_L_law) 1481 = .ok (.iconst 0, 1) := by decide +kernel
theorem d_L_law_1482 : decode (pw_cc cx_L_law) 1482 = .ok (.laload, 1) := by decide +kernel
theorem d_L_law_1483 : decode (pw_cc cx_L_law) 1483 = .ok (.iload 6, 2) := by decide +kernel
theorem d_L_law_1485 : decode (pw_cc cx_L_law) 1485 = .ok (.i2l, 1) := by decide +kernel
theorem d_L_law_1486 : decode (pw_cc cx_L_law) 1486 = .ok (.lcmp, 1) := by decide +kernel
theorem d_L_law_1487 : decode (pw_cc cx_L_law) 1487 = .ok (.ifCond .eq 5, 3) := by decide +kernel
theorem d_L_law_1490 : decode (pw_cc cx_L_law) 1490 = .ok (.iconst 0, 1) := by decide +kernel
theorem d_L_law_1491 : decode (pw_cc cx_L_law) 1491 = .ok (.ireturn, 1) := by decide +kernel
theorem d_L_law_1492 : decode (pw_cc cx_L_law) 1492 = .ok (.goto 829, 3) := by decide +kernel
theorem d_L_law_1495 : decode (pw_cc cx_L_law) 1495 = .ok (.aload_n 1, 1) := by decide +kernel
theorem d_L_law_1496 : decode (pw_cc cx_L_law) 1496 = .ok (.aload_n 0, 1) := by decide +kernel
theorem d_L_law_1497 : decode (pw_cc cx_L_law) 1497 = .ok (.iload 4, 2) := by decide +kernel
theorem d_L_law_1499 : decode (pw_cc cx_L_law) 1499 = .ok (.iconst 1, 1) := by decide +kernel
theorem d_L_law_1500 : decode (pw_cc cx_L_law) 1500 = .ok (.iadd, 1) := by decide +kernel
theorem d_L_law_1501 : decode (pw_cc cx_L_law) 1501 = .ok (.iaload, 1) := by decide +kernel
theorem d_L_law_1502 : decode (pw_cc cx_L_law) 1502 = .ok (.aload_n 0, 1) := by decide +kernel
theorem d_L_law_1503 : decode (pw_cc cx_L_law) 1503 = .ok (.iload 4, 2) := by decide +kernel
theorem d_L_law_1505 : decode (pw_cc cx_L_law) 1505 = .ok (.iconst 2, 1) := by decide +kernel
theorem d_L_law_1506 : decode (pw_cc cx_L_law) 1506 = .ok (.iadd, 1) := by decide +kernel
theorem d_L_law_1507 : decode (pw_cc cx_L_law) 1507 = .ok (.iaload, 1) := by decide +kernel
theorem d_L_law_1508 : decode (pw_cc cx_L_law) 1508 = .ok (.aload_n 3, 1) := by decide +kernel
theorem d_L_law_1509 : decode (pw_cc cx_L_law) 1509 = .ok (.invokestatic 185, 3) := by decide +kernel
theorem d_L_law_1512 : decode (pw_cc cx_L_law) 1512 = .ok (.istore 5, 2) := by decide +kernel
theorem d_L_law_1514 : decode (pw_cc cx_L_law) 1514 = .ok (.aload_n 2, 1) := by decide +kernel
theorem d_L_law_1515 : decode (pw_cc cx_L_law) 1515 = .ok (.aload_n 0, 1) := by decide +kernel
theorem d_L_law_1516 : decode (pw_cc cx_L_law) 1516 = .ok (.iload 4, 2) := by decide +kernel
theorem d_L_law_1518 : decode (pw_cc cx_L_law) 1518 = .ok (.iconst 1, 1) := by decide +kernel
theorem d_L_law_1519 : decode (pw_cc cx_L_law) 1519 = .ok (.iadd, 1) := by decide +kernel
theorem d_L_law_1520 : decode (pw_cc cx_L_law) 1520 = .ok (.iaload, 1) := by decide +kernel
theorem d_L_law_1521 : decode (pw_cc cx_L_law) 1521 = .ok (.aload_n 0, 1) := by decide +kernel
theorem d_L_law_1522 : decode (pw_cc cx_L_law) 1522 = .ok (.iload 4, 2) := by decide +kernel
theorem d_L_law_1524 : decode (pw_cc cx_L_law) 1524 = .ok (.iconst 2, 1) := by decide +kernel
theorem d_L_law_1525 : decode (pw_cc cx_L_law) 1525 = .ok (.iadd, 1) := by decide +kernel
theorem d_L_law_1526 : decode (pw_cc cx_L_law) 1526 = .ok (.iaload, 1) := by decide +kernel
theorem d_L_law_1527 : decode (pw_cc cx_L_law) 1527 = .ok (.invokevirtual 187, 3) := by decide +kernel
theorem d_L_law_1530 : decode (pw_cc cx_L_law) 1530 = .ok (.istore 6, 2) := by decide +kernel
theorem d_L_law_1532 : decode (pw_cc cx_L_law) 1532 = .ok (.aload_n 2, 1) := by decide +kernel
theorem d_L_law_1533 : decode (pw_cc cx_L_law) 1533 = .ok (.invokevirtual 125, 3) := by decide +kernel
theorem d_L_law_1536 : decode (pw_cc cx_L_law) 1536 = .ok (.iload 5, 2) := by decide +kernel
theorem d_L_law_1538 : decode (pw_cc cx_L_law) 1538 = .ok (.if_icmp .eq 5, 3) := by decide +kernel
theorem d_L_law_1541 : decode (pw_cc cx_L_law) 1541 = .ok (.iconst 0, 1) := by decide +kernel
theorem d_L_law_1542 : decode (pw_cc cx_L_law) 1542 = .ok (.ireturn, 1) := by decide +kernel
theorem d_L_law_1543 : decode (pw_cc cx_L_law) 1543 = .ok (.iload 5, 2) := by decide +kernel
theorem d_L_law_1545 : decode (pw_cc cx_L_law) 1545 = .ok (.ifCond .ne 15, 3) := by decide +kernel
theorem d_L_law_1548 : decode (pw_cc cx_L_law) 1548 = .ok (.aload_n 3, 1) := by decide +kernel
theorem d_L_law_1549 : decode (pw_cc cx_L_law) 1549 = .ok (.iconst 0, 1) := by decide +kernel
theorem d_L_law_1550 : decode (pw_cc cx_L_law) 1550 = .ok (.laload, 1) := by decide +kernel
theorem d_L_law_1551 : decode (pw_cc cx_L_law) 1551 = .ok (.iload 6, 2) := by decide +kernel
theorem d_L_law_1553 : decode (pw_cc cx_L_law) 1553 = .ok (.i2l, 1) := by decide +kernel
theorem d_L_law_1554 : decode (pw_cc cx_L_law) 1554 = .ok (.lcmp, 1) := by decide +kernel
theorem d_L_law_1555 : decode (pw_cc cx_L_law) 1555 = .ok (.ifCond .eq 5, 3) := by decide +kernel
theorem d_L_law_1558 : decode (pw_cc cx_L_law) 1558 = .ok (.iconst 0, 1) := by decide +kernel
theorem d_L_law_1559 : decode (pw_cc cx_L_law) 1559 = .ok (.ireturn, 1) := by decide +kernel
theorem d_L_law_1560 : decode (pw_cc cx_L_law) 1560 = .ok (.goto 761, 3) := by decide +kernel
theorem d_L_law_1563 : decode (pw_cc cx_L_law) 1563 = .ok (.aload_n 1, 1) := by decide +kernel
theorem d_L_law_1564 : decode (pw_cc cx_L_law) 1564 = .ok (.aload_n 0, 1) := by decide +kernel
theorem d_L_law_1565 : decode (pw_cc cx_L_law) 1565 = .ok (.iload 4, 2) := by decide +kernel
theorem d_L_law_1567 : decode (pw_cc cx_L_law) 1567 = .ok (.iconst 1, 1) := by decide +kernel
theorem d_L_law_1568 : decode (pw_cc cx_L_law) 1568 = .ok (.iadd, 1) := by decide +kernel
theorem d_L_law_1569 : decode (pw_cc cx_L_law) 1569 = .ok (.iaload, 1) := by decide +kernel
theorem d_L_law_1570 : decode (pw_cc cx_L_law) 1570 = .ok (.aload_n 3, 1) := by decide +kernel
theorem d_L_law_1571 : decode (pw_cc cx_L_law) 1571 = .ok (.invokestatic 188, 3) := by decide +kernel
theorem d_L_law_1574 : decode (pw_cc cx_L_law) 1574 = .ok (.istore 5, 2) := by decide +kernel
theorem d_L_law_1576 : decode (pw_cc cx_L_law) 1576 = .ok (.aload_n 2, 1) := by decide +kernel
theorem d_L_law_1577 : decode (pw_cc cx_L_law) 1577 = .ok (.aload_n 0, 1) := by decide +kernel
theorem d_L_law_1578 : decode (pw_cc cx_L_law) 1578 = .ok (.iload 4, 2) := by decide +kernel
theorem d_L_law_1580 : decode (pw_cc cx_L_law) 1580 = .ok (.iconst 1, 1) := by decide +kernel
theorem d_L_law_1581 : decode (pw_cc cx_L_law) 1581 = .ok (.iadd, 1) := by decide +kernel
theorem d_L_law_1582 : decode (pw_cc cx_L_law) 1582 = .ok (.iaload, 1) := by decide +kernel
theorem d_L_law_1583 : decode (pw_cc cx_L_law) 1583 = .ok (.invokevirtual 190, 3) := by decide +kernel
theorem d_L_law_1586 : decode (pw_cc cx_L_law) 1586 = .ok (.istore 6, 2) := by decide +kernel
theorem d_L_law_1588 : decode (pw_cc cx_L_law) 1588 = .ok (.aload_n 2, 1) := by decide +kernel
theorem d_L_law_1589 : decode (pw_cc cx_L_law) 1589 = .ok (.invokevirtual 125, 3) := by decide +kernel
theorem d_L_law_1592 : decode (pw_cc cx_L_law) 1592 = .ok (.iload 5, 2) := by decide +kernel
theorem d_L_law_1594 : decode (pw_cc cx_L_law) 1594 = .ok (.if_icmp .eq 5, 3) := by decide +kernel
theorem d_L_law_1597 : decode (pw_cc cx_L_law) 1597 = .ok (.iconst 0, 1) := by decide +kernel
theorem d_L_law_1598 : decode (pw_cc cx_L_law) 1598 = .ok (.ireturn, 1) := by decide +kernel
theorem d_L_law_1599 : decode (pw_cc cx_L_law) 1599 = .ok (.iload 5, 2) := by decide +kernel
theorem d_L_law_1601 : decode (pw_cc cx_L_law) 1601 = .ok (.ifCond .ne 15, 3) := by decide +kernel
theorem d_L_law_1604 : decode (pw_cc cx_L_law) 1604 = .ok (.aload_n 3, 1) := by decide +kernel
theorem d_L_law_1605 : decode (pw_cc cx_L_law) 1605 = .ok (.iconst 0, 1) := by decide +kernel
theorem d_L_law_1606 : decode (pw_cc cx_L_law) 1606 = .ok (.laload, 1) := by decide +kernel
theorem d_L_law_1607 : decode (pw_cc cx_L_law) 1607 = .ok (.iload 6, 2) := by decide +kernel
theorem d_L_law_1609 : decode (pw_cc cx_L_law) 1609 = .ok (.i2l, 1) := by decide +kernel
theorem d_L_law_1610 : decode (pw_cc cx_L_law) 1610 = .ok (.lcmp, 1) := by decide +kernel
theorem d_L_law_1611 : decode (pw_cc cx_L_law) 1611 = .ok (.ifCond .eq 5, 3) := by decide +kernel
theorem d_L_law_1614 : decode (pw_cc cx_L_law) 1614 = .ok (.iconst 0, 1) := by decide +kernel
theorem d_L_law_1615 : decode (pw_cc cx_L_law) 1615 = .ok (.ireturn, 1) := by decide +kernel
theorem d_L_law_1616 : decode (pw_cc cx_L_law) 1616 = .ok (.goto 705, 3) := by decide +kernel
theorem d_L_law_1619 : decode (pw_cc cx_L_law) 1619 = .ok (.aload_n 1, 1) := by decide +kernel
theorem d_L_law_1620 : decode (pw_cc cx_L_law) 1620 = .ok (.invokevirtual 191, 3) := by decide +kernel
theorem d_L_law_1623 : decode (pw_cc cx_L_law) 1623 = .ok (.aload_n 2, 1) := by decide +kernel
theorem d_L_law_1624 : decode (pw_cc cx_L_law) 1624 = .ok (.invokevirtual 194, 3) := by decide +kernel
theorem d_L_law_1627 : decode (pw_cc cx_L_law) 1627 = .ok (.if_icmp .eq 694, 3) := by decide +kernel
theorem d_L_law_1630 : decode (pw_cc cx_L_law) 1630 = .ok (.iconst 0, 1) := by decide +kernel
theorem d_L_law_1631 : decode (pw_cc cx_L_law) 1631 = .ok (.ireturn, 1) := by decide +kernel
theorem d_L_law_1632 : decode (pw_cc cx_L_law) 1632 = .ok (.aload_n 1, 1) := by decide +kernel
theorem d_L_law_1633 : decode (pw_cc cx_L_law) 1633 = .ok (.invokevirtual 195, 3) := by decide +kernel
theorem d_L_law_1636 : decode (pw_cc cx_L_law) 1636 = .ok (.aload_n 2, 1) := by decide +kernel
theorem d_L_law_1637 : decode (pw_cc cx_L_law) 1637 = .ok (.invokevirtual 198, 3) := by decide +kernel
theorem d_L_law_1640 : decode (pw_cc cx_L_law) 1640 = .ok (.if_icmp .eq 681, 3) := by decide +kernel
theorem d_L_law_1643 : decode (pw_cc cx_L_law) 1643 = .ok (.iconst 0, 1) := by decide +kernel
theorem d_L_law_1644 : decode (pw_cc cx_L_law) 1644 = .ok (.ireturn, 1) := by decide +kernel
theorem d_L_law_1645 : decode (pw_cc cx_L_law) 1645 = .ok (.aload_n 1, 1) := by decide +kernel
theorem d_L_law_1646 : decode (pw_cc cx_L_law) 1646 = .ok (.aload_n 0, 1) := by decide +kernel
theorem d_L_law_1647 : decode (pw_cc cx_L_law) 1647 = .ok (.iload 4, 2) := by decide +kernel
theorem d_L_law_1649 : decode (pw_cc cx_L_law) 1649 = .ok (.iconst 1, 1) := by decide +kernel
theorem d_L_law_1650 : decode (pw_cc cx_L_law) 1650 = .ok (.iadd, 1) := by decide +kernel
theorem d_L_law_1651 : decode (pw_cc cx_L_law) 1651 = .ok (.iaload, 1) := by decide +kernel
theorem d_L_law_1652 : decode (pw_cc cx_L_law) 1652 = .ok (.aload_n 3, 1) := by decide +kernel
theorem d_L_law_1653 : decode (pw_cc cx_L_law) 1653 = .ok (.invokestatic 199, 3) := by decide +kernel
theorem d_L_law_1656 : decode (pw_cc cx_L_law) 1656 = .ok (.istore 5, 2) := by decide +kernel
theorem d_L_law_1658 : decode (pw_cc cx_L_law) 1658 = .ok (.aload_n 2, 1) := by decide +kernel
theorem d_L_law_1659 : decode (pw_cc cx_L_law) 1659 = .ok (.aload_n 0, 1) := by decide +kernel
theorem d_L_law_1660 : decode (pw_cc cx_L_law) 1660 = .ok (.iload 4, 2) := by decide +kernel
theorem d_L_law_1662 : decode (pw_cc cx_L_law) 1662 = .ok (.iconst 1, 1) := by decide +kernel
theorem d_L_law_1663 : decode (pw_cc cx_L_law) 1663 = .ok (.iadd, 1) := by decide +kernel
theorem d_L_law_1664 : decode (pw_cc cx_L_law) 1664 = .ok (.iaload, 1) := by decide +kernel
theorem d_L_law_1665 : decode (pw_cc cx_L_law) 1665 = .ok (.invokevirtual 201, 3) := by decide +kernel
theorem d_L_law_1668 : decode (pw_cc cx_L_law) 1668 = .ok (.istore 6, 2) := by decide +kernel
theorem d_L_law_1670 : decode (pw_cc cx_L_law) 1670 = .ok (.aload_n 2, 1) := by decide +kernel
theorem d_L_law_1671 : decode (pw_cc cx_L_law) 1671 = .ok (.invokevirtual 125, 3) := by decide +kernel
theorem d_L_law_1674 : decode (pw_cc cx_L_law) 1674 = .ok (.iload 5, 2) := by decide +kernel
theorem d_L_law_1676 : decode (pw_cc cx_L_law) 1676 = .ok (.if_icmp .eq 5, 3) := by decide +kernel
theorem d_L_law_1679 : decode (pw_cc cx_L_law) 1679 = .ok (.iconst 0, 1) := by decide +kernel
theorem d_L_law_1680 : decode (pw_cc cx_L_law) 1680 = .ok (.ireturn, 1) := by decide +kernel
theorem d_L_law_1681 : decode (pw_cc cx_L_law) 1681 = .ok (.iload 5, 2) := by decide +kernel
theorem d_L_law_1683 : decode (pw_cc cx_L_law) 1683 = .ok (.ifCond .ne 15, 3) := by decide +kernel
theorem d_L_law_1686 : decode (pw_cc cx_L_law) 1686 = .ok (.aload_n 3, 1) := by decide +kernel
theorem d_L_law_1687 : decode (pw_cc cx_L_law) 1687 = .ok (.iconst 0, 1) := by decide +kernel
theorem d_L_law_1688 : decode (pw_cc cx_L_law) 1688 = .ok (.laload, 1) := by decide +kernel
theorem d_L_law_1689 : decode (pw_cc cx_L_law) 1689 = .ok (.iload 6, 2) := by decide +kernel
theorem d_L_law_1691 : decode (pw_cc cx_L_law) 1691 = .ok (.i2l, 1) := by decide +kernel
theorem d_L_law_1692 : decode (pw_cc cx_L_law) 1692 = .ok (.lcmp, 1) := by decide +kernel
theorem d_L_law_1693 : decode (pw_cc cx_L_law) 1693 = .ok (.ifCond .eq 5, 3) := by decide +kernel
theorem d_L_law_1696 : decode (pw_cc cx_L_law) 1696 = .ok (.iconst 0, 1) := by decide +kernel
theorem d_L_law_1697 : decode (pw_cc cx_L_law) 1697 = .ok (.ireturn, 1) := by decide +kernel
theorem d_L_law_1698 : decode (pw_cc cx_L_law) 1698 = .ok (.goto 623, 3) := by decide +kernel
theorem d_L_law_1701 : decode (pw_cc cx_L_law) 1701 = .ok (.aload_n 1, 1) := by decide +kernel
theorem d_L_law_1702 : decode (pw_cc cx_L_law) 1702 = .ok (.aload_n 0, 1) := by decide +kernel
theorem d_L_law_1703 : decode (pw_cc cx_L_law) 1703 = .ok (.iload 4, 2) := by decide +kernel
theorem d_L_law_1705 : decode (pw_cc cx_L_law) 1705 = .ok (.iconst 1, 1) := by decide +kernel
theorem d_L_law_1706 : decode (pw_cc cx_L_law) 1706 = .ok (.iadd, 1) := by decide +kernel
theorem d_L_law_1707 : decode (pw_cc cx_L_law) 1707 = .ok (.iaload, 1) := by decide +kernel
theorem d_L_law_1708 : decode (pw_cc cx_L_law) 1708 = .ok (.aload_n 0, 1) := by decide +kernel
theorem d_L_law_1709 : decode (pw_cc cx_L_law) 1709 = .ok (.iload 4, 2) := by decide +kernel
theorem d_L_law_1711 : decode (pw_cc cx_L_law) 1711 = .ok (.iconst 2, 1) := by decide +kernel
theorem d_L_law_1712 : decode (pw_cc cx_L_law) 1712 = .ok (.iadd, 1) := by decide +kernel
theorem d_L_law_1713 : decode (pw_cc cx_L_law) 1713 = .ok (.iaload, 1) := by decide +kernel
theorem d_L_law_1714 : decode (pw_cc cx_L_law) 1714 = .ok (.aload_n 3, 1) := by decide +kernel
theorem d_L_law_1715 : decode (pw_cc cx_L_law) 1715 = .ok (.invokestatic 202, 3) := by decide +kernel
theorem d_L_law_1718 : decode (pw_cc cx_L_law) 1718 = .ok (.istore 5, 2) := by decide +kernel
theorem d_L_law_1720 : decode (pw_cc cx_L_law) 1720 = .ok (.aload_n 2, 1) := by decide +kernel
theorem d_L_law_1721 : decode (pw_cc cx_L_law) 1721 = .ok (.aload_n 0, 1) := by decide +kernel
theorem d_L_law_1722 : decode (pw_cc cx_L_law) 1722 = .ok (.iload 4, 2) := by decide +kernel
theorem d_L_law_1724 : decode (pw_cc cx_L_law) 1724 = .ok (.iconst 1, 1) := by decide +kernel
theorem d_L_law_1725 : decode (pw_cc cx_L_law) 1725 = .ok (.iadd, 1) := by decide +kernel
theorem d_L_law_1726 : decode (pw_cc cx_L_law) 1726 = .ok (.iaload, 1) := by decide +kernel
theorem d_L_law_1727 : decode (pw_cc cx_L_law) 1727 = .ok (.aload_n 0, 1) := by decide +kernel
theorem d_L_law_1728 : decode (pw_cc cx_L_law) 1728 = .ok (.iload 4, 2) := by decide +kernel
theorem d_L_law_1730 : decode (pw_cc cx_L_law) 1730 = .ok (.iconst 2, 1) := by decide +kernel
theorem d_L_law_1731 : decode (pw_cc cx_L_law) 1731 = .ok (.iadd, 1) := by decide +kernel
theorem d_L_law_1732 : decode (pw_cc cx_L_law) 1732 = .ok (.iaload, 1) := by decide +kernel
theorem d_L_law_1733 : decode (pw_cc cx_L_law) 1733 = .ok (.invokevirtual 204, 3) := by decide +kernel
theorem d_L_law_1736 : decode (pw_cc cx_L_law) 1736 = .ok (.istore 6, 2) := by decide +kernel
theorem d_L_law_1738 : decode (pw_cc cx_L_law) 1738 = .ok (.aload_n 2, 1) := by decide +kernel
theorem d_L_law_1739 : decode (pw_cc cx_L_law) 1739 = .ok (.invokevirtual 125, 3) := by decide +kernel
theorem d_L_law_1742 : decode (pw_cc cx_L_law) 1742 = .ok (.iload 5, 2) := by decide +kernel
theorem d_L_law_1744 : decode (pw_cc cx_L_law) 1744 = .ok (.if_icmp .eq 5, 3) := by decide +kernel
theorem d_L_law_1747 : decode (pw_cc cx_L_law) 1747 = .ok (.iconst 0, 1) := by decide +kernel
theorem d_L_law_1748 : decode (pw_cc cx_L_law) 1748 = .ok (.ireturn, 1) := by decide +kernel
theorem d_L_law_1749 : decode (pw_cc cx_L_law) 1749 = .ok (.iload 5, 2) := by decide +kernel
theorem d_L_law_1751 : decode (pw_cc cx_L_law) 1751 = .ok (.ifCond .ne 15, 3) := by decide +kernel
theorem d_L_law_1754 : decode (pw_cc cx_L_law) 1754 = .ok (.aload_n 3, 1) := by decide +kernel
theorem d_L_law_1755 : decode (pw_cc cx_L_law) 1755 = .ok (.iconst 0, 1) := by decide +kernel
theorem d_L_law_1756 : decode (pw_cc cx_L_law) 1756 = .ok (.laload, 1) := by decide +kernel
theorem d_L_law_1757 : decode (pw_cc cx_L_law) 1757 = .ok (.iload 6, 2) := by decide +kernel
theorem d_L_law_1759 : decode (pw_cc cx_L_law) 1759 = .ok (.i2l, 1) := by decide +kernel
theorem d_L_law_1760 : decode (pw_cc cx_L_law) 1760 = .ok (.lcmp, 1) := by decide +kernel
theorem d_L_law_1761 : decode (pw_cc cx_L_law) 1761 = .ok (.ifCond .eq 5, 3) := by decide +kernel
theorem d_L_law_1764 : decode (pw_cc cx_L_law) 1764 = .ok (.iconst 0, 1) := by decide +kernel
theorem d_L_law_1765 : decode (pw_cc cx_L_law) 1765 = .ok (.ireturn, 1) := by decide +kernel
theorem d_L_law_1766 : decode (pw_cc cx_L_law) 1766 = .ok (.goto 555, 3) := by decide +kernel
theorem d_L_law_1769 : decode (pw_cc cx_L_law) 1769 = .ok (.aload_n 1, 1) := by decide +kernel
theorem d_L_law_1770 : decode (pw_cc cx_L_law) 1770 = .ok (.aload_n 0, 1) := by decide +kernel
theorem d_L_law_1771 : decode (pw_cc cx_L_law) 1771 = .ok (.iload 4, 2) := by decide +kernel
theorem d_L_law_1773 : decode (pw_cc cx_L_law) 1773 = .ok (.iconst 1, 1) := by decide +kernel
theorem d_L_law_1774 : decode (pw_cc cx_L_law) 1774 = .ok (.iadd, 1) := by decide +kernel
theorem d_L_law_1775 : decode (pw_cc cx_L_law) 1775 = .ok (.iaload, 1) := by decide +kernel
theorem d_L_law_1776 : decode (pw_cc cx_L_law) 1776 = .ok (.aload_n 3, 1) := by decide +kernel
theorem d_L_law_1777 : decode (pw_cc cx_L_law) 1777 = .ok (.invokestatic 205, 3) := by decide +kernel
theorem d_L_law_1780 : decode (pw_cc cx_L_law) 1780 = .ok (.istore 5, 2) := by decide +kernel
theorem d_L_law_1782 : decode (pw_cc cx_L_law) 1782 = .ok (.aload_n 2, 1) := by decide +kernel
theorem d_L_law_1783 : decode (pw_cc cx_L_law) 1783 = .ok (.aload_n 0, 1) := by decide +kernel
theorem d_L_law_1784 : decode (pw_cc cx_L_law) 1784 = .ok (.iload 4, 2) := by decide +kernel
theorem d_L_law_1786 : decode (pw_cc cx_L_law) 1786 = .ok (.iconst 1, 1) := by decide +kernel
theorem d_L_law_1787 : decode (pw_cc cx_L_law) 1787 = .ok (.iadd, 1) := by decide +kernel
theorem d_L_law_1788 : decode (pw_cc cx_L_law) 1788 = .ok (.iaload, 1) := by decide +kernel
theorem d_L_law_1789 : decode (pw_cc cx_L_law) 1789 = .ok (.invokevirtual 207, 3) := by decide +kernel
theorem d_L_law_1792 : decode (pw_cc cx_L_law) 1792 = .ok (.istore 6, 2) := by decide +kernel
theorem d_L_law_1794 : decode (pw_cc cx_L_law) 1794 = .ok (.aload_n 2, 1) := by decide +kernel
theorem d_L_law_1795 : decode (pw_cc cx_L_law) 1795 = .ok (.invokevirtual 125, 3) := by decide +kernel
theorem d_L_law_1798 : decode (pw_cc cx_L_law) 1798 = .ok (.iload 5, 2) := by decide +kernel
theorem d_L_law_1800 : decode (pw_cc cx_L_law) 1800 = .ok (.if_icmp .eq 5, 3) := by decide +kernel
theorem d_L_law_1803 : decode (pw_cc cx_L_law) 1803 = .ok (.iconst 0, 1) := by decide +kernel
theorem d_L_law_1804 : decode (pw_cc cx_L_law) 1804 = .ok (.ireturn, 1) := by decide +kernel
theorem d_L_law_1805 : decode (pw_cc cx_L_law) 1805 = .ok (.iload 5, 2) := by decide +kernel
theorem d_L_law_1807 : decode (pw_cc cx_L_law) 1807 = .ok (.ifCond .ne 15, 3) := by decide +kernel
theorem d_L_law_1810 : decode (pw_cc cx_L_law) 1810 = .ok (.aload_n 3, 1) := by decide +kernel
theorem d_L_law_1811 : decode (pw_cc cx_L_law) 1811 = .ok (.iconst 0, 1) := by decide +kernel
theorem d_L_law_1812 : decode (pw_cc cx_L_law) 1812 = .ok (.laload, 1) := by decide +kernel
theorem d_L_law_1813 : decode (pw_cc cx_L_law) 1813 = .ok (.iload 6, 2) := by decide +kernel
theorem d_L_law_1815 : decode (pw_cc cx_L_law) 1815 = .ok (.i2l, 1) := by decide +kernel
theorem d_L_law_1816 : decode (pw_cc cx_L_law) 1816 = .ok (.lcmp, 1) := by decide +kernel
theorem d_L_law_1817 : decode (pw_cc cx_L_law) 1817 = .ok (.ifCond .eq 5, 3) := by decide +kernel
theorem d_L_law_1820 : decode (pw_cc cx_L_law) 1820 = .ok (.iconst 0, 1) := by decide +kernel
theorem d_L_law_1821 : decode (pw_cc cx_L_law) 1821 = .ok (.ireturn, 1) := by decide +kernel
theorem d_L_law_1822 : decode (pw_cc cx_L_law) 1822 = .ok (.goto 499, 3) := by decide +kernel
theorem d_L_law_1825 : decode (pw_cc cx_L_law) 1825 = .ok (.aload_n 1, 1) := by decide +kernel
theorem d_L_law_1826 : decode (pw_cc cx_L_law) 1826 = .ok (.aload_n 0, 1) := by decide +kernel
theorem d_L_law_1827 : decode (pw_cc cx_L_law) 1827 = .ok (.iload 4, 2) := by decide +kernel
theorem d_L_law_1829 : decode (pw_cc cx_L_law) 1829 = .ok (.iconst 1, 1) := by decide +kernel
theorem d_L_law_1830 : decode (pw_cc cx_L_law) 1830 = .ok (.iadd, 1) := by decide +kernel
theorem d_L_law_1831 : decode (pw_cc cx_L_law) 1831 = .ok (.iaload, 1) := by decide +kernel
theorem d_L_law_1832 : decode (pw_cc cx_L_law) 1832 = .ok (.aload_n 3, 1) := by decide +kernel
theorem d_L_law_1833 : decode (pw_cc cx_L_law) 1833 = .ok (.invokestatic 208, 3) := by decide +kernel
theorem d_L_law_1836 : decode (pw_cc cx_L_law) 1836 = .ok (.istore 5, 2) := by decide +kernel
theorem d_L_law_1838 : decode (pw_cc cx_L_law) 1838 = .ok (.aload_n 2, 1) := by decide +kernel
theorem d_L_law_1839 : decode (pw_cc cx_L_law) 1839 = .ok (.aload_n 0, 1) := by decide +kernel
theorem d_L_law_1840 : decode (pw_cc cx_L_law) 1840 = .ok (.iload 4, 2) := by decide +kernel
theorem d_L_law_1842 : decode (pw_cc cx_L_law) 1842 = .ok (.iconst 1, 1) := by decide +kernel
theorem d_L_law_1843 : decode (pw_cc cx_L_law) 1843 = .ok (.iadd, 1) := by decide +kernel
theorem d_L_law_1844 : decode (pw_cc cx_L_law) 1844 = .ok (.iaload, 1) := by decide +kernel
theorem d_L_law_1845 : decode (pw_cc cx_L_law) 1845 = .ok (.invokevirtual 210, 3) := by decide +kernel
theorem d_L_law_1848 : decode (pw_cc cx_L_law) 1848 = .ok (.istore 6, 2) := by decide +kernel
theorem d_L_law_1850 : decode (pw_cc cx_L_law) 1850 = .ok (.aload_n 2, 1) := by decide +kernel
theorem d_L_law_1851 : decode (pw_cc cx_L_law) 1851 = .ok (.invokevirtual 125, 3) := by decide +kernel
theorem d_L_law_1854 : decode (pw_cc cx_L_law) 1854 = .ok (.iload 5, 2) := by decide +kernel
theorem d_L_law_1856 : decode (pw_cc cx_L_law) 1856 = .ok (.if_icmp .eq 5, 3) := by decide +kernel
theorem d_L_law_1859 : decode (pw_cc cx_L_law) 1859 = .ok (.iconst 0, 1) := by decide +kernel
theorem d_L_law_1860 : decode (pw_cc cx_L_law) 1860 = .ok (.ireturn, 1) := by decide +kernel
theorem d_L_law_1861 : decode (pw_cc cx_L_law) 1861 = .ok (.iload 5, 2) := by decide +kernel
theorem d_L_law_1863 : decode (pw_cc cx_L_law) 1863 = .ok (.ifCond .ne 15, 3) := by decide +kernel
theorem d_L_law_1866 : decode (pw_cc cx_L_law) 1866 = .ok (.aload_n 3, 1) := by decide +kernel
theorem d_L_law_1867 : decode (pw_cc cx_L_law) 1867 = .ok (.iconst 0, 1) := by decide +kernel
theorem d_L_law_1868 : decode (pw_cc cx_L_law) 1868 = .ok (.laload, 1) := by decide +kernel
theorem d_L_law_1869 : decode (pw_cc cx_L_law) 1869 = .ok (.iload 6, 2) := by decide +kernel
theorem d_L_law_1871 : decode (pw_cc cx_L_law) 1871 = .ok (.i2l, 1) := by decide +kernel
theorem d_L_law_1872 : decode (pw_cc cx_L_law) 1872 = .ok (.lcmp, 1) := by decide +kernel
theorem d_L_law_1873 : decode (pw_cc cx_L_law) 1873 = .ok (.ifCond .eq 5, 3) := by decide +kernel
theorem d_L_law_1876 : decode (pw_cc cx_L_law) 1876 = .ok (.iconst 0, 1) := by decide +kernel
theorem d_L_law_1877 : decode (pw_cc cx_L_law) 1877 = .ok (.ireturn, 1) := by decide +kernel
theorem d_L_law_1878 : decode (pw_cc cx_L_law) 1878 = .ok (.goto 443, 3) := by decide +kernel
theorem d_L_law_1881 : decode (pw_cc cx_L_law) 1881 = .ok (.aload_n 1, 1) := by decide +kernel
theorem d_L_law_1882 : decode (pw_cc cx_L_law) 1882 = .ok (.aload_n 0, 1) := by decide +kernel
theorem d_L_law_1883 : decode (pw_cc cx_L_law) 1883 = .ok (.iload 4, 2) := by decide +kernel
theorem d_L_law_1885 : decode (pw_cc cx_L_law) 1885 = .ok (.iconst 1, 1) := by decide +kernel
theorem d_L_law_1886 : decode (pw_cc cx_L_law) 1886 = .ok (.iadd, 1) := by decide +kernel
theorem d_L_law_1887 : decode (pw_cc cx_L_law) 1887 = .ok (.iaload, 1) := by decide +kernel
theorem d_L_law_1888 : decode (pw_cc cx_L_law) 1888 = .ok (.aload_n 3, 1) := by decide +kernel
theorem d_L_law_1889 : decode (pw_cc cx_L_law) 1889 = .ok (.invokestatic 211, 3) := by decide +kernel
theorem d_L_law_1892 : decode (pw_cc cx_L_law) 1892 = .ok (.istore 5, 2) := by decide +kernel
theorem d_L_law_1894 : decode (pw_cc cx_L_law) 1894 = .ok (.aload_n 2, 1) := by decide +kernel
theorem d_L_law_1895 : decode (pw_cc cx_L_law) 1895 = .ok (.aload_n 0, 1) := by decide +kernel
theorem d_L_law_1896 : decode (pw_cc cx_L_law) 1896 = .ok (.iload 4, 2) := by decide +kernel
theorem d_L_law_1898 : decode (pw_cc cx_L_law) 1898 = .ok (.iconst 1, 1) := by decide +kernel
theorem d_L_law_1899 : decode (pw_cc cx_L_law) 1899 = .ok (.iadd, 1) := by decide +kernel
theorem d_L_law_1900 : decode (pw_cc cx_L_law) 1900 = .ok (.iaload, 1) := by decide +kernel
theorem d_L_law_1901 : decode (pw_cc cx_L_law) 1901 = .ok (.invokevirtual 213, 3) := by decide +kernel
theorem d_L_law_1904 : decode (pw_cc cx_L_law) 1904 = .ok (.istore 6, 2) := by decide +kernel
theorem d_L_law_1906 : decode (pw_cc cx_L_law) 1906 = .ok (.aload_n 2, 1) := by decide +kernel
theorem d_L_law_1907 : decode (pw_cc cx_L_law) 1907 = .ok (.invokevirtual 125, 3) := by decide +kernel
theorem d_L_law_1910 : decode (pw_cc cx_L_law) 1910 = .ok (.iload 5, 2) := by decide +kernel
theorem d_L_law_1912 : decode (pw_cc cx_L_law) 1912 = .ok (.if_icmp .eq 5, 3) := by decide +kernel
theorem d_L_law_1915 : decode (pw_cc cx_L_law) 1915 = .ok (.iconst 0, 1) := by decide +kernel
theorem d_L_law_1916 : decode (pw_cc cx_L_law) 1916 = .ok (.ireturn, 1) := by decide +kernel
theorem d_L_law_1917 : decode (pw_cc cx_L_law) 1917 = .ok (.iload 5, 2) := by decide +kernel
theorem d_L_law_1919 : decode (pw_cc cx_L_law) 1919 = .ok (.ifCond .ne 15, 3) := by decide +kernel
theorem d_L_law_1922 : decode (pw_cc cx_L_law) 1922 = .ok (.aload_n 3, 1) := by decide +kernel
theorem d_L_law_1923 : decode (pw_cc cx_L_law) 1923 = .ok (.iconst 0, 1) := by decide +kernel
theorem d_L_law_1924 : decode (pw_cc cx_L_law) 1924 = .ok (.laload, 1) := by decide +kernel
theorem d_L_law_1925 : decode (pw_cc cx_L_law) 1925 = .ok (.iload 6, 2) := by decide +kernel
theorem d_L_law_1927 : decode (pw_cc cx_L_law) 1927 = .ok (.i2l, 1) := by decide +kernel
theorem d_L_law_1928 : decode (pw_cc cx_L_law) 1928 = .ok (.lcmp, 1) := by decide +kernel
theorem d_L_law_1929 : decode (pw_cc cx_L_law) 1929 = .ok (.ifCond .eq 5, 3) := by decide +kernel
theorem d_L_law_1932 : decode (pw_cc cx_L_law) 1932 = .ok (.iconst 0, 1) := by decide +kernel
theorem d_L_law_1933 : decode (pw_cc cx_L_law) 1933 = .ok (.ireturn, 1) := by decide +kernel
theorem d_L_law_1934 : decode (pw_cc cx_L_law) 1934 = .ok (.goto 387, 3) := by decide +kernel
theorem d_L_law_1937 : decode (pw_cc cx_L_law) 1937 = .ok (.aload_n 1, 1) := by decide +kernel
theorem d_L_law_1938 : decode (pw_cc cx_L_law) 1938 = .ok (.aload_n 0, 1) := by decide +kernel
theorem d_L_law_1939 : decode (pw_cc cx_L_law) 1939 = .ok (.iload 4, 2) := by decide +kernel
theorem d_L_law_1941 : decode (pw_cc cx_L_law) 1941 = .ok (.iconst 1, 1) := by decide +kernel
theorem d_L_law_1942 : decode (pw_cc cx_L_law) 1942 = .ok (.iadd, 1) := by decide +kernel
theorem d_L_law_1943 : decode (pw_cc cx_L_law) 1943 = .ok (.iaload, 1) := by decide +kernel
theorem d_L_law_1944 : decode (pw_cc cx_L_law) 1944 = .ok (.aload_n 0, 1) := by decide +kernel
theorem d_L_law_1945 : decode (pw_cc cx_L_law) 1945 = .ok (.iload 4, 2) := by decide +kernel
theorem d_L_law_1947 : decode (pw_cc cx_L_law) 1947 = .ok (.iconst 2, 1) := by decide +kernel
theorem d_L_law_1948 : decode (pw_cc cx_L_law) 1948 = .ok (.iadd, 1) := by decide +kernel
theorem d_L_law_1949 : decode (pw_cc cx_L_law) 1949 = .ok (.iaload, 1) := by decide +kernel
theorem d_L_law_1950 : decode (pw_cc cx_L_law) 1950 = .ok (.aload_n 3, 1) := by decide +kernel
theorem d_L_law_1951 : decode (pw_cc cx_L_law) 1951 = .ok (.invokestatic 214, 3) := by decide +kernel
theorem d_L_law_1954 : decode (pw_cc cx_L_law) 1954 = .ok (.istore 5, 2) := by decide +kernel
theorem d_L_law_1956 : decode (pw_cc cx_L_law) 1956 = .ok (.aload_n 2, 1) := by decide +kernel
theorem d_L_law_1957 : decode (pw_cc cx_L_law) 1957 = .ok (.aload_n 0, 1) := by decide +kernel
theorem d_L_law_1958 : decode (pw_cc cx_L_law) 1958 = .ok (.iload 4, 2) := by decide +kernel
theorem d_L_law_1960 : decode (pw_cc cx_L_law) 1960 = .ok (.iconst 1, 1) := by decide +kernel
theorem d_L_law_1961 : decode (pw_cc cx_L_law) 1961 = .ok (.iadd, 1) := by decide +kernel
theorem d_L_law_1962 : decode (pw_cc cx_L_law) 1962 = .ok (.iaload, 1) := by decide +kernel
theorem d_L_law_1963 : decode (pw_cc cx_L_law) 1963 = .ok (.aload_n 0, 1) := by decide +kernel
theorem d_L_law_1964 : decode (pw_cc cx_L_law) 1964 = .ok (.iload 4, 2) := by decide +kernel
theorem d_L_law_1966 : decode (pw_cc cx_L_law) 1966 = .ok (.iconst 2, 1) := by decide +kernel
theorem d_L_law_1967 : decode (pw_cc cx_L_law) 1967 = .ok (.iadd, 1) := by decide +kernel
theorem d_L_law_1968 : decode (pw_cc cx_L_law) 1968 = .ok (.iaload, 1) := by decide +kernel
theorem d_L_law_1969 : decode (pw_cc cx_L_law) 1969 = .ok (.invokevirtual 216, 3) := by decide +kernel
theorem d_L_law_1972 : decode (pw_cc cx_L_law) 1972 = .ok (.istore 6, 2) := by decide +kernel
theorem d_L_law_1974 : decode (pw_cc cx_L_law) 1974 = .ok (.aload_n 2, 1) := by decide +kernel
theorem d_L_law_1975 : decode (pw_cc cx_L_law) 1975 = .ok (.invokevirtual 125, 3) := by decide +kernel
theorem d_L_law_1978 : decode (pw_cc cx_L_law) 1978 = .ok (.iload 5, 2) := by decide +kernel
theorem d_L_law_1980 : decode (pw_cc cx_L_law) 1980 = .ok (.if_icmp .eq 5, 3) := by decide +kernel
theorem d_L_law_1983 : decode (pw_cc cx_L_law) 1983 = .ok (.iconst 0, 1) := by decide +kernel
theorem d_L_law_1984 : decode (pw_cc cx_L_law) 1984 = .ok (.ireturn, 1) := by decide +kernel
theorem d_L_law_1985 : decode (pw_cc cx_L_law) 1985 = .ok (.iload 5, 2) := by decide +kernel
theorem d_L_law_1987 : decode (pw_cc cx_L_law) 1987 = .ok (.ifCond .ne 15, 3) := by decide +kernel
theorem d_L_law_1990 : decode (pw_cc cx_L_law) 1990 = .ok (.aload_n 3, 1) := by decide +kernel
theorem d_L_law_1991 : decode (pw_cc cx_L_law) 1991 = .ok (.iconst 0, 1) := by decide +kernel
theorem d_L_law_1992 : decode (pw_cc cx_L_law) 1992 = .ok (.laload, 1) := by decide +kernel
theorem d_L_law_1993 : decode (pw_cc cx_L_law) 1993 = .ok (.iload 6, 2) := by decide +kernel
theorem d_L_law_1995 : decode (pw_cc cx_L_law) 1995 = .ok (.i2l, 1) := by decide +kernel
theorem d_L_law_1996 : decode (pw_cc cx_L_law) 1996 = .ok (.lcmp, 1) := by decide +kernel
theorem d_L_law_1997 : decode (pw_cc cx_L_law) 1997 = .ok (.ifCond .eq 5, 3) := by decide +kernel
theorem d_L_law_2000 : decode (pw_cc cx_L_law) 2000 = .ok (.iconst 0, 1) := by decide +kernel
theorem d_L_law_2001 : decode (pw_cc cx_L_law) 2001 = .ok (.ireturn, 1) := by decide +kernel
theorem d_L_law_2002 : decode (pw_cc cx_L_law) 2002 = .ok (.goto 319, 3) := by decide +kernel
theorem d_L_law_2005 : decode (pw_cc cx_L_law) 2005 = .ok (.aload_n 1, 1) := by decide +kernel
theorem d_L_law_2006 : decode (pw_cc cx_L_law) 2006 = .ok (.aload_n 0, 1) := by decide +kernel
theorem d_L_law_2007 : decode (pw_cc cx_L_law) 2007 = .ok (.iload 4, 2) := by decide +kernel
theorem d_L_law_2009 : decode (pw_cc cx_L_law) 2009 = .ok (.iconst 1, 1) := by decide +kernel
theorem d_L_law_2010 : decode (pw_cc cx_L_law) 2010 = .ok (.iadd, 1) := by decide +kernel
theorem d_L_law_2011 : decode (pw_cc cx_L_law) 2011 = .ok (.iaload, 1) := by decide +kernel
theorem d_L_law_2012 : decode (pw_cc cx_L_law) 2012 = .ok (.aload_n 0, 1) := by decide +kernel
theorem d_L_law_2013 : decode (pw_cc cx_L_law) 2013 = .ok (.iload 4, 2) := by decide +kernel
theorem d_L_law_2015 : decode (pw_cc cx_L_law) 2015 = .ok (.iconst 2, 1) := by decide +kernel
theorem d_L_law_2016 : decode (pw_cc cx_L_law) 2016 = .ok (.iadd, 1) := by decide +kernel
theorem d_L_law_2017 : decode (pw_cc cx_L_law) 2017 = .ok (.iaload, 1) := by decide +kernel
theorem d_L_law_2018 : decode (pw_cc cx_L_law) 2018 = .ok (.aload_n 3, 1) := by decide +kernel
theorem d_L_law_2019 : decode (pw_cc cx_L_law) 2019 = .ok (.invokestatic 217, 3) := by decide +kernel
theorem d_L_law_2022 : decode (pw_cc cx_L_law) 2022 = .ok (.istore 5, 2) := by decide +kernel
theorem d_L_law_2024 : decode (pw_cc cx_L_law) 2024 = .ok (.aload_n 2, 1) := by decide +kernel
theorem d_L_law_2025 : decode (pw_cc cx_L_law) 2025 = .ok (.aload_n 0, 1) := by decide +kernel
theorem d_L_law_2026 : decode (pw_cc cx_L_law) 2026 = .ok (.iload 4, 2) := by decide +kernel
theorem d_L_law_2028 : decode (pw_cc cx_L_law) 2028 = .ok (.iconst 1, 1) := by decide +kernel
theorem d_L_law_2029 : decode (pw_cc cx_L_law) 2029 = .ok (.iadd, 1) := by decide +kernel
theorem d_L_law_2030 : decode (pw_cc cx_L_law) 2030 = .ok (.iaload, 1) := by decide +kernel
theorem d_L_law_2031 : decode (pw_cc cx_L_law) 2031 = .ok (.aload_n 0, 1) := by decide +kernel
theorem d_L_law_2032 : decode (pw_cc cx_L_law) 2032 = .ok (.iload 4, 2) := by decide +kernel
theorem d_L_law_2034 : decode (pw_cc cx_L_law) 2034 = .ok (.iconst 2, 1) := by decide +kernel
theorem d_L_law_2035 : decode (pw_cc cx_L_law) 2035 = .ok (.iadd, 1) := by decide +kernel
theorem d_L_law_2036 : decode (pw_cc cx_L_law) 2036 = .ok (.iaload, 1) := by decide +kernel
theorem d_L_law_2037 : decode (pw_cc cx_L_law) 2037 = .ok (.invokevirtual 219, 3) := by decide +kernel
theorem d_L_law_2040 : decode (pw_cc cx_L_law) 2040 = .ok (.istore 6, 2) := by decide +kernel
theorem d_L_law_2042 : decode (pw_cc cx_L_law) 2042 = .ok (.aload_n 2, 1) := by decide +kernel
theorem d_L_law_2043 : decode (pw_cc cx_L_law) 2043 = .ok (.invokevirtual 125, 3) := by decide +kernel
theorem d_L_law_2046 : decode (pw_cc cx_L_law) 2046 = .ok (.iload 5, 2) := by decide +kernel
theorem d_L_law_2048 : decode (pw_cc cx_L_law) 2048 = .ok (.if_icmp .eq 5, 3) := by decide +kernel
theorem d_L_law_2051 : decode (pw_cc cx_L_law) 2051 = .ok (.iconst 0, 1) := by decide +kernel
theorem d_L_law_2052 : decode (pw_cc cx_L_law) 2052 = .ok (.ireturn, 1) := by decide +kernel
theorem d_L_law_2053 : decode (pw_cc cx_L_law) 2053 = .ok (.iload 5, 2) := by decide +kernel
theorem d_L_law_2055 : decode (pw_cc cx_L_law) 2055 = .ok (.ifCond .ne 15, 3) := by decide +kernel
theorem d_L_law_2058 : decode (pw_cc cx_L_law) 2058 = .ok (.aload_n 3, 1) := by decide +kernel
theorem d_L_law_2059 : decode (pw_cc cx_L_law) 2059 = .ok (.iconst 0, 1) := by decide +kernel
theorem d_L_law_2060 : decode (pw_cc cx_L_law) 2060 = .ok (.laload, 1) := by decide +kernel
theorem d_L_law_2061 : decode (pw_cc cx_L_law) 2061 = .ok (.iload 6, 2) := by decide +kernel
theorem d_L_law_2063 : decode (pw_cc cx_L_law) 2063 = .ok (.i2l, 1) := by decide +kernel
theorem d_L_law_2064 : decode (pw_cc cx_L_law) 2064 = .ok (.lcmp, 1) := by decide +kernel
theorem d_L_law_2065 : decode (pw_cc cx_L_law) 2065 = .ok (.ifCond .eq 5, 3) := by decide +kernel
theorem d_L_law_2068 : decode (pw_cc cx_L_law) 2068 = .ok (.iconst 0, 1) := by decide +kernel
theorem d_L_law_2069 : decode (pw_cc cx_L_law) 2069 = .ok (.ireturn, 1) := by decide +kernel
theorem d_L_law_2070 : decode (pw_cc cx_L_law) 2070 = .ok (.goto 251, 3) := by decide +kernel
theorem d_L_law_2073 : decode (pw_cc cx_L_law) 2073 = .ok (.aload_n 1, 1) := by decide +kernel
theorem d_L_law_2074 : decode (pw_cc cx_L_law) 2074 = .ok (.aload_n 0, 1) := by decide +kernel
theorem d_L_law_2075 : decode (pw_cc cx_L_law) 2075 = .ok (.iload 4, 2) := by decide +kernel
theorem d_L_law_2077 : decode (pw_cc cx_L_law) 2077 = .ok (.iconst 1, 1) := by decide +kernel
theorem d_L_law_2078 : decode (pw_cc cx_L_law) 2078 = .ok (.iadd, 1) := by decide +kernel
theorem d_L_law_2079 : decode (pw_cc cx_L_law) 2079 = .ok (.iaload, 1) := by decide +kernel
theorem d_L_law_2080 : decode (pw_cc cx_L_law) 2080 = .ok (.aload_n 0, 1) := by decide +kernel
theorem d_L_law_2081 : decode (pw_cc cx_L_law) 2081 = .ok (.iload 4, 2) := by decide +kernel
theorem d_L_law_2083 : decode (pw_cc cx_L_law) 2083 = .ok (.iconst 2, 1) := by decide +kernel
theorem d_L_law_2084 : decode (pw_cc cx_L_law) 2084 = .ok (.iadd, 1) := by decide +kernel
theorem d_L_law_2085 : decode (pw_cc cx_L_law) 2085 = .ok (.iaload, 1) := by decide +kernel
theorem d_L_law_2086 : decode (pw_cc cx_L_law) 2086 = .ok (.aload_n 3, 1) := by decide +kernel
theorem d_L_law_2087 : decode (pw_cc cx_L_law) 2087 = .ok (.invokestatic 220, 3) := by decide +kernel
theorem d_L_law_2090 : decode (pw_cc cx_L_law) 2090 = .ok (.istore 5, 2) := by decide +kernel
theorem d_L_law_2092 : decode (pw_cc cx_L_law) 2092 = .ok (.aload_n 2, 1) := by decide +kernel
theorem d_L_law_2093 : decode (pw_cc cx_L_law) 2093 = .ok (.aload_n 0, 1) := by decide +kernel
theorem d_L_law_2094 : decode (pw_cc cx_L_law) 2094 = .ok (.iload 4, 2) := by decide +kernel
theorem d_L_law_2096 : decode (pw_cc cx_L_law) 2096 = .ok (.iconst 1, 1) := by decide +kernel
theorem d_L_law_2097 : decode (pw_cc cx_L_law) 2097 = .ok (.iadd, 1) := by decide +kernel
theorem d_L_law_2098 : decode (pw_cc cx_L_law) 2098 = .ok (.iaload, 1) := by decide +kernel
theorem d_L_law_2099 : decode (pw_cc cx_L_law) 2099 = .ok (.aload_n 0, 1) := by decide +kernel
theorem d_L_law_2100 : decode (pw_cc cx_L_law) 2100 = .ok (.iload 4, 2) := by decide +kernel
theorem d_L_law_2102 : decode (pw_cc cx_L_law) 2102 = .ok (.iconst 2, 1) := by decide +kernel
theorem d_L_law_2103 : decode (pw_cc cx_L_law) 2103 = .ok (.iadd, 1) := by decide +kernel
theorem d_L_law_2104 : decode (pw_cc cx_L_law) 2104 = .ok (.iaload, 1) := by decide +kernel
theorem d_L_law_2105 : decode (pw_cc cx_L_law) 2105 = .ok (.invokevirtual 222, 3) := by decide +kernel
theorem d_L_law_2108 : decode (pw_cc cx_L_law) 2108 = .ok (.istore 6, 2) := by decide +kernel
theorem d_L_law_2110 : decode (pw_cc cx_L_law) 2110 = .ok (.aload_n 2, 1) := by decide +kernel
theorem d_L_law_2111 : decode (pw_cc cx_L_law) 2111 = .ok (.invokevirtual 125, 3) := by decide +kernel
theorem d_L_law_2114 : decode (pw_cc cx_L_law) 2114 = .ok (.iload 5, 2) := by decide +kernel
theorem d_L_law_2116 : decode (pw_cc cx_L_law) 2116 = .ok (.if_icmp .eq 5, 3) := by decide +kernel
theorem d_L_law_2119 : decode (pw_cc cx_L_law) 2119 = .ok (.iconst 0, 1) := by decide +kernel
theorem d_L_law_2120 : decode (pw_cc cx_L_law) 2120 = .ok (.ireturn, 1) := by decide +kernel
theorem d_L_law_2121 : decode (pw_cc cx_L_law) 2121 = .ok (.iload 5, 2) := by decide +kernel
theorem d_L_law_2123 : decode (pw_cc cx_L_law) 2123 = .ok (.ifCond .ne 15, 3) := by decide +kernel
theorem d_L_law_2126 : decode (pw_cc cx_L_law) 2126 = .ok (.aload_n 3, 1) := by decide +kernel
theorem d_L_law_2127 : decode (pw_cc cx_L_law) 2127 = .ok (.iconst 0, 1) := by decide +kernel
theorem d_L_law_2128 : decode (pw_cc cx_L_law) 2128 = .ok (.laload, 1) := by decide +kernel
theorem d_L_law_2129 : decode (pw_cc cx_L_law) 2129 = .ok (.iload 6, 2) := by decide +kernel
theorem d_L_law_2131 : decode (pw_cc cx_L_law) 2131 = .ok (.i2l, 1) := by decide +kernel
theorem d_L_law_2132 : decode (pw_cc cx_L_law) 2132 = .ok (.lcmp, 1) := by decide +kernel
theorem d_L_law_2133 : decode (pw_cc cx_L_law) 2133 = .ok (.ifCond .eq 5, 3) := by decide +kernel
theorem d_L_law_2136 : decode (pw_cc cx_L_law) 2136 = .ok (.iconst 0, 1) := by decide +kernel
theorem d_L_law_2137 : decode (pw_cc cx_L_law) 2137 = .ok (.ireturn, 1) := by decide +kernel
theorem d_L_law_2138 : decode (pw_cc cx_L_law) 2138 = .ok (.goto 183, 3) := by decide +kernel
theorem d_L_law_2141 : decode (pw_cc cx_L_law) 2141 = .ok (.aload_n 1, 1) := by decide +kernel
theorem d_L_law_2142 : decode (pw_cc cx_L_law) 2142 = .ok (.aload_n 0, 1) := by decide +kernel
theorem d_L_law_2143 : decode (pw_cc cx_L_law) 2143 = .ok (.iload 4, 2) := by decide +kernel
theorem d_L_law_2145 : decode (pw_cc cx_L_law) 2145 = .ok (.iconst 1, 1) := by decide +kernel
theorem d_L_law_2146 : decode (pw_cc cx_L_law) 2146 = .ok (.iadd, 1) := by decide +kernel
theorem d_L_law_2147 : decode (pw_cc cx_L_law) 2147 = .ok (.iaload, 1) := by decide +kernel
theorem d_L_law_2148 : decode (pw_cc cx_L_law) 2148 = .ok (.aload_n 3, 1) := by decide +kernel
theorem d_L_law_2149 : decode (pw_cc cx_L_law) 2149 = .ok (.invokestatic 223, 3) := by decide +kernel
theorem d_L_law_2152 : decode (pw_cc cx_L_law) 2152 = .ok (.istore 5, 2) := by decide +kernel
theorem d_L_law_2154 : decode (pw_cc cx_L_law) 2154 = .ok (.aload_n 2, 1) := by decide +kernel
theorem d_L_law_2155 : decode (pw_cc cx_L_law) 2155 = .ok (.aload_n 0, 1) := by decide +kernel
theorem d_L_law_2156 : decode (pw_cc cx_L_law) 2156 = .ok (.iload 4, 2) := by decide +kernel
theorem d_L_law_2158 : decode (pw_cc cx_L_law) 2158 = .ok (.iconst 1, 1) := by decide +kernel
theorem d_L_law_2159 : decode (pw_cc cx_L_law) 2159 = .ok (.iadd, 1) := by decide +kernel
theorem d_L_law_2160 : decode (pw_cc cx_L_law) 2160 = .ok (.iaload, 1) := by decide +kernel
theorem d_L_law_2161 : decode (pw_cc cx_L_law) 2161 = .ok (.invokevirtual 225, 3) := by decide +kernel
theorem d_L_law_2164 : decode (pw_cc cx_L_law) 2164 = .ok (.istore 6, 2) := by decide +kernel
theorem d_L_law_2166 : decode (pw_cc cx_L_law) 2166 = .ok (.aload_n 2, 1) := by decide +kernel
theorem d_L_law_2167 : decode (pw_cc cx_L_law) 2167 = .ok (.invokevirtual 125, 3) := by decide +kernel
theorem d_L_law_2170 : decode (pw_cc cx_L_law) 2170 = .ok (.iload 5, 2) := by decide +kernel
theorem d_L_law_2172 : decode (pw_cc cx_L_law) 2172 = .ok (.if_icmp .eq 5, 3) := by decide +kernel
theorem d_L_law_2175 : decode (pw_cc cx_L_law) 2175 = .ok (.iconst 0, 1) := by decide +kernel
theorem d_L_law_2176 : decode (pw_cc cx_L_law) 2176 = .ok (.ireturn, 1) := by decide +kernel
theorem d_L_law_2177 : decode (pw_cc cx_L_law) 2177 = .ok (.iload 5, 2) := by decide +kernel
theorem d_L_law_2179 : decode (pw_cc cx_L_law) 2179 = .ok (.ifCond .ne 15, 3) := by decide +kernel
theorem d_L_law_2182 : decode (pw_cc cx_L_law) 2182 = .ok (.aload_n 3, 1) := by decide +kernel
theorem d_L_law_2183 : decode (pw_cc cx_L_law) 2183 = .ok (.iconst 0, 1) := by decide +kernel
theorem d_L_law_2184 : decode (pw_cc cx_L_law) 2184 = .ok (.laload, 1) := by decide +kernel
theorem d_L_law_2185 : decode (pw_cc cx_L_law) 2185 = .ok (.iload 6, 2) := by decide +kernel
theorem d_L_law_2187 : decode (pw_cc cx_L_law) 2187 = .ok (.i2l, 1) := by decide +kernel
theorem d_L_law_2188 : decode (pw_cc cx_L_law) 2188 = .ok (.lcmp, 1) := by decide +kernel
theorem d_L_law_2189 : decode (pw_cc cx_L_law) 2189 = .ok (.ifCond .eq 5, 3) := by decide +kernel
theorem d_L_law_2192 : decode (pw_cc cx_L_law) 2192 = .ok (.iconst 0, 1) := by decide +kernel
theorem d_L_law_2193 : decode (pw_cc cx_L_law) 2193 = .ok (.ireturn, 1) := by decide +kernel
theorem d_L_law_2194 : decode (pw_cc cx_L_law) 2194 = .ok (.goto 127, 3) := by decide +kernel
theorem d_L_law_2197 : decode (pw_cc cx_L_law) 2197 = .ok (.aload_n 1, 1) := by decide +kernel
theorem d_L_law_2198 : decode (pw_cc cx_L_law) 2198 = .ok (.aload_n 0, 1) := by decide +kernel
theorem d_L_law_2199 : decode (pw_cc cx_L_law) 2199 = .ok (.iload 4, 2) := by decide +kernel
theorem d_L_law_2201 : decode (pw_cc cx_L_law) 2201 = .ok (.iconst 1, 1) := by decide +kernel
theorem d_L_law_2202 : decode (pw_cc cx_L_law) 2202 = .ok (.iadd, 1) := by decide +kernel
theorem d_L_law_2203 : decode (pw_cc cx_L_law) 2203 = .ok (.iaload, 1) := by decide +kernel
theorem d_L_law_2204 : decode (pw_cc cx_L_law) 2204 = .ok (.aload_n 3, 1) := by decide +kernel
theorem d_L_law_2205 : decode (pw_cc cx_L_law) 2205 = .ok (.invokestatic 226, 3) := by decide +kernel
theorem d_L_law_2208 : decode (pw_cc cx_L_law) 2208 = .ok (.istore 5, 2) := by decide +kernel
theorem d_L_law_2210 : decode (pw_cc cx_L_law) 2210 = .ok (.aload_n 2, 1) := by decide +kernel
theorem d_L_law_2211 : decode (pw_cc cx_L_law) 2211 = .ok (.aload_n 0, 1) := by decide +kernel
theorem d_L_law_2212 : decode (pw_cc cx_L_law) 2212 = .ok (.iload 4, 2) := by decide +kernel
theorem d_L_law_2214 : decode (pw_cc cx_L_law) 2214 = .ok (.iconst 1, 1) := by decide +kernel
theorem d_L_law_2215 : decode (pw_cc cx_L_law) 2215 = .ok (.iadd, 1) := by decide +kernel
theorem d_L_law_2216 : decode (pw_cc cx_L_law) 2216 = .ok (.iaload, 1) := by decide +kernel
theorem d_L_law_2217 : decode (pw_cc cx_L_law) 2217 = .ok (.invokevirtual 228, 3) := by decide +kernel
theorem d_L_law_2220 : decode (pw_cc cx_L_law) 2220 = .ok (.istore 6, 2) := by decide +kernel
theorem d_L_law_2222 : decode (pw_cc cx_L_law) 2222 = .ok (.aload_n 2, 1) := by decide +kernel
theorem d_L_law_2223 : decode (pw_cc cx_L_law) 2223 = .ok (.invokevirtual 125, 3) := by decide +kernel
theorem d_L_law_2226 : decode (pw_cc cx_L_law) 2226 = .ok (.iload 5, 2) := by decide +kernel
theorem d_L_law_2228 : decode (pw_cc cx_L_law) 2228 = .ok (.if_icmp .eq 5, 3) := by decide +kernel
theorem d_L_law_2231 : decode (pw_cc cx_L_law) 2231 = .ok (.iconst 0, 1) := by decide +kernel
theorem d_L_law_2232 : decode (pw_cc cx_L_law) 2232 = .ok (.ireturn, 1) := by decide +kernel
theorem d_L_law_2233 : decode (pw_cc cx_L_law) 2233 = .ok (.iload 5, 2) := by decide +kernel
theorem d_L_law_2235 : decode (pw_cc cx_L_law) 2235 = .ok (.ifCond .ne 15, 3) := by decide +kernel
theorem d_L_law_2238 : decode (pw_cc cx_L_law) 2238 = .ok (.aload_n 3, 1) := by decide +kernel
theorem d_L_law_2239 : decode (pw_cc cx_L_law) 2239 = .ok (.iconst 0, 1) := by decide +kernel
theorem d_L_law_2240 : decode (pw_cc cx_L_law) 2240 = .ok (.laload, 1) := by decide +kernel
theorem d_L_law_2241 : decode (pw_cc cx_L_law) 2241 = .ok (.iload 6, 2) := by decide +kernel
theorem d_L_law_2243 : decode (pw_cc cx_L_law) 2243 = .ok (.i2l, 1) := by decide +kernel
theorem d_L_law_2244 : decode (pw_cc cx_L_law) 2244 = .ok (.lcmp, 1) := by decide +kernel
theorem d_L_law_2245 : decode (pw_cc cx_L_law) 2245 = .ok (.ifCond .eq 5, 3) := by decide +kernel
theorem d_L_law_2248 : decode (pw_cc cx_L_law) 2248 = .ok (.iconst 0, 1) := by decide +kernel
theorem d_L_law_2249 : decode (pw_cc cx_L_law) 2249 = .ok (.ireturn, 1) := by decide +kernel
theorem d_L_law_2250 : decode (pw_cc cx_L_law) 2250 = .ok (.goto 71, 3) := by decide +kernel
theorem d_L_law_2253 : decode (pw_cc cx_L_law) 2253 = .ok (.aload_n 1, 1) := by decide +kernel
theorem d_L_law_2254 : decode (pw_cc cx_L_law) 2254 = .ok (.aload_n 0, 1) := by decide +kernel
theorem d_L_law_2255 : decode (pw_cc cx_L_law) 2255 = .ok (.iload 4, 2) := by decide +kernel
theorem d_L_law_2257 : decode (pw_cc cx_L_law) 2257 = .ok (.iconst 1, 1) := by decide +kernel
theorem d_L_law_2258 : decode (pw_cc cx_L_law) 2258 = .ok (.iadd, 1) := by decide +kernel
theorem d_L_law_2259 : decode (pw_cc cx_L_law) 2259 = .ok (.iaload, 1) := by decide +kernel
theorem d_L_law_2260 : decode (pw_cc cx_L_law) 2260 = .ok (.aload_n 0, 1) := by decide +kernel
theorem d_L_law_2261 : decode (pw_cc cx_L_law) 2261 = .ok (.iload 4, 2) := by decide +kernel
theorem d_L_law_2263 : decode (pw_cc cx_L_law) 2263 = .ok (.iconst 2, 1) := by decide +kernel
theorem d_L_law_2264 : decode (pw_cc cx_L_law) 2264 = .ok (.iadd, 1) := by decide +kernel
theorem d_L_law_2265 : decode (pw_cc cx_L_law) 2265 = .ok (.iaload, 1) := by decide +kernel
theorem d_L_law_2266 : decode (pw_cc cx_L_law) 2266 = .ok (.aload_n 3, 1) := by decide +kernel
theorem d_L_law_2267 : decode (pw_cc cx_L_law) 2267 = .ok (.invokestatic 229, 3) := by decide +kernel
theorem d_L_law_2270 : decode (pw_cc cx_L_law) 2270 = .ok (.istore 5, 2) := by decide +kernel
theorem d_L_law_2272 : decode (pw_cc cx_L_law) 2272 = .ok (.aload_n 2, 1) := by decide +kernel
theorem d_L_law_2273 : decode (pw_cc cx_L_law) 2273 = .ok (.aload_n 0, 1) := by decide +kernel
theorem d_L_law_2274 : decode (pw_cc cx_L_law) 2274 = .ok (.iload 4, 2) := by decide +kernel
theorem d_L_law_2276 : decode (pw_cc cx_L_law) 2276 = .ok (.iconst 1, 1) := by decide +kernel
theorem d_L_law_2277 : decode (pw_cc cx_L_law) 2277 = .ok (.iadd, 1) := by decide +kernel
theorem d_L_law_2278 : decode (pw_cc cx_L_law) 2278 = .ok (.iaload, 1) := by decide +kernel
theorem d_L_law_2279 : decode (pw_cc cx_L_law) 2279 = .ok (.aload_n 0, 1) := by decide +kernel
theorem d_L_law_2280 : decode (pw_cc cx_L_law) 2280 = .ok (.iload 4, 2) := by decide +kernel
theorem d_L_law_2282 : decode (pw_cc cx_L_law) 2282 = .ok (.iconst 2, 1) := by decide +kernel
theorem d_L_law_2283 : decode (pw_cc cx_L_law) 2283 = .ok (.iadd, 1) := by decide +kernel
theorem d_L_law_2284 : decode (pw_cc cx_L_law) 2284 = .ok (.iaload, 1) := by decide +kernel
theorem d_L_law_2285 : decode (pw_cc cx_L_law) 2285 = .ok (.invokevirtual 231, 3) := by decide +kernel
theorem d_L_law_2288 : decode (pw_cc cx_L_law) 2288 = .ok (.istore 6, 2) := by decide +kernel
theorem d_L_law_2290 : decode (pw_cc cx_L_law) 2290 = .ok (.aload_n 2, 1) := by decide +kernel
theorem d_L_law_2291 : decode (pw_cc cx_L_law) 2291 = .ok (.invokevirtual 125, 3) := by decide +kernel
theorem d_L_law_2294 : decode (pw_cc cx_L_law) 2294 = .ok (.iload 5, 2) := by decide +kernel
theorem d_L_law_2296 : decode (pw_cc cx_L_law) 2296 = .ok (.if_icmp .eq 5, 3) := by decide +kernel
theorem d_L_law_2299 : decode (pw_cc cx_L_law) 2299 = .ok (.iconst 0, 1) := by decide +kernel
theorem d_L_law_2300 : decode (pw_cc cx_L_law) 2300 = .ok (.ireturn, 1) := by decide +kernel
theorem d_L_law_2301 : decode (pw_cc cx_L_law) 2301 = .ok (.iload 5, 2) := by decide +kernel
theorem d_L_law_2303 : decode (pw_cc cx_L_law) 2303 = .ok (.ifCond .ne 15, 3) := by decide +kernel
theorem d_L_law_2306 : decode (pw_cc cx_L_law) 2306 = .ok (.aload_n 3, 1) := by decide +kernel
theorem d_L_law_2307 : decode (pw_cc cx_L_law) 2307 = .ok (.iconst 0, 1) := by decide +kernel
theorem d_L_law_2308 : decode (pw_cc cx_L_law) 2308 = .ok (.laload, 1) := by decide +kernel
theorem d_L_law_2309 : decode (pw_cc cx_L_law) 2309 = .ok (.iload 6, 2) := by decide +kernel
theorem d_L_law_2311 : decode (pw_cc cx_L_law) 2311 = .ok (.i2l, 1) := by decide +kernel
theorem d_L_law_2312 : decode (pw_cc cx_L_law) 2312 = .ok (.lcmp, 1) := by decide +kernel
theorem d_L_law_2313 : decode (pw_cc cx_L_law) 2313 = .ok (.ifCond .eq 5, 3) := by decide +kernel
theorem d_L_law_2316 : decode (pw_cc cx_L_law) 2316 = .ok (.iconst 0, 1) := by decide +kernel
theorem d_L_law_2317 : decode (pw_cc cx_L_law) 2317 = .ok (.ireturn, 1) := by decide +kernel
theorem d_L_law_2318 : decode (pw_cc cx_L_law) 2318 = .ok (.goto 3, 3) := by decide +kernel
theorem d_L_law_2321 : decode (pw_cc cx_L_law) 2321 = .ok (.iinc 4 5, 3) := by decide +kernel
theorem d_L_law_2324 : decode (pw_cc cx_L_law) 2324 = .ok (.goto (-2301), 3) := by decide +kernel
theorem d_L_law_2327 : decode (pw_cc cx_L_law) 2327 = .ok (.iconst 1, 1) := by decide +kernel
theorem d_L_law_2328 : decode (pw_cc cx_L_law) 2328 = .ok (.ireturn, 1) := by decide +kernel
set_option maxHeartbeats 4000000 in
set_option maxRecDepth 20000 in
def jp_L_law_966 (Ln : Nat) (xs : Nat → Int32) (Q : pw_W → Int32 → Prop) (X : pw_W → Nat → Prop) (K23 : Int32 → pw_W → Prop) (a4 s0 s1 : Int32) (w : pw_W) : Prop := ∀ r1 : Int32, (r1 = 0 ↔ s1 = s0) → (r1 = 0 → K23 (a4 + 5) w) ∧ (¬ r1 = 0 → Q w 0)
set_option maxHeartbeats 4000000 in
set_option maxRecDepth 20000 in
theorem vjp_L_law_966 {l : Launch} {g : pw_G} {Q : pw_W → Int32 → Prop} {X : pw_W → Nat → Prop} {Ln : Nat} {xs : Nat → Int32} (hl0 : l.stackTraces = false) (hsc : pw_sc g Ln xs) {K23 : Int32 → pw_W → Prop} (hK23 : ∀ (a4 : Int32) (w : pw_W), K23 a4 w → pw_V l g cx_L_law Q X 23 [(3000, 0), (9, 0), (10, 0), (15, 0), (0, a4), (1, 0), (1, 0)] [] w) (a4 s0 s1 : Int32) (w : pw_W) (h : jp_L_law_966 Ln xs Q X K23 a4 s0 s1 w) : pw_V l g cx_L_law Q X 966 [(3000, 0), (9, 0), (10, 0), (15, 0), (0, a4), (1, 0), (1, 0)] [(1, s0), (1, s1)] w := by
  unfold jp_L_law_966 at h
  refine pv_lcmp (n := 967) d_L_law_966 rfl (fun r1 hr => ?_)
  replace h := h r1 hr
  refine pv_if_eq (n := 970) (tgt := 972) d_L_law_967 (by decide) rfl (fun c2 => ?_) (fun c2 => ?_)
  · replace h := h.1 c2
    refine pv_goto (tgt := 2321) d_L_law_972 (by decide) ?_
    refine pv_iinc (v := (a4 + 5)) (n := 2324) (L1 := [(3000, 0), (9, 0), (10, 0), (15, 0), (0, (a4 + 5)), (1, 0), (1, 0)]) d_L_law_2321 rfl rfl rfl (by decide) rfl ?_
    refine pv_goto (tgt := 23) d_L_law_2324 (by decide) ?_
    exact hK23 _ _ h
  · replace h := h.2 c2
    refine pv_iconst (v := 0) (n := 971) d_L_law_970 (by decide) rfl ?_
    exact pv_zret rfl rfl d_L_law_971 (by decide) h
set_option maxHeartbeats 4000000 in
set_option maxRecDepth 20000 in
def jp_L_law_666 (Ln : Nat) (xs : Nat → Int32) (Q : pw_W → Int32 → Prop) (X : pw_W → Nat → Prop) (K23 : Int32 → pw_W → Prop) (a4 a5 s0 s1 : Int32) (w : pw_W) : Prop := pw_jn (a4 + 3) Ln ∧ wp_M_evidence w s1 s0 (xs (pw_i (a4 + 3))) (fun w4 r5 => wp_M_thrown w4  (fun w6 r7 => (r7 = a5 → (¬ a5 = 0 → K23 (a4 + 5) w6) ∧ (a5 = 0 → pw_jn 0 (pw_ln w6 13 0) ∧ ∀ r11 : Int32, (r11 = 0 ↔ (w6.1 13 0 0) = r5) → (r11 = 0 → K23 (a4 + 5) w6) ∧ (¬ r11 = 0 → Q w6 0))) ∧ (¬ r7 = a5 → Q w6 0)) (fun _ _ => False)) (fun _ _ => False)
set_option maxHeartbeats 4000000 in
set_option maxRecDepth 20000 in
theorem vjp_L_law_666 {l : Launch} {g : pw_G} {Q : pw_W → Int32 → Prop} {X : pw_W → Nat → Prop} {Ln : Nat} {xs : Nat → Int32} (hl0 : l.stackTraces = false) (hsc : pw_sc g Ln xs) {K23 : Int32 → pw_W → Prop} (hK23 : ∀ (a4 : Int32) (w : pw_W), K23 a4 w → pw_V l g cx_L_law Q X 23 [(3000, 0), (9, 0), (10, 0), (15, 0), (0, a4), (1, 0), (1, 0)] [] w) (a4 a5 s0 s1 : Int32) (w : pw_W) (h : jp_L_law_666 Ln xs Q X K23 a4 a5 s0 s1 w) : pw_V l g cx_L_law Q X 666 [(3000, 0), (9, 0), (10, 0), (15, 0), (0, a4), (0, a5), (1, 0)] [(0, s0), (0, s1), (10, 0)] w := by
  unfold jp_L_law_666 at h
  refine pv_aload_n (n := 667) d_L_law_666 rfl rfl rfl ?_
  refine pv_iload (n := 669) d_L_law_667 rfl rfl ?_
  refine pv_iconst (v := 3) (n := 670) d_L_law_669 (by decide) rfl ?_
  refine pv_iadd (n := 671) d_L_law_670 rfl ?_
  obtain ⟨g3, h⟩ := h
  refine pv_sld (n := 672) hsc d_L_law_671 g3 rfl ?_
  refine pv_callV (n := 675) (x := 0) [(0, s1), (0, s0), (0, (xs (pw_i (a4 + 3))))] [] (con_M_evidence hl0 h) pw_cf8 rfl q_791 q_792 q_793 q_458 q_790 pyo_M_evidence (by decide) rfl rfl (by decide) d_L_law_672 rfl (fun w4 r5 h _ => ?_) (fun _ _ h => h.elim)
  show pw_V l g cx_L_law Q X 675 [(3000, 0), (9, 0), (10, 0), (15, 0), (0, a4), (0, a5), (1, 0)] [(0, r5)] w4
  refine pv_istore (n := 677) (L' := [(3000, 0), (9, 0), (10, 0), (15, 0), (0, a4), (0, a5), (0, r5)]) d_L_law_675 (by decide) rfl rfl ?_
  refine pv_aload_n (n := 678) d_L_law_677 rfl rfl rfl ?_
  refine pv_callV (n := 681) (x := 0) [] [] (con_M_thrown hl0 h) pw_cf8 rfl q_787 q_788 q_789 q_458 q_786 pyo_M_thrown (by decide) rfl rfl (by decide) d_L_law_678 rfl (fun w6 r7 h _ => ?_) (fun _ _ h => h.elim)
  show pw_V l g cx_L_law Q X 681 [(3000, 0), (9, 0), (10, 0), (15, 0), (0, a4), (0, a5), (0, r5)] [(0, r7)] w6
  refine pv_iload (n := 683) d_L_law_681 rfl rfl ?_
  refine pv_icmp_eq (n := 686) (tgt := 688) d_L_law_683 (by decide) rfl (fun c8 => ?_) (fun c8 => ?_)
  · replace h := h.1 c8
    refine pv_iload (n := 690) d_L_law_688 rfl rfl ?_
    refine pv_if_ne (n := 693) (tgt := 705) d_L_law_690 (by decide) rfl (fun c9 => ?_) (fun c9 => ?_)
    · replace h := h.1 c9
      refine pv_goto (tgt := 2321) d_L_law_705 (by decide) ?_
      refine pv_iinc (v := (a4 + 5)) (n := 2324) (L1 := [(3000, 0), (9, 0), (10, 0), (15, 0), (0, (a4 + 5)), (0, a5), (0, r5)]) d_L_law_2321 rfl rfl rfl (by decide) rfl ?_
      refine pv_goto (tgt := 23) d_L_law_2324 (by decide) ?_
      refine pv_unset (i := 5) (L1 := [(3000, 0), (9, 0), (10, 0), (15, 0), (0, (a4 + 5)), (1, 0), (0, r5)]) rfl ?_
      refine pv_unset (i := 6) (L1 := [(3000, 0), (9, 0), (10, 0), (15, 0), (0, (a4 + 5)), (1, 0), (1, 0)]) rfl ?_
      exact hK23 _ _ h
    · replace h := h.2 c9
      refine pv_aload_n (n := 694) d_L_law_693 rfl rfl rfl ?_
      refine pv_iconst (v := 0) (n := 695) d_L_law_694 (by decide) rfl ?_
      obtain ⟨g10, h⟩ := h
      refine pv_lald (n := 696) (f := 13) (by decide) rfl d_L_law_695 (by decide) g10 rfl ?_
      refine pv_iload (n := 698) d_L_law_696 rfl rfl ?_
      refine pv_i2l (n := 699) d_L_law_698 rfl ?_
      refine pv_lcmp (n := 700) d_L_law_699 rfl (fun r11 hr => ?_)
      replace h := h r11 hr
      refine pv_if_eq (n := 703) (tgt := 705) d_L_law_700 (by decide) rfl (fun c12 => ?_) (fun c12 => ?_)
      · replace h := h.1 c12
        refine pv_goto (tgt := 2321) d_L_law_705 (by decide) ?_
        refine pv_iinc (v := (a4 + 5)) (n := 2324) (L1 := [(3000, 0), (9, 0), (10, 0), (15, 0), (0, (a4 + 5)), (0, a5), (0, r5)]) d_L_law_2321 rfl rfl rfl (by decide) rfl ?_
        refine pv_goto (tgt := 23) d_L_law_2324 (by decide) ?_
        refine pv_unset (i := 5) (L1 := [(3000, 0), (9, 0), (10, 0), (15, 0), (0, (a4 + 5)), (1, 0), (0, r5)]) rfl ?_
        refine pv_unset (i := 6) (L1 := [(3000, 0), (9, 0), (10, 0), (15, 0), (0, (a4 + 5)), (1, 0), (1, 0)]) rfl ?_
        exact hK23 _ _ h
      · replace h := h.2 c12
        refine pv_iconst (v := 0) (n := 704) d_L_law_703 (by decide) rfl ?_
        exact pv_zret rfl rfl d_L_law_704 (by decide) h
  · replace h := h.2 c8
    refine pv_iconst (v := 0) (n := 687) d_L_law_686 (by decide) rfl ?_
    exact pv_zret rfl rfl d_L_law_687 (by decide) h
set_option maxHeartbeats 4000000 in
set_option maxRecDepth 20000 in
def jp_L_law_633 (Ln : Nat) (xs : Nat → Int32) (Q : pw_W → Int32 → Prop) (X : pw_W → Nat → Prop) (K23 : Int32 → pw_W → Prop) (a4 s0 s1 : Int32) (w : pw_W) : Prop := pw_jn (a4 + 3) Ln ∧ wp_L_evidence w s1 s0 (xs (pw_i (a4 + 3))) (fun w14 r15 => pw_jn (a4 + 1) Ln ∧ pw_jn (a4 + 2) Ln ∧ ((xs (pw_i (a4 + 2))) = 0 → jp_L_law_666 Ln xs Q X K23 a4 r15 0 (xs (pw_i (a4 + 1))) w14) ∧ (¬ (xs (pw_i (a4 + 2))) = 0 → jp_L_law_666 Ln xs Q X K23 a4 r15 1 (xs (pw_i (a4 + 1))) w14)) (fun _ _ => False)
set_option maxHeartbeats 4000000 in
set_option maxRecDepth 20000 in
theorem vjp_L_law_633 {l : Launch} {g : pw_G} {Q : pw_W → Int32 → Prop} {X : pw_W → Nat → Prop} {Ln : Nat} {xs : Nat → Int32} (hl0 : l.stackTraces = false) (hsc : pw_sc g Ln xs) {K23 : Int32 → pw_W → Prop} (hK23 : ∀ (a4 : Int32) (w : pw_W), K23 a4 w → pw_V l g cx_L_law Q X 23 [(3000, 0), (9, 0), (10, 0), (15, 0), (0, a4), (1, 0), (1, 0)] [] w) (a4 s0 s1 : Int32) (w : pw_W) (h : jp_L_law_633 Ln xs Q X K23 a4 s0 s1 w) : pw_V l g cx_L_law Q X 633 [(3000, 0), (9, 0), (10, 0), (15, 0), (0, a4), (1, 0), (1, 0)] [(0, s0), (0, s1), (9, 0)] w := by
  unfold jp_L_law_633 at h
  refine pv_aload_n (n := 634) d_L_law_633 rfl rfl rfl ?_
  refine pv_iload (n := 636) d_L_law_634 rfl rfl ?_
  refine pv_iconst (v := 3) (n := 637) d_L_law_636 (by decide) rfl ?_
  refine pv_iadd (n := 638) d_L_law_637 rfl ?_
  obtain ⟨g13, h⟩ := h
  refine pv_sld (n := 639) hsc d_L_law_638 g13 rfl ?_
  refine pv_aload_n (n := 640) d_L_law_639 rfl rfl rfl ?_
  refine pv_callSH (n := 643) [(9, 0), (0, s1), (0, s0), (0, (xs (pw_i (a4 + 3)))), (15, 0)] [] (con_L_evidence hl0 h) q_796 q_797 q_795 q_794 pyo_L_evidence (by decide) rfl rfl d_L_law_640 rfl (fun w14 r15 h _ => ?_) (fun _ _ h => h.elim)
  show pw_V l g cx_L_law Q X 643 [(3000, 0), (9, 0), (10, 0), (15, 0), (0, a4), (1, 0), (1, 0)] [(0, r15)] w14
  refine pv_istore (n := 645) (L' := [(3000, 0), (9, 0), (10, 0), (15, 0), (0, a4), (0, r15), (1, 0)]) d_L_law_643 (by decide) rfl rfl ?_
  refine pv_aload_n (n := 646) d_L_law_645 rfl rfl rfl ?_
  refine pv_aload_n (n := 647) d_L_law_646 rfl rfl rfl ?_
  refine pv_iload (n := 649) d_L_law_647 rfl rfl ?_
  refine pv_iconst (v := 1) (n := 650) d_L_law_649 (by decide) rfl ?_
  refine pv_iadd (n := 651) d_L_law_650 rfl ?_
  obtain ⟨g16, h⟩ := h
  refine pv_sld (n := 652) hsc d_L_law_651 g16 rfl ?_
  refine pv_aload_n (n := 653) d_L_law_652 rfl rfl rfl ?_
  refine pv_iload (n := 655) d_L_law_653 rfl rfl ?_
  refine pv_iconst (v := 2) (n := 656) d_L_law_655 (by decide) rfl ?_
  refine pv_iadd (n := 657) d_L_law_656 rfl ?_
  obtain ⟨g17, h⟩ := h
  refine pv_sld (n := 658) hsc d_L_law_657 g17 rfl ?_
  refine pv_if_eq (n := 661) (tgt := 665) d_L_law_658 (by decide) rfl (fun c18 => ?_) (fun c18 => ?_)
  · replace h := h.1 c18
    refine pv_iconst (v := 0) (n := 666) d_L_law_665 (by decide) rfl ?_
    exact vjp_L_law_666 hl0 hsc (by intros; exact hK23 _ _ (by assumption)) _ _ _ _ _ h
  · replace h := h.2 c18
    refine pv_iconst (v := 1) (n := 662) d_L_law_661 (by decide) rfl ?_
    refine pv_goto (tgt := 666) d_L_law_662 (by decide) ?_
    exact vjp_L_law_666 hl0 hsc (by intros; exact hK23 _ _ (by assumption)) _ _ _ _ _ h
set_option maxHeartbeats 4000000 in
set_option maxRecDepth 20000 in
def jp_L_law_564 (Ln : Nat) (xs : Nat → Int32) (Q : pw_W → Int32 → Prop) (X : pw_W → Nat → Prop) (K23 : Int32 → pw_W → Prop) (a4 a5 s0 s1 : Int32) (w : pw_W) : Prop := pw_jn (a4 + 3) Ln ∧ pw_jn (a4 + 4) Ln ∧ wp_M_file w s1 s0 (xs (pw_i (a4 + 3))) (xs (pw_i (a4 + 4))) (fun w21 r22 => wp_M_thrown w21  (fun w23 r24 => (r24 = a5 → (¬ a5 = 0 → K23 (a4 + 5) w23) ∧ (a5 = 0 → pw_jn 0 (pw_ln w23 13 0) ∧ ∀ r28 : Int32, (r28 = 0 ↔ (w23.1 13 0 0) = r22) → (r28 = 0 → K23 (a4 + 5) w23) ∧ (¬ r28 = 0 → Q w23 0))) ∧ (¬ r24 = a5 → Q w23 0)) (fun _ _ => False)) (fun _ _ => False)
set_option maxHeartbeats 4000000 in
set_option maxRecDepth 20000 in
theorem vjp_L_law_564 {l : Launch} {g : pw_G} {Q : pw_W → Int32 → Prop} {X : pw_W → Nat → Prop} {Ln : Nat} {xs : Nat → Int32} (hl0 : l.stackTraces = false) (hsc : pw_sc g Ln xs) {K23 : Int32 → pw_W → Prop} (hK23 : ∀ (a4 : Int32) (w : pw_W), K23 a4 w → pw_V l g cx_L_law Q X 23 [(3000, 0), (9, 0), (10, 0), (15, 0), (0, a4), (1, 0), (1, 0)] [] w) (a4 a5 s0 s1 : Int32) (w : pw_W) (h : jp_L_law_564 Ln xs Q X K23 a4 a5 s0 s1 w) : pw_V l g cx_L_law Q X 564 [(3000, 0), (9, 0), (10, 0), (15, 0), (0, a4), (0, a5), (1, 0)] [(0, s0), (0, s1), (10, 0)] w := by
  unfold jp_L_law_564 at h
  refine pv_aload_n (n := 565) d_L_law_564 rfl rfl rfl ?_
  refine pv_iload (n := 567) d_L_law_565 rfl rfl ?_
  refine pv_iconst (v := 3) (n := 568) d_L_law_567 (by decide) rfl ?_
  refine pv_iadd (n := 569) d_L_law_568 rfl ?_
  obtain ⟨g19, h⟩ := h
  refine pv_sld (n := 570) hsc d_L_law_569 g19 rfl ?_
  refine pv_aload_n (n := 571) d_L_law_570 rfl rfl rfl ?_
  refine pv_iload (n := 573) d_L_law_571 rfl rfl ?_
  refine pv_iconst (v := 4) (n := 574) d_L_law_573 (by decide) rfl ?_
  refine pv_iadd (n := 575) d_L_law_574 rfl ?_
  obtain ⟨g20, h⟩ := h
  refine pv_sld (n := 576) hsc d_L_law_575 g20 rfl ?_
  refine pv_callV (n := 579) (x := 0) [(0, s1), (0, s0), (0, (xs (pw_i (a4 + 3)))), (0, (xs (pw_i (a4 + 4))))] [] (con_M_file hl0 h) pw_cf8 rfl q_799 q_800 q_801 q_458 q_798 pyo_M_file (by decide) rfl rfl (by decide) d_L_law_576 rfl (fun w21 r22 h _ => ?_) (fun _ _ h => h.elim)
  show pw_V l g cx_L_law Q X 579 [(3000, 0), (9, 0), (10, 0), (15, 0), (0, a4), (0, a5), (1, 0)] [(0, r22)] w21
  refine pv_istore (n := 581) (L' := [(3000, 0), (9, 0), (10, 0), (15, 0), (0, a4), (0, a5), (0, r22)]) d_L_law_579 (by decide) rfl rfl ?_
  refine pv_aload_n (n := 582) d_L_law_581 rfl rfl rfl ?_
  refine pv_callV (n := 585) (x := 0) [] [] (con_M_thrown hl0 h) pw_cf8 rfl q_787 q_788 q_789 q_458 q_786 pyo_M_thrown (by decide) rfl rfl (by decide) d_L_law_582 rfl (fun w23 r24 h _ => ?_) (fun _ _ h => h.elim)
  show pw_V l g cx_L_law Q X 585 [(3000, 0), (9, 0), (10, 0), (15, 0), (0, a4), (0, a5), (0, r22)] [(0, r24)] w23
  refine pv_iload (n := 587) d_L_law_585 rfl rfl ?_
  refine pv_icmp_eq (n := 590) (tgt := 592) d_L_law_587 (by decide) rfl (fun c25 => ?_) (fun c25 => ?_)
  · replace h := h.1 c25
    refine pv_iload (n := 594) d_L_law_592 rfl rfl ?_
    refine pv_if_ne (n := 597) (tgt := 609) d_L_law_594 (by decide) rfl (fun c26 => ?_) (fun c26 => ?_)
    · replace h := h.1 c26
      refine pv_goto (tgt := 2321) d_L_law_609 (by decide) ?_
      refine pv_iinc (v := (a4 + 5)) (n := 2324) (L1 := [(3000, 0), (9, 0), (10, 0), (15, 0), (0, (a4 + 5)), (0, a5), (0, r22)]) d_L_law_2321 rfl rfl rfl (by decide) rfl ?_
      refine pv_goto (tgt := 23) d_L_law_2324 (by decide) ?_
      refine pv_unset (i := 5) (L1 := [(3000, 0), (9, 0), (10, 0), (15, 0), (0, (a4 + 5)), (1, 0), (0, r22)]) rfl ?_
      refine pv_unset (i := 6) (L1 := [(3000, 0), (9, 0), (10, 0), (15, 0), (0, (a4 + 5)), (1, 0), (1, 0)]) rfl ?_
      exact hK23 _ _ h
    · replace h := h.2 c26
      refine pv_aload_n (n := 598) d_L_law_597 rfl rfl rfl ?_
      refine pv_iconst (v := 0) (n := 599) d_L_law_598 (by decide) rfl ?_
      obtain ⟨g27, h⟩ := h
      refine pv_lald (n := 600) (f := 13) (by decide) rfl d_L_law_599 (by decide) g27 rfl ?_
      refine pv_iload (n := 602) d_L_law_600 rfl rfl ?_
      refine pv_i2l (n := 603) d_L_law_602 rfl ?_
      refine pv_lcmp (n := 604) d_L_law_603 rfl (fun r28 hr => ?_)
      replace h := h r28 hr
      refine pv_if_eq (n := 607) (tgt := 609) d_L_law_604 (by decide) rfl (fun c29 => ?_) (fun c29 => ?_)
      · replace h := h.1 c29
        refine pv_goto (tgt := 2321) d_L_law_609 (by decide) ?_
        refine pv_iinc (v := (a4 + 5)) (n := 2324) (L1 := [(3000, 0), (9, 0), (10, 0), (15, 0), (0, (a4 + 5)), (0, a5), (0, r22)]) d_L_law_2321 rfl rfl rfl (by decide) rfl ?_
        refine pv_goto (tgt := 23) d_L_law_2324 (by decide) ?_
        refine pv_unset (i := 5) (L1 := [(3000, 0), (9, 0), (10, 0), (15, 0), (0, (a4 + 5)), (1, 0), (0, r22)]) rfl ?_
        refine pv_unset (i := 6) (L1 := [(3000, 0), (9, 0), (10, 0), (15, 0), (0, (a4 + 5)), (1, 0), (1, 0)]) rfl ?_
        exact hK23 _ _ h
      · replace h := h.2 c29
        refine pv_iconst (v := 0) (n := 608) d_L_law_607 (by decide) rfl ?_
        exact pv_zret rfl rfl d_L_law_608 (by decide) h
  · replace h := h.2 c25
    refine pv_iconst (v := 0) (n := 591) d_L_law_590 (by decide) rfl ?_
    exact pv_zret rfl rfl d_L_law_591 (by decide) h
set_option maxHeartbeats 4000000 in
set_option maxRecDepth 20000 in
def jp_L_law_525 (Ln : Nat) (xs : Nat → Int32) (Q : pw_W → Int32 → Prop) (X : pw_W → Nat → Prop) (K23 : Int32 → pw_W → Prop) (a4 s0 s1 : Int32) (w : pw_W) : Prop := pw_jn (a4 + 3) Ln ∧ pw_jn (a4 + 4) Ln ∧ wp_L_file w s1 s0 (xs (pw_i (a4 + 3))) (xs (pw_i (a4 + 4))) (fun w32 r33 => pw_jn (a4 + 1) Ln ∧ pw_jn (a4 + 2) Ln ∧ ((xs (pw_i (a4 + 2))) = 0 → jp_L_law_564 Ln xs Q X K23 a4 r33 0 (xs (pw_i (a4 + 1))) w32) ∧ (¬ (xs (pw_i (a4 + 2))) = 0 → jp_L_law_564 Ln xs Q X K23 a4 r33 1 (xs (pw_i (a4 + 1))) w32)) (fun _ _ => False)
set_option maxHeartbeats 4000000 in
set_option maxRecDepth 20000 in
theorem vjp_L_law_525 {l : Launch} {g : pw_G} {Q : pw_W → Int32 → Prop} {X : pw_W → Nat → Prop} {Ln : Nat} {xs : Nat → Int32} (hl0 : l.stackTraces = false) (hsc : pw_sc g Ln xs) {K23 : Int32 → pw_W → Prop} (hK23 : ∀ (a4 : Int32) (w : pw_W), K23 a4 w → pw_V l g cx_L_law Q X 23 [(3000, 0), (9, 0), (10, 0), (15, 0), (0, a4), (1, 0), (1, 0)] [] w) (a4 s0 s1 : Int32) (w : pw_W) (h : jp_L_law_525 Ln xs Q X K23 a4 s0 s1 w) : pw_V l g cx_L_law Q X 525 [(3000, 0), (9, 0), (10, 0), (15, 0), (0, a4), (1, 0), (1, 0)] [(0, s0), (0, s1), (9, 0)] w := by
  unfold jp_L_law_525 at h
  refine pv_aload_n (n := 526) d_L_law_525 rfl rfl rfl ?_
  refine pv_iload (n := 528) d_L_law_526 rfl rfl ?_
  refine pv_iconst (v := 3) (n := 529) d_L_law_528 (by decide) rfl ?_
  refine pv_iadd (n := 530) d_L_law_529 rfl ?_
  obtain ⟨g30, h⟩ := h
  refine pv_sld (n := 531) hsc d_L_law_530 g30 rfl ?_
  refine pv_aload_n (n := 532) d_L_law_531 rfl rfl rfl ?_
  refine pv_iload (n := 534) d_L_law_532 rfl rfl ?_
  refine pv_iconst (v := 4) (n := 535) d_L_law_534 (by decide) rfl ?_
  refine pv_iadd (n := 536) d_L_law_535 rfl ?_
  obtain ⟨g31, h⟩ := h
  refine pv_sld (n := 537) hsc d_L_law_536 g31 rfl ?_
  refine pv_aload_n (n := 538) d_L_law_537 rfl rfl rfl ?_
  refine pv_callSH (n := 541) [(9, 0), (0, s1), (0, s0), (0, (xs (pw_i (a4 + 3)))), (0, (xs (pw_i (a4 + 4)))), (15, 0)] [] (con_L_file hl0 h) q_803 q_804 q_795 q_802 pyo_L_file (by decide) rfl rfl d_L_law_538 rfl (fun w32 r33 h _ => ?_) (fun _ _ h => h.elim)
  show pw_V l g cx_L_law Q X 541 [(3000, 0), (9, 0), (10, 0), (15, 0), (0, a4), (1, 0), (1, 0)] [(0, r33)] w32
  refine pv_istore (n := 543) (L' := [(3000, 0), (9, 0), (10, 0), (15, 0), (0, a4), (0, r33), (1, 0)]) d_L_law_541 (by decide) rfl rfl ?_
  refine pv_aload_n (n := 544) d_L_law_543 rfl rfl rfl ?_
  refine pv_aload_n (n := 545) d_L_law_544 rfl rfl rfl ?_
  refine pv_iload (n := 547) d_L_law_545 rfl rfl ?_
  refine pv_iconst (v := 1) (n := 548) d_L_law_547 (by decide) rfl ?_
  refine pv_iadd (n := 549) d_L_law_548 rfl ?_
  obtain ⟨g34, h⟩ := h
  refine pv_sld (n := 550) hsc d_L_law_549 g34 rfl ?_
  refine pv_aload_n (n := 551) d_L_law_550 rfl rfl rfl ?_
  refine pv_iload (n := 553) d_L_law_551 rfl rfl ?_
  refine pv_iconst (v := 2) (n := 554) d_L_law_553 (by decide) rfl ?_
  refine pv_iadd (n := 555) d_L_law_554 rfl ?_
  obtain ⟨g35, h⟩ := h
  refine pv_sld (n := 556) hsc d_L_law_555 g35 rfl ?_
  refine pv_if_eq (n := 559) (tgt := 563) d_L_law_556 (by decide) rfl (fun c36 => ?_) (fun c36 => ?_)
  · replace h := h.1 c36
    refine pv_iconst (v := 0) (n := 564) d_L_law_563 (by decide) rfl ?_
    exact vjp_L_law_564 hl0 hsc (by intros; exact hK23 _ _ (by assumption)) _ _ _ _ _ h
  · replace h := h.2 c36
    refine pv_iconst (v := 1) (n := 560) d_L_law_559 (by decide) rfl ?_
    refine pv_goto (tgt := 564) d_L_law_560 (by decide) ?_
    exact vjp_L_law_564 hl0 hsc (by intros; exact hK23 _ _ (by assumption)) _ _ _ _ _ h
set_option maxHeartbeats 4000000 in
set_option maxRecDepth 20000 in
def lp_L_law_23 (Ln : Nat) (xs : Nat → Int32) (Q : pw_W → Int32 → Prop) (X : pw_W → Nat → Prop) : Nat → Int32 → pw_W → Prop := fun k => Nat.rec (motive := fun _ => Int32 → pw_W → Prop) (fun _ _ => False) (fun _ ih a4 w => (((nI Ln) - 5) < a4 → Q w 1) ∧ (¬ ((nI Ln) - 5) < a4 → pw_jn a4 Ln ∧ ∀ v39, v39 = ((xs (pw_i a4)) &&& 63) → ((v39.toInt < 0 ∨ 32 < v39.toInt) → ih (a4 + 5) w) ∧ (v39 = 0 → pw_jn (a4 + 1) Ln ∧ pw_jn (a4 + 2) Ln ∧ pw_jn (a4 + 3) Ln ∧ pw_jn (a4 + 4) Ln ∧ wp_L_grant w (xs (pw_i (a4 + 1))) (xs (pw_i (a4 + 2))) (xs (pw_i (a4 + 3))) (xs (pw_i (a4 + 4))) (fun w46 r47 => pw_jn (a4 + 1) Ln ∧ pw_jn (a4 + 2) Ln ∧ pw_jn (a4 + 3) Ln ∧ pw_jn (a4 + 4) Ln ∧ wp_M_grant w46 (xs (pw_i (a4 + 1))) (xs (pw_i (a4 + 2))) (xs (pw_i (a4 + 3))) (xs (pw_i (a4 + 4))) (fun w52 r53 => wp_M_thrown w52  (fun w54 r55 => (r55 = r47 → (¬ r47 = 0 → ih (a4 + 5) w54) ∧ (r47 = 0 → pw_jn 0 (pw_ln w54 13 0) ∧ ∀ r59 : Int32, (r59 = 0 ↔ (w54.1 13 0 0) = r53) → (r59 = 0 → ih (a4 + 5) w54) ∧ (¬ r59 = 0 → Q w54 0))) ∧ (¬ r55 = r47 → Q w54 0)) (fun _ _ => False)) (fun _ _ => False)) (fun _ _ => False)) ∧ (v39 = 1 → pw_jn (a4 + 1) Ln ∧ pw_jn (a4 + 2) Ln ∧ wp_L_merge w (xs (pw_i (a4 + 1))) (xs (pw_i (a4 + 2))) (fun w63 r64 => pw_jn (a4 + 1) Ln ∧ pw_jn (a4 + 2) Ln ∧ wp_M_merge w63 (xs (pw_i (a4 + 1))) (xs (pw_i (a4 + 2))) (fun w67 r68 => wp_M_thrown w67  (fun w69 r70 => (r70 = r64 → (¬ r64 = 0 → ih (a4 + 5) w69) ∧ (r64 = 0 → pw_jn 0 (pw_ln w69 13 0) ∧ ∀ r74 : Int32, (r74 = 0 ↔ (w69.1 13 0 0) = r68) → (r74 = 0 → ih (a4 + 5) w69) ∧ (¬ r74 = 0 → Q w69 0))) ∧ (¬ r70 = r64 → Q w69 0)) (fun _ _ => False)) (fun _ _ => False)) (fun _ _ => False)) ∧ (v39 = 2 → pw_jn (a4 + 1) Ln ∧ pw_jn (a4 + 2) Ln ∧ pw_jn (a4 + 3) Ln ∧ wp_L_survey w (xs (pw_i (a4 + 1))) (xs (pw_i (a4 + 2))) (xs (pw_i (a4 + 3))) (fun w79 r80 => pw_jn (a4 + 1) Ln ∧ pw_jn (a4 + 2) Ln ∧ pw_jn (a4 + 3) Ln ∧ wp_M_survey w79 (xs (pw_i (a4 + 1))) (xs (pw_i (a4 + 2))) (xs (pw_i (a4 + 3))) (fun w84 r85 => wp_M_thrown w84  (fun w86 r87 => (r87 = r80 → (¬ r80 = 0 → ih (a4 + 5) w86) ∧ (r80 = 0 → pw_jn 0 (pw_ln w86 13 0) ∧ ∀ r91 : Int32, (r91 = 0 ↔ (w86.1 13 0 0) = r85) → (r91 = 0 → ih (a4 + 5) w86) ∧ (¬ r91 = 0 → Q w86 0))) ∧ (¬ r87 = r80 → Q w86 0)) (fun _ _ => False)) (fun _ _ => False)) (fun _ _ => False)) ∧ (v39 = 3 → pw_jn (a4 + 1) Ln ∧ pw_jn (a4 + 2) Ln ∧ pw_jn (a4 + 3) Ln ∧ wp_L_use w (xs (pw_i (a4 + 1))) (xs (pw_i (a4 + 2))) (xs (pw_i (a4 + 3))) (fun w96 r97 => pw_jn (a4 + 1) Ln ∧ pw_jn (a4 + 2) Ln ∧ pw_jn (a4 + 3) Ln ∧ wp_M_use w96 (xs (pw_i (a4 + 1))) (xs (pw_i (a4 + 2))) (xs (pw_i (a4 + 3))) (fun w101 r102 => wp_M_thrown w101  (fun w103 r104 => (r104 = r97 → (¬ r97 = 0 → ih (a4 + 5) w103) ∧ (r97 = 0 → pw_jn 0 (pw_ln w103 13 0) ∧ ∀ r108 : Int32, (r108 = 0 ↔ (w103.1 13 0 0) = r102) → (r108 = 0 → ih (a4 + 5) w103) ∧ (¬ r108 = 0 → Q w103 0))) ∧ (¬ r104 = r97 → Q w103 0)) (fun _ _ => False)) (fun _ _ => False)) (fun _ _ => False)) ∧ (v39 = 4 → pw_jn (a4 + 1) Ln ∧ pw_jn (a4 + 2) Ln ∧ ((xs (pw_i (a4 + 2))) = 0 → jp_L_law_525 Ln xs Q X ih a4 0 (xs (pw_i (a4 + 1))) w) ∧ (¬ (xs (pw_i (a4 + 2))) = 0 → jp_L_law_525 Ln xs Q X ih a4 1 (xs (pw_i (a4 + 1))) w)) ∧ (v39 = 5 → pw_jn (a4 + 1) Ln ∧ pw_jn (a4 + 2) Ln ∧ ((xs (pw_i (a4 + 2))) = 0 → jp_L_law_633 Ln xs Q X ih a4 0 (xs (pw_i (a4 + 1))) w) ∧ (¬ (xs (pw_i (a4 + 2))) = 0 → jp_L_law_633 Ln xs Q X ih a4 1 (xs (pw_i (a4 + 1))) w)) ∧ (v39 = 6 → pw_jn (a4 + 1) Ln ∧ wp_L_decide w (xs (pw_i (a4 + 1))) (fun w117 r118 => pw_jn (a4 + 1) Ln ∧ wp_M_decide w117 (xs (pw_i (a4 + 1))) (fun w120 r121 => wp_M_thrown w120  (fun w122 r123 => (r123 = r118 → (¬ r118 = 0 → ih (a4 + 5) w122) ∧ (r118 = 0 → pw_jn 0 (pw_ln w122 13 0) ∧ ∀ r127 : Int32, (r127 = 0 ↔ (w122.1 13 0 0) = r121) → (r127 = 0 → ih (a4 + 5) w122) ∧ (¬ r127 = 0 → Q w122 0))) ∧ (¬ r123 = r118 → Q w122 0)) (fun _ _ => False)) (fun _ _ => False)) (fun _ _ => False)) ∧ (v39 = 7 → pw_jn (a4 + 1) Ln ∧ wp_L_appeal w (xs (pw_i (a4 + 1))) (fun w130 r131 => pw_jn (a4 + 1) Ln ∧ wp_M_appeal w130 (xs (pw_i (a4 + 1))) (fun w133 r134 => wp_M_thrown w133  (fun w135 r136 => (r136 = r131 → (¬ r131 = 0 → ih (a4 + 5) w135) ∧ (r131 = 0 → pw_jn 0 (pw_ln w135 13 0) ∧ ∀ r140 : Int32, (r140 = 0 ↔ (w135.1 13 0 0) = r134) → (r140 = 0 → ih (a4 + 5) w135) ∧ (¬ r140 = 0 → Q w135 0))) ∧ (¬ r136 = r131 → Q w135 0)) (fun _ _ => False)) (fun _ _ => False)) (fun _ _ => False)) ∧ (v39 = 8 → pw_jn (a4 + 1) Ln ∧ pw_jn (a4 + 2) Ln ∧ pw_jn (a4 + 3) Ln ∧ pw_jn (a4 + 4) Ln ∧ wp_L_register w (xs (pw_i (a4 + 1))) (xs (pw_i (a4 + 2))) (xs (pw_i (a4 + 3))) (xs (pw_i (a4 + 4))) (fun w146 r147 => pw_jn (a4 + 1) Ln ∧ pw_jn (a4 + 2) Ln ∧ pw_jn (a4 + 3) Ln ∧ pw_jn (a4 + 4) Ln ∧ wp_M_register w146 (xs (pw_i (a4 + 1))) (xs (pw_i (a4 + 2))) (xs (pw_i (a4 + 3))) (xs (pw_i (a4 + 4))) (fun w152 r153 => wp_M_thrown w152  (fun w154 r155 => (r155 = r147 → (¬ r147 = 0 → ih (a4 + 5) w154) ∧ (r147 = 0 → pw_jn 0 (pw_ln w154 13 0) ∧ ∀ r159 : Int32, (r159 = 0 ↔ (w154.1 13 0 0) = r153) → (r159 = 0 → ih (a4 + 5) w154) ∧ (¬ r159 = 0 → Q w154 0))) ∧ (¬ r155 = r147 → Q w154 0)) (fun _ _ => False)) (fun _ _ => False)) (fun _ _ => False)) ∧ (v39 = 9 → pw_jn (a4 + 1) Ln ∧ wp_L_release w (xs (pw_i (a4 + 1))) (fun w162 r163 => pw_jn (a4 + 1) Ln ∧ wp_M_release w162 (xs (pw_i (a4 + 1))) (fun w165 r166 => wp_M_thrown w165  (fun w167 r168 => (r168 = r163 → (¬ r163 = 0 → ih (a4 + 5) w167) ∧ (r163 = 0 → pw_jn 0 (pw_ln w167 13 0) ∧ (r166 = 0 → jp_L_law_966 Ln xs Q X ih a4 0 (w167.1 13 0 0) w167) ∧ (¬ r166 = 0 → jp_L_law_966 Ln xs Q X ih a4 1 (w167.1 13 0 0) w167))) ∧ (¬ r168 = r163 → Q w167 0)) (fun _ _ => False)) (fun _ _ => False)) (fun _ _ => False)) ∧ (v39 = 10 → pw_jn (a4 + 1) Ln ∧ pw_jn (a4 + 2) Ln ∧ pw_jn (a4 + 3) Ln ∧ wp_L_graze w (xs (pw_i (a4 + 1))) (xs (pw_i (a4 + 2))) (xs (pw_i (a4 + 3))) (fun w176 r177 => pw_jn (a4 + 1) Ln ∧ pw_jn (a4 + 2) Ln ∧ pw_jn (a4 + 3) Ln ∧ wp_M_graze w176 (xs (pw_i (a4 + 1))) (xs (pw_i (a4 + 2))) (xs (pw_i (a4 + 3))) (fun w181 r182 => wp_M_thrown w181  (fun w183 r184 => (r184 = r177 → (¬ r177 = 0 → ih (a4 + 5) w183) ∧ (r177 = 0 → pw_jn 0 (pw_ln w183 13 0) ∧ ∀ r188 : Int32, (r188 = 0 ↔ (w183.1 13 0 0) = r182) → (r188 = 0 → ih (a4 + 5) w183) ∧ (¬ r188 = 0 → Q w183 0))) ∧ (¬ r184 = r177 → Q w183 0)) (fun _ _ => False)) (fun _ _ => False)) (fun _ _ => False)) ∧ (v39 = 11 → pw_jn (a4 + 1) Ln ∧ wp_L_rain w (xs (pw_i (a4 + 1))) (fun w191 r192 => pw_jn (a4 + 1) Ln ∧ wp_M_rain w191 (xs (pw_i (a4 + 1))) (fun w194 r195 => wp_M_thrown w194  (fun w196 r197 => (r197 = r192 → (¬ r192 = 0 → ih (a4 + 5) w196) ∧ (r192 = 0 → pw_jn 0 (pw_ln w196 13 0) ∧ ∀ r201 : Int32, (r201 = 0 ↔ (w196.1 13 0 0) = r195) → (r201 = 0 → ih (a4 + 5) w196) ∧ (¬ r201 = 0 → Q w196 0))) ∧ (¬ r197 = r192 → Q w196 0)) (fun _ _ => False)) (fun _ _ => False)) (fun _ _ => False)) ∧ (v39 = 12 → pw_jn (a4 + 1) Ln ∧ pw_jn (a4 + 2) Ln ∧ wp_L_dig w (xs (pw_i (a4 + 1))) (xs (pw_i (a4 + 2))) (fun w205 r206 => pw_jn (a4 + 1) Ln ∧ pw_jn (a4 + 2) Ln ∧ wp_M_dig w205 (xs (pw_i (a4 + 1))) (xs (pw_i (a4 + 2))) (fun w209 r210 => wp_M_thrown w209  (fun w211 r212 => (r212 = r206 → (¬ r206 = 0 → ih (a4 + 5) w211) ∧ (r206 = 0 → pw_jn 0 (pw_ln w211 13 0) ∧ ∀ r216 : Int32, (r216 = 0 ↔ (w211.1 13 0 0) = r210) → (r216 = 0 → ih (a4 + 5) w211) ∧ (¬ r216 = 0 → Q w211 0))) ∧ (¬ r212 = r206 → Q w211 0)) (fun _ _ => False)) (fun _ _ => False)) (fun _ _ => False)) ∧ (v39 = 13 → pw_jn (a4 + 1) Ln ∧ wp_L_fill w (xs (pw_i (a4 + 1))) (fun w219 r220 => pw_jn (a4 + 1) Ln ∧ wp_M_fill w219 (xs (pw_i (a4 + 1))) (fun w222 r223 => wp_M_thrown w222  (fun w224 r225 => (r225 = r220 → (¬ r220 = 0 → ih (a4 + 5) w224) ∧ (r220 = 0 → pw_jn 0 (pw_ln w224 13 0) ∧ ∀ r229 : Int32, (r229 = 0 ↔ (w224.1 13 0 0) = r223) → (r229 = 0 → ih (a4 + 5) w224) ∧ (¬ r229 = 0 → Q w224 0))) ∧ (¬ r225 = r220 → Q w224 0)) (fun _ _ => False)) (fun _ _ => False)) (fun _ _ => False)) ∧ (v39 = 14 → pw_jn (a4 + 1) Ln ∧ pw_jn (a4 + 2) Ln ∧ pw_jn (a4 + 3) Ln ∧ wp_L_cut w (xs (pw_i (a4 + 1))) (xs (pw_i (a4 + 2))) (xs (pw_i (a4 + 3))) (fun w234 r235 => pw_jn (a4 + 1) Ln ∧ pw_jn (a4 + 2) Ln ∧ pw_jn (a4 + 3) Ln ∧ wp_M_cut w234 (xs (pw_i (a4 + 1))) (xs (pw_i (a4 + 2))) (xs (pw_i (a4 + 3))) (fun w239 r240 => wp_M_thrown w239  (fun w241 r242 => (r242 = r235 → (¬ r235 = 0 → ih (a4 + 5) w241) ∧ (r235 = 0 → pw_jn 0 (pw_ln w241 13 0) ∧ ∀ r246 : Int32, (r246 = 0 ↔ (w241.1 13 0 0) = r240) → (r246 = 0 → ih (a4 + 5) w241) ∧ (¬ r246 = 0 → Q w241 0))) ∧ (¬ r242 = r235 → Q w241 0)) (fun _ _ => False)) (fun _ _ => False)) (fun _ _ => False)) ∧ (v39 = 15 → pw_jn (a4 + 1) Ln ∧ wp_L_wind w (xs (pw_i (a4 + 1))) (fun w249 r250 => pw_jn (a4 + 1) Ln ∧ wp_M_wind w249 (xs (pw_i (a4 + 1))) (fun w252 r253 => wp_M_thrown w252  (fun w254 r255 => (r255 = r250 → (¬ r250 = 0 → ih (a4 + 5) w254) ∧ (r250 = 0 → pw_jn 0 (pw_ln w254 13 0) ∧ ∀ r259 : Int32, (r259 = 0 ↔ (w254.1 13 0 0) = r253) → (r259 = 0 → ih (a4 + 5) w254) ∧ (¬ r259 = 0 → Q w254 0))) ∧ (¬ r255 = r250 → Q w254 0)) (fun _ _ => False)) (fun _ _ => False)) (fun _ _ => False)) ∧ (v39 = 16 → pw_jn (a4 + 1) Ln ∧ pw_jn (a4 + 2) Ln ∧ wp_L_burn w (xs (pw_i (a4 + 1))) (xs (pw_i (a4 + 2))) (fun w263 r264 => pw_jn (a4 + 1) Ln ∧ pw_jn (a4 + 2) Ln ∧ wp_M_burn w263 (xs (pw_i (a4 + 1))) (xs (pw_i (a4 + 2))) (fun w267 r268 => wp_M_thrown w267  (fun w269 r270 => (r270 = r264 → (¬ r264 = 0 → ih (a4 + 5) w269) ∧ (r264 = 0 → pw_jn 0 (pw_ln w269 13 0) ∧ ∀ r274 : Int32, (r274 = 0 ↔ (w269.1 13 0 0) = r268) → (r274 = 0 → ih (a4 + 5) w269) ∧ (¬ r274 = 0 → Q w269 0))) ∧ (¬ r270 = r264 → Q w269 0)) (fun _ _ => False)) (fun _ _ => False)) (fun _ _ => False)) ∧ (v39 = 17 → pw_jn (a4 + 1) Ln ∧ wp_L_pass w (xs (pw_i (a4 + 1))) (fun w277 r278 => pw_jn (a4 + 1) Ln ∧ wp_M_pass w277 (xs (pw_i (a4 + 1))) (fun w280 r281 => wp_M_thrown w280  (fun w282 r283 => (r283 = r278 → (¬ r278 = 0 → ih (a4 + 5) w282) ∧ (r278 = 0 → pw_jn 0 (pw_ln w282 13 0) ∧ ∀ r287 : Int32, (r287 = 0 ↔ (w282.1 13 0 0) = r281) → (r287 = 0 → ih (a4 + 5) w282) ∧ (¬ r287 = 0 → Q w282 0))) ∧ (¬ r283 = r278 → Q w282 0)) (fun _ _ => False)) (fun _ _ => False)) (fun _ _ => False)) ∧ (v39 = 18 → pw_jn (a4 + 1) Ln ∧ pw_jn (a4 + 2) Ln ∧ wp_L_name w (xs (pw_i (a4 + 1))) (xs (pw_i (a4 + 2))) (fun w291 r292 => pw_jn (a4 + 1) Ln ∧ pw_jn (a4 + 2) Ln ∧ wp_M_name w291 (xs (pw_i (a4 + 1))) (xs (pw_i (a4 + 2))) (fun w295 r296 => wp_M_thrown w295  (fun w297 r298 => (r298 = r292 → (¬ r292 = 0 → ih (a4 + 5) w297) ∧ (r292 = 0 → pw_jn 0 (pw_ln w297 13 0) ∧ ∀ r302 : Int32, (r302 = 0 ↔ (w297.1 13 0 0) = r296) → (r302 = 0 → ih (a4 + 5) w297) ∧ (¬ r302 = 0 → Q w297 0))) ∧ (¬ r298 = r292 → Q w297 0)) (fun _ _ => False)) (fun _ _ => False)) (fun _ _ => False)) ∧ (v39 = 19 → pw_jn (a4 + 1) Ln ∧ wp_L_die w (xs (pw_i (a4 + 1))) (fun w305 r306 => pw_jn (a4 + 1) Ln ∧ wp_M_die w305 (xs (pw_i (a4 + 1))) (fun w308 r309 => wp_M_thrown w308  (fun w310 r311 => (r311 = r306 → (¬ r306 = 0 → ih (a4 + 5) w310) ∧ (r306 = 0 → pw_jn 0 (pw_ln w310 13 0) ∧ ∀ r315 : Int32, (r315 = 0 ↔ (w310.1 13 0 0) = r309) → (r315 = 0 → ih (a4 + 5) w310) ∧ (¬ r315 = 0 → Q w310 0))) ∧ (¬ r311 = r306 → Q w310 0)) (fun _ _ => False)) (fun _ _ => False)) (fun _ _ => False)) ∧ (v39 = 20 → wp_X_today w  (fun w317 r318 => wp_M_today w317  (fun w319 r320 => (r318 = r320 → ih (a4 + 5) w319) ∧ (¬ r318 = r320 → Q w319 0)) (fun _ _ => False)) (fun _ _ => False)) ∧ (v39 = 21 → wp_X_parcels w  (fun w322 r323 => wp_M_parcels w322  (fun w324 r325 => (r323 = r325 → ih (a4 + 5) w324) ∧ (¬ r323 = r325 → Q w324 0)) (fun _ _ => False)) (fun _ _ => False)) ∧ (v39 = 22 → pw_jn (a4 + 1) Ln ∧ wp_L_parcelOf w (xs (pw_i (a4 + 1))) (fun w328 r329 => pw_jn (a4 + 1) Ln ∧ wp_M_parcelOf w328 (xs (pw_i (a4 + 1))) (fun w331 r332 => wp_M_thrown w331  (fun w333 r334 => (r334 = r329 → (¬ r329 = 0 → ih (a4 + 5) w333) ∧ (r329 = 0 → pw_jn 0 (pw_ln w333 13 0) ∧ ∀ r338 : Int32, (r338 = 0 ↔ (w333.1 13 0 0) = r332) → (r338 = 0 → ih (a4 + 5) w333) ∧ (¬ r338 = 0 → Q w333 0))) ∧ (¬ r334 = r329 → Q w333 0)) (fun _ _ => False)) (fun _ _ => False)) (fun _ _ => False)) ∧ (v39 = 23 → pw_jn (a4 + 1) Ln ∧ pw_jn (a4 + 2) Ln ∧ wp_L_chain w (xs (pw_i (a4 + 1))) (xs (pw_i (a4 + 2))) (fun w342 r343 => pw_jn (a4 + 1) Ln ∧ pw_jn (a4 + 2) Ln ∧ wp_M_chain w342 (xs (pw_i (a4 + 1))) (xs (pw_i (a4 + 2))) (fun w346 r347 => wp_M_thrown w346  (fun w348 r349 => (r349 = r343 → (¬ r343 = 0 → ih (a4 + 5) w348) ∧ (r343 = 0 → pw_jn 0 (pw_ln w348 13 0) ∧ ∀ r353 : Int32, (r353 = 0 ↔ (w348.1 13 0 0) = r347) → (r353 = 0 → ih (a4 + 5) w348) ∧ (¬ r353 = 0 → Q w348 0))) ∧ (¬ r349 = r343 → Q w348 0)) (fun _ _ => False)) (fun _ _ => False)) (fun _ _ => False)) ∧ (v39 = 24 → pw_jn (a4 + 1) Ln ∧ wp_L_area w (xs (pw_i (a4 + 1))) (fun w356 r357 => pw_jn (a4 + 1) Ln ∧ wp_M_area w356 (xs (pw_i (a4 + 1))) (fun w359 r360 => wp_M_thrown w359  (fun w361 r362 => (r362 = r357 → (¬ r357 = 0 → ih (a4 + 5) w361) ∧ (r357 = 0 → pw_jn 0 (pw_ln w361 13 0) ∧ ∀ r366 : Int32, (r366 = 0 ↔ (w361.1 13 0 0) = r360) → (r366 = 0 → ih (a4 + 5) w361) ∧ (¬ r366 = 0 → Q w361 0))) ∧ (¬ r362 = r357 → Q w361 0)) (fun _ _ => False)) (fun _ _ => False)) (fun _ _ => False)) ∧ (v39 = 25 → pw_jn (a4 + 1) Ln ∧ wp_L_owner w (xs (pw_i (a4 + 1))) (fun w369 r370 => pw_jn (a4 + 1) Ln ∧ wp_M_owner w369 (xs (pw_i (a4 + 1))) (fun w372 r373 => wp_M_thrown w372  (fun w374 r375 => (r375 = r370 → (¬ r370 = 0 → ih (a4 + 5) w374) ∧ (r370 = 0 → pw_jn 0 (pw_ln w374 13 0) ∧ ∀ r379 : Int32, (r379 = 0 ↔ (w374.1 13 0 0) = r373) → (r379 = 0 → ih (a4 + 5) w374) ∧ (¬ r379 = 0 → Q w374 0))) ∧ (¬ r375 = r370 → Q w374 0)) (fun _ _ => False)) (fun _ _ => False)) (fun _ _ => False)) ∧ (v39 = 26 → pw_jn (a4 + 1) Ln ∧ wp_L_disputed w (xs (pw_i (a4 + 1))) (fun w382 r383 => pw_jn (a4 + 1) Ln ∧ wp_M_disputed w382 (xs (pw_i (a4 + 1))) (fun w385 r386 => wp_M_thrown w385  (fun w387 r388 => (r388 = r383 → (¬ r383 = 0 → ih (a4 + 5) w387) ∧ (r383 = 0 → pw_jn 0 (pw_ln w387 13 0) ∧ ∀ r392 : Int32, (r392 = 0 ↔ (w387.1 13 0 0) = r386) → (r392 = 0 → ih (a4 + 5) w387) ∧ (¬ r392 = 0 → Q w387 0))) ∧ (¬ r388 = r383 → Q w387 0)) (fun _ _ => False)) (fun _ _ => False)) (fun _ _ => False)) ∧ (v39 = 27 → pw_jn (a4 + 1) Ln ∧ pw_jn (a4 + 2) Ln ∧ wp_L_caseAt w (xs (pw_i (a4 + 1))) (xs (pw_i (a4 + 2))) (fun w396 r397 => pw_jn (a4 + 1) Ln ∧ pw_jn (a4 + 2) Ln ∧ wp_M_caseAt w396 (xs (pw_i (a4 + 1))) (xs (pw_i (a4 + 2))) (fun w400 r401 => wp_M_thrown w400  (fun w402 r403 => (r403 = r397 → (¬ r397 = 0 → ih (a4 + 5) w402) ∧ (r397 = 0 → pw_jn 0 (pw_ln w402 13 0) ∧ ∀ r407 : Int32, (r407 = 0 ↔ (w402.1 13 0 0) = r401) → (r407 = 0 → ih (a4 + 5) w402) ∧ (¬ r407 = 0 → Q w402 0))) ∧ (¬ r403 = r397 → Q w402 0)) (fun _ _ => False)) (fun _ _ => False)) (fun _ _ => False)) ∧ (v39 = 28 → pw_jn (a4 + 1) Ln ∧ pw_jn (a4 + 2) Ln ∧ wp_L_rightAt w (xs (pw_i (a4 + 1))) (xs (pw_i (a4 + 2))) (fun w411 r412 => pw_jn (a4 + 1) Ln ∧ pw_jn (a4 + 2) Ln ∧ wp_M_rightAt w411 (xs (pw_i (a4 + 1))) (xs (pw_i (a4 + 2))) (fun w415 r416 => wp_M_thrown w415  (fun w417 r418 => (r418 = r412 → (¬ r412 = 0 → ih (a4 + 5) w417) ∧ (r412 = 0 → pw_jn 0 (pw_ln w417 13 0) ∧ ∀ r422 : Int32, (r422 = 0 ↔ (w417.1 13 0 0) = r416) → (r422 = 0 → ih (a4 + 5) w417) ∧ (¬ r422 = 0 → Q w417 0))) ∧ (¬ r418 = r412 → Q w417 0)) (fun _ _ => False)) (fun _ _ => False)) (fun _ _ => False)) ∧ (v39 = 29 → pw_jn (a4 + 1) Ln ∧ pw_jn (a4 + 2) Ln ∧ wp_L_square w (xs (pw_i (a4 + 1))) (xs (pw_i (a4 + 2))) (fun w426 r427 => pw_jn (a4 + 1) Ln ∧ pw_jn (a4 + 2) Ln ∧ wp_M_square w426 (xs (pw_i (a4 + 1))) (xs (pw_i (a4 + 2))) (fun w430 r431 => wp_M_thrown w430  (fun w432 r433 => (r433 = r427 → (¬ r427 = 0 → ih (a4 + 5) w432) ∧ (r427 = 0 → pw_jn 0 (pw_ln w432 13 0) ∧ ∀ r437 : Int32, (r437 = 0 ↔ (w432.1 13 0 0) = r431) → (r437 = 0 → ih (a4 + 5) w432) ∧ (¬ r437 = 0 → Q w432 0))) ∧ (¬ r433 = r427 → Q w432 0)) (fun _ _ => False)) (fun _ _ => False)) (fun _ _ => False)) ∧ (v39 = 30 → pw_jn (a4 + 1) Ln ∧ wp_L_water w (xs (pw_i (a4 + 1))) (fun w440 r441 => pw_jn (a4 + 1) Ln ∧ wp_M_water w440 (xs (pw_i (a4 + 1))) (fun w443 r444 => wp_M_thrown w443  (fun w445 r446 => (r446 = r441 → (¬ r441 = 0 → ih (a4 + 5) w445) ∧ (r441 = 0 → pw_jn 0 (pw_ln w445 13 0) ∧ ∀ r450 : Int32, (r450 = 0 ↔ (w445.1 13 0 0) = r444) → (r450 = 0 → ih (a4 + 5) w445) ∧ (¬ r450 = 0 → Q w445 0))) ∧ (¬ r446 = r441 → Q w445 0)) (fun _ _ => False)) (fun _ _ => False)) (fun _ _ => False)) ∧ (v39 = 31 → pw_jn (a4 + 1) Ln ∧ wp_L_paid w (xs (pw_i (a4 + 1))) (fun w453 r454 => pw_jn (a4 + 1) Ln ∧ wp_M_paid w453 (xs (pw_i (a4 + 1))) (fun w456 r457 => wp_M_thrown w456  (fun w458 r459 => (r459 = r454 → (¬ r454 = 0 → ih (a4 + 5) w458) ∧ (r454 = 0 → pw_jn 0 (pw_ln w458 13 0) ∧ ∀ r463 : Int32, (r463 = 0 ↔ (w458.1 13 0 0) = r457) → (r463 = 0 → ih (a4 + 5) w458) ∧ (¬ r463 = 0 → Q w458 0))) ∧ (¬ r459 = r454 → Q w458 0)) (fun _ _ => False)) (fun _ _ => False)) (fun _ _ => False)) ∧ (v39 = 32 → pw_jn (a4 + 1) Ln ∧ pw_jn (a4 + 2) Ln ∧ wp_L_sheep w (xs (pw_i (a4 + 1))) (xs (pw_i (a4 + 2))) (fun w467 r468 => pw_jn (a4 + 1) Ln ∧ pw_jn (a4 + 2) Ln ∧ wp_M_sheep w467 (xs (pw_i (a4 + 1))) (xs (pw_i (a4 + 2))) (fun w471 r472 => wp_M_thrown w471  (fun w473 r474 => (r474 = r468 → (¬ r468 = 0 → ih (a4 + 5) w473) ∧ (r468 = 0 → pw_jn 0 (pw_ln w473 13 0) ∧ ∀ r478 : Int32, (r478 = 0 ↔ (w473.1 13 0 0) = r472) → (r478 = 0 → ih (a4 + 5) w473) ∧ (¬ r478 = 0 → Q w473 0))) ∧ (¬ r474 = r468 → Q w473 0)) (fun _ _ => False)) (fun _ _ => False)) (fun _ _ => False)))) k
set_option maxHeartbeats 4000000 in
set_option maxRecDepth 20000 in
theorem lp_L_law_23_s {Q : pw_W → Int32 → Prop} {X : pw_W → Nat → Prop} {Ln : Nat} {xs : Nat → Int32}  {k : Nat} {a4 : Int32} {w : pw_W} : lp_L_law_23 Ln xs Q X (k + 1) a4 w = (let ih := lp_L_law_23 Ln xs Q X k; (((nI Ln) - 5) < a4 → Q w 1) ∧ (¬ ((nI Ln) - 5) < a4 → pw_jn a4 Ln ∧ ∀ v39, v39 = ((xs (pw_i a4)) &&& 63) → ((v39.toInt < 0 ∨ 32 < v39.toInt) → ih (a4 + 5) w) ∧ (v39 = 0 → pw_jn (a4 + 1) Ln ∧ pw_jn (a4 + 2) Ln ∧ pw_jn (a4 + 3) Ln ∧ pw_jn (a4 + 4) Ln ∧ wp_L_grant w (xs (pw_i (a4 + 1))) (xs (pw_i (a4 + 2))) (xs (pw_i (a4 + 3))) (xs (pw_i (a4 + 4))) (fun w46 r47 => pw_jn (a4 + 1) Ln ∧ pw_jn (a4 + 2) Ln ∧ pw_jn (a4 + 3) Ln ∧ pw_jn (a4 + 4) Ln ∧ wp_M_grant w46 (xs (pw_i (a4 + 1))) (xs (pw_i (a4 + 2))) (xs (pw_i (a4 + 3))) (xs (pw_i (a4 + 4))) (fun w52 r53 => wp_M_thrown w52  (fun w54 r55 => (r55 = r47 → (¬ r47 = 0 → ih (a4 + 5) w54) ∧ (r47 = 0 → pw_jn 0 (pw_ln w54 13 0) ∧ ∀ r59 : Int32, (r59 = 0 ↔ (w54.1 13 0 0) = r53) → (r59 = 0 → ih (a4 + 5) w54) ∧ (¬ r59 = 0 → Q w54 0))) ∧ (¬ r55 = r47 → Q w54 0)) (fun _ _ => False)) (fun _ _ => False)) (fun _ _ => False)) ∧ (v39 = 1 → pw_jn (a4 + 1) Ln ∧ pw_jn (a4 + 2) Ln ∧ wp_L_merge w (xs (pw_i (a4 + 1))) (xs (pw_i (a4 + 2))) (fun w63 r64 => pw_jn (a4 + 1) Ln ∧ pw_jn (a4 + 2) Ln ∧ wp_M_merge w63 (xs (pw_i (a4 + 1))) (xs (pw_i (a4 + 2))) (fun w67 r68 => wp_M_thrown w67  (fun w69 r70 => (r70 = r64 → (¬ r64 = 0 → ih (a4 + 5) w69) ∧ (r64 = 0 → pw_jn 0 (pw_ln w69 13 0) ∧ ∀ r74 : Int32, (r74 = 0 ↔ (w69.1 13 0 0) = r68) → (r74 = 0 → ih (a4 + 5) w69) ∧ (¬ r74 = 0 → Q w69 0))) ∧ (¬ r70 = r64 → Q w69 0)) (fun _ _ => False)) (fun _ _ => False)) (fun _ _ => False)) ∧ (v39 = 2 → pw_jn (a4 + 1) Ln ∧ pw_jn (a4 + 2) Ln ∧ pw_jn (a4 + 3) Ln ∧ wp_L_survey w (xs (pw_i (a4 + 1))) (xs (pw_i (a4 + 2))) (xs (pw_i (a4 + 3))) (fun w79 r80 => pw_jn (a4 + 1) Ln ∧ pw_jn (a4 + 2) Ln ∧ pw_jn (a4 + 3) Ln ∧ wp_M_survey w79 (xs (pw_i (a4 + 1))) (xs (pw_i (a4 + 2))) (xs (pw_i (a4 + 3))) (fun w84 r85 => wp_M_thrown w84  (fun w86 r87 => (r87 = r80 → (¬ r80 = 0 → ih (a4 + 5) w86) ∧ (r80 = 0 → pw_jn 0 (pw_ln w86 13 0) ∧ ∀ r91 : Int32, (r91 = 0 ↔ (w86.1 13 0 0) = r85) → (r91 = 0 → ih (a4 + 5) w86) ∧ (¬ r91 = 0 → Q w86 0))) ∧ (¬ r87 = r80 → Q w86 0)) (fun _ _ => False)) (fun _ _ => False)) (fun _ _ => False)) ∧ (v39 = 3 → pw_jn (a4 + 1) Ln ∧ pw_jn (a4 + 2) Ln ∧ pw_jn (a4 + 3) Ln ∧ wp_L_use w (xs (pw_i (a4 + 1))) (xs (pw_i (a4 + 2))) (xs (pw_i (a4 + 3))) (fun w96 r97 => pw_jn (a4 + 1) Ln ∧ pw_jn (a4 + 2) Ln ∧ pw_jn (a4 + 3) Ln ∧ wp_M_use w96 (xs (pw_i (a4 + 1))) (xs (pw_i (a4 + 2))) (xs (pw_i (a4 + 3))) (fun w101 r102 => wp_M_thrown w101  (fun w103 r104 => (r104 = r97 → (¬ r97 = 0 → ih (a4 + 5) w103) ∧ (r97 = 0 → pw_jn 0 (pw_ln w103 13 0) ∧ ∀ r108 : Int32, (r108 = 0 ↔ (w103.1 13 0 0) = r102) → (r108 = 0 → ih (a4 + 5) w103) ∧ (¬ r108 = 0 → Q w103 0))) ∧ (¬ r104 = r97 → Q w103 0)) (fun _ _ => False)) (fun _ _ => False)) (fun _ _ => False)) ∧ (v39 = 4 → pw_jn (a4 + 1) Ln ∧ pw_jn (a4 + 2) Ln ∧ ((xs (pw_i (a4 + 2))) = 0 → jp_L_law_525 Ln xs Q X ih a4 0 (xs (pw_i (a4 + 1))) w) ∧ (¬ (xs (pw_i (a4 + 2))) = 0 → jp_L_law_525 Ln xs Q X ih a4 1 (xs (pw_i (a4 + 1))) w)) ∧ (v39 = 5 → pw_jn (a4 + 1) Ln ∧ pw_jn (a4 + 2) Ln ∧ ((xs (pw_i (a4 + 2))) = 0 → jp_L_law_633 Ln xs Q X ih a4 0 (xs (pw_i (a4 + 1))) w) ∧ (¬ (xs (pw_i (a4 + 2))) = 0 → jp_L_law_633 Ln xs Q X ih a4 1 (xs (pw_i (a4 + 1))) w)) ∧ (v39 = 6 → pw_jn (a4 + 1) Ln ∧ wp_L_decide w (xs (pw_i (a4 + 1))) (fun w117 r118 => pw_jn (a4 + 1) Ln ∧ wp_M_decide w117 (xs (pw_i (a4 + 1))) (fun w120 r121 => wp_M_thrown w120  (fun w122 r123 => (r123 = r118 → (¬ r118 = 0 → ih (a4 + 5) w122) ∧ (r118 = 0 → pw_jn 0 (pw_ln w122 13 0) ∧ ∀ r127 : Int32, (r127 = 0 ↔ (w122.1 13 0 0) = r121) → (r127 = 0 → ih (a4 + 5) w122) ∧ (¬ r127 = 0 → Q w122 0))) ∧ (¬ r123 = r118 → Q w122 0)) (fun _ _ => False)) (fun _ _ => False)) (fun _ _ => False)) ∧ (v39 = 7 → pw_jn (a4 + 1) Ln ∧ wp_L_appeal w (xs (pw_i (a4 + 1))) (fun w130 r131 => pw_jn (a4 + 1) Ln ∧ wp_M_appeal w130 (xs (pw_i (a4 + 1))) (fun w133 r134 => wp_M_thrown w133  (fun w135 r136 => (r136 = r131 → (¬ r131 = 0 → ih (a4 + 5) w135) ∧ (r131 = 0 → pw_jn 0 (pw_ln w135 13 0) ∧ ∀ r140 : Int32, (r140 = 0 ↔ (w135.1 13 0 0) = r134) → (r140 = 0 → ih (a4 + 5) w135) ∧ (¬ r140 = 0 → Q w135 0))) ∧ (¬ r136 = r131 → Q w135 0)) (fun _ _ => False)) (fun _ _ => False)) (fun _ _ => False)) ∧ (v39 = 8 → pw_jn (a4 + 1) Ln ∧ pw_jn (a4 + 2) Ln ∧ pw_jn (a4 + 3) Ln ∧ pw_jn (a4 + 4) Ln ∧ wp_L_register w (xs (pw_i (a4 + 1))) (xs (pw_i (a4 + 2))) (xs (pw_i (a4 + 3))) (xs (pw_i (a4 + 4))) (fun w146 r147 => pw_jn (a4 + 1) Ln ∧ pw_jn (a4 + 2) Ln ∧ pw_jn (a4 + 3) Ln ∧ pw_jn (a4 + 4) Ln ∧ wp_M_register w146 (xs (pw_i (a4 + 1))) (xs (pw_i (a4 + 2))) (xs (pw_i (a4 + 3))) (xs (pw_i (a4 + 4))) (fun w152 r153 => wp_M_thrown w152  (fun w154 r155 => (r155 = r147 → (¬ r147 = 0 → ih (a4 + 5) w154) ∧ (r147 = 0 → pw_jn 0 (pw_ln w154 13 0) ∧ ∀ r159 : Int32, (r159 = 0 ↔ (w154.1 13 0 0) = r153) → (r159 = 0 → ih (a4 + 5) w154) ∧ (¬ r159 = 0 → Q w154 0))) ∧ (¬ r155 = r147 → Q w154 0)) (fun _ _ => False)) (fun _ _ => False)) (fun _ _ => False)) ∧ (v39 = 9 → pw_jn (a4 + 1) Ln ∧ wp_L_release w (xs (pw_i (a4 + 1))) (fun w162 r163 => pw_jn (a4 + 1) Ln ∧ wp_M_release w162 (xs (pw_i (a4 + 1))) (fun w165 r166 => wp_M_thrown w165  (fun w167 r168 => (r168 = r163 → (¬ r163 = 0 → ih (a4 + 5) w167) ∧ (r163 = 0 → pw_jn 0 (pw_ln w167 13 0) ∧ (r166 = 0 → jp_L_law_966 Ln xs Q X ih a4 0 (w167.1 13 0 0) w167) ∧ (¬ r166 = 0 → jp_L_law_966 Ln xs Q X ih a4 1 (w167.1 13 0 0) w167))) ∧ (¬ r168 = r163 → Q w167 0)) (fun _ _ => False)) (fun _ _ => False)) (fun _ _ => False)) ∧ (v39 = 10 → pw_jn (a4 + 1) Ln ∧ pw_jn (a4 + 2) Ln ∧ pw_jn (a4 + 3) Ln ∧ wp_L_graze w (xs (pw_i (a4 + 1))) (xs (pw_i (a4 + 2))) (xs (pw_i (a4 + 3))) (fun w176 r177 => pw_jn (a4 + 1) Ln ∧ pw_jn (a4 + 2) Ln ∧ pw_jn (a4 + 3) Ln ∧ wp_M_graze w176 (xs (pw_i (a4 + 1))) (xs (pw_i (a4 + 2))) (xs (pw_i (a4 + 3))) (fun w181 r182 => wp_M_thrown w181  (fun w183 r184 => (r184 = r177 → (¬ r177 = 0 → ih (a4 + 5) w183) ∧ (r177 = 0 → pw_jn 0 (pw_ln w183 13 0) ∧ ∀ r188 : Int32, (r188 = 0 ↔ (w183.1 13 0 0) = r182) → (r188 = 0 → ih (a4 + 5) w183) ∧ (¬ r188 = 0 → Q w183 0))) ∧ (¬ r184 = r177 → Q w183 0)) (fun _ _ => False)) (fun _ _ => False)) (fun _ _ => False)) ∧ (v39 = 11 → pw_jn (a4 + 1) Ln ∧ wp_L_rain w (xs (pw_i (a4 + 1))) (fun w191 r192 => pw_jn (a4 + 1) Ln ∧ wp_M_rain w191 (xs (pw_i (a4 + 1))) (fun w194 r195 => wp_M_thrown w194  (fun w196 r197 => (r197 = r192 → (¬ r192 = 0 → ih (a4 + 5) w196) ∧ (r192 = 0 → pw_jn 0 (pw_ln w196 13 0) ∧ ∀ r201 : Int32, (r201 = 0 ↔ (w196.1 13 0 0) = r195) → (r201 = 0 → ih (a4 + 5) w196) ∧ (¬ r201 = 0 → Q w196 0))) ∧ (¬ r197 = r192 → Q w196 0)) (fun _ _ => False)) (fun _ _ => False)) (fun _ _ => False)) ∧ (v39 = 12 → pw_jn (a4 + 1) Ln ∧ pw_jn (a4 + 2) Ln ∧ wp_L_dig w (xs (pw_i (a4 + 1))) (xs (pw_i (a4 + 2))) (fun w205 r206 => pw_jn (a4 + 1) Ln ∧ pw_jn (a4 + 2) Ln ∧ wp_M_dig w205 (xs (pw_i (a4 + 1))) (xs (pw_i (a4 + 2))) (fun w209 r210 => wp_M_thrown w209  (fun w211 r212 => (r212 = r206 → (¬ r206 = 0 → ih (a4 + 5) w211) ∧ (r206 = 0 → pw_jn 0 (pw_ln w211 13 0) ∧ ∀ r216 : Int32, (r216 = 0 ↔ (w211.1 13 0 0) = r210) → (r216 = 0 → ih (a4 + 5) w211) ∧ (¬ r216 = 0 → Q w211 0))) ∧ (¬ r212 = r206 → Q w211 0)) (fun _ _ => False)) (fun _ _ => False)) (fun _ _ => False)) ∧ (v39 = 13 → pw_jn (a4 + 1) Ln ∧ wp_L_fill w (xs (pw_i (a4 + 1))) (fun w219 r220 => pw_jn (a4 + 1) Ln ∧ wp_M_fill w219 (xs (pw_i (a4 + 1))) (fun w222 r223 => wp_M_thrown w222  (fun w224 r225 => (r225 = r220 → (¬ r220 = 0 → ih (a4 + 5) w224) ∧ (r220 = 0 → pw_jn 0 (pw_ln w224 13 0) ∧ ∀ r229 : Int32, (r229 = 0 ↔ (w224.1 13 0 0) = r223) → (r229 = 0 → ih (a4 + 5) w224) ∧ (¬ r229 = 0 → Q w224 0))) ∧ (¬ r225 = r220 → Q w224 0)) (fun _ _ => False)) (fun _ _ => False)) (fun _ _ => False)) ∧ (v39 = 14 → pw_jn (a4 + 1) Ln ∧ pw_jn (a4 + 2) Ln ∧ pw_jn (a4 + 3) Ln ∧ wp_L_cut w (xs (pw_i (a4 + 1))) (xs (pw_i (a4 + 2))) (xs (pw_i (a4 + 3))) (fun w234 r235 => pw_jn (a4 + 1) Ln ∧ pw_jn (a4 + 2) Ln ∧ pw_jn (a4 + 3) Ln ∧ wp_M_cut w234 (xs (pw_i (a4 + 1))) (xs (pw_i (a4 + 2))) (xs (pw_i (a4 + 3))) (fun w239 r240 => wp_M_thrown w239  (fun w241 r242 => (r242 = r235 → (¬ r235 = 0 → ih (a4 + 5) w241) ∧ (r235 = 0 → pw_jn 0 (pw_ln w241 13 0) ∧ ∀ r246 : Int32, (r246 = 0 ↔ (w241.1 13 0 0) = r240) → (r246 = 0 → ih (a4 + 5) w241) ∧ (¬ r246 = 0 → Q w241 0))) ∧ (¬ r242 = r235 → Q w241 0)) (fun _ _ => False)) (fun _ _ => False)) (fun _ _ => False)) ∧ (v39 = 15 → pw_jn (a4 + 1) Ln ∧ wp_L_wind w (xs (pw_i (a4 + 1))) (fun w249 r250 => pw_jn (a4 + 1) Ln ∧ wp_M_wind w249 (xs (pw_i (a4 + 1))) (fun w252 r253 => wp_M_thrown w252  (fun w254 r255 => (r255 = r250 → (¬ r250 = 0 → ih (a4 + 5) w254) ∧ (r250 = 0 → pw_jn 0 (pw_ln w254 13 0) ∧ ∀ r259 : Int32, (r259 = 0 ↔ (w254.1 13 0 0) = r253) → (r259 = 0 → ih (a4 + 5) w254) ∧ (¬ r259 = 0 → Q w254 0))) ∧ (¬ r255 = r250 → Q w254 0)) (fun _ _ => False)) (fun _ _ => False)) (fun _ _ => False)) ∧ (v39 = 16 → pw_jn (a4 + 1) Ln ∧ pw_jn (a4 + 2) Ln ∧ wp_L_burn w (xs (pw_i (a4 + 1))) (xs (pw_i (a4 + 2))) (fun w263 r264 => pw_jn (a4 + 1) Ln ∧ pw_jn (a4 + 2) Ln ∧ wp_M_burn w263 (xs (pw_i (a4 + 1))) (xs (pw_i (a4 + 2))) (fun w267 r268 => wp_M_thrown w267  (fun w269 r270 => (r270 = r264 → (¬ r264 = 0 → ih (a4 + 5) w269) ∧ (r264 = 0 → pw_jn 0 (pw_ln w269 13 0) ∧ ∀ r274 : Int32, (r274 = 0 ↔ (w269.1 13 0 0) = r268) → (r274 = 0 → ih (a4 + 5) w269) ∧ (¬ r274 = 0 → Q w269 0))) ∧ (¬ r270 = r264 → Q w269 0)) (fun _ _ => False)) (fun _ _ => False)) (fun _ _ => False)) ∧ (v39 = 17 → pw_jn (a4 + 1) Ln ∧ wp_L_pass w (xs (pw_i (a4 + 1))) (fun w277 r278 => pw_jn (a4 + 1) Ln ∧ wp_M_pass w277 (xs (pw_i (a4 + 1))) (fun w280 r281 => wp_M_thrown w280  (fun w282 r283 => (r283 = r278 → (¬ r278 = 0 → ih (a4 + 5) w282) ∧ (r278 = 0 → pw_jn 0 (pw_ln w282 13 0) ∧ ∀ r287 : Int32, (r287 = 0 ↔ (w282.1 13 0 0) = r281) → (r287 = 0 → ih (a4 + 5) w282) ∧ (¬ r287 = 0 → Q w282 0))) ∧ (¬ r283 = r278 → Q w282 0)) (fun _ _ => False)) (fun _ _ => False)) (fun _ _ => False)) ∧ (v39 = 18 → pw_jn (a4 + 1) Ln ∧ pw_jn (a4 + 2) Ln ∧ wp_L_name w (xs (pw_i (a4 + 1))) (xs (pw_i (a4 + 2))) (fun w291 r292 => pw_jn (a4 + 1) Ln ∧ pw_jn (a4 + 2) Ln ∧ wp_M_name w291 (xs (pw_i (a4 + 1))) (xs (pw_i (a4 + 2))) (fun w295 r296 => wp_M_thrown w295  (fun w297 r298 => (r298 = r292 → (¬ r292 = 0 → ih (a4 + 5) w297) ∧ (r292 = 0 → pw_jn 0 (pw_ln w297 13 0) ∧ ∀ r302 : Int32, (r302 = 0 ↔ (w297.1 13 0 0) = r296) → (r302 = 0 → ih (a4 + 5) w297) ∧ (¬ r302 = 0 → Q w297 0))) ∧ (¬ r298 = r292 → Q w297 0)) (fun _ _ => False)) (fun _ _ => False)) (fun _ _ => False)) ∧ (v39 = 19 → pw_jn (a4 + 1) Ln ∧ wp_L_die w (xs (pw_i (a4 + 1))) (fun w305 r306 => pw_jn (a4 + 1) Ln ∧ wp_M_die w305 (xs (pw_i (a4 + 1))) (fun w308 r309 => wp_M_thrown w308  (fun w310 r311 => (r311 = r306 → (¬ r306 = 0 → ih (a4 + 5) w310) ∧ (r306 = 0 → pw_jn 0 (pw_ln w310 13 0) ∧ ∀ r315 : Int32, (r315 = 0 ↔ (w310.1 13 0 0) = r309) → (r315 = 0 → ih (a4 + 5) w310) ∧ (¬ r315 = 0 → Q w310 0))) ∧ (¬ r311 = r306 → Q w310 0)) (fun _ _ => False)) (fun _ _ => False)) (fun _ _ => False)) ∧ (v39 = 20 → wp_X_today w  (fun w317 r318 => wp_M_today w317  (fun w319 r320 => (r318 = r320 → ih (a4 + 5) w319) ∧ (¬ r318 = r320 → Q w319 0)) (fun _ _ => False)) (fun _ _ => False)) ∧ (v39 = 21 → wp_X_parcels w  (fun w322 r323 => wp_M_parcels w322  (fun w324 r325 => (r323 = r325 → ih (a4 + 5) w324) ∧ (¬ r323 = r325 → Q w324 0)) (fun _ _ => False)) (fun _ _ => False)) ∧ (v39 = 22 → pw_jn (a4 + 1) Ln ∧ wp_L_parcelOf w (xs (pw_i (a4 + 1))) (fun w328 r329 => pw_jn (a4 + 1) Ln ∧ wp_M_parcelOf w328 (xs (pw_i (a4 + 1))) (fun w331 r332 => wp_M_thrown w331  (fun w333 r334 => (r334 = r329 → (¬ r329 = 0 → ih (a4 + 5) w333) ∧ (r329 = 0 → pw_jn 0 (pw_ln w333 13 0) ∧ ∀ r338 : Int32, (r338 = 0 ↔ (w333.1 13 0 0) = r332) → (r338 = 0 → ih (a4 + 5) w333) ∧ (¬ r338 = 0 → Q w333 0))) ∧ (¬ r334 = r329 → Q w333 0)) (fun _ _ => False)) (fun _ _ => False)) (fun _ _ => False)) ∧ (v39 = 23 → pw_jn (a4 + 1) Ln ∧ pw_jn (a4 + 2) Ln ∧ wp_L_chain w (xs (pw_i (a4 + 1))) (xs (pw_i (a4 + 2))) (fun w342 r343 => pw_jn (a4 + 1) Ln ∧ pw_jn (a4 + 2) Ln ∧ wp_M_chain w342 (xs (pw_i (a4 + 1))) (xs (pw_i (a4 + 2))) (fun w346 r347 => wp_M_thrown w346  (fun w348 r349 => (r349 = r343 → (¬ r343 = 0 → ih (a4 + 5) w348) ∧ (r343 = 0 → pw_jn 0 (pw_ln w348 13 0) ∧ ∀ r353 : Int32, (r353 = 0 ↔ (w348.1 13 0 0) = r347) → (r353 = 0 → ih (a4 + 5) w348) ∧ (¬ r353 = 0 → Q w348 0))) ∧ (¬ r349 = r343 → Q w348 0)) (fun _ _ => False)) (fun _ _ => False)) (fun _ _ => False)) ∧ (v39 = 24 → pw_jn (a4 + 1) Ln ∧ wp_L_area w (xs (pw_i (a4 + 1))) (fun w356 r357 => pw_jn (a4 + 1) Ln ∧ wp_M_area w356 (xs (pw_i (a4 + 1))) (fun w359 r360 => wp_M_thrown w359  (fun w361 r362 => (r362 = r357 → (¬ r357 = 0 → ih (a4 + 5) w361) ∧ (r357 = 0 → pw_jn 0 (pw_ln w361 13 0) ∧ ∀ r366 : Int32, (r366 = 0 ↔ (w361.1 13 0 0) = r360) → (r366 = 0 → ih (a4 + 5) w361) ∧ (¬ r366 = 0 → Q w361 0))) ∧ (¬ r362 = r357 → Q w361 0)) (fun _ _ => False)) (fun _ _ => False)) (fun _ _ => False)) ∧ (v39 = 25 → pw_jn (a4 + 1) Ln ∧ wp_L_owner w (xs (pw_i (a4 + 1))) (fun w369 r370 => pw_jn (a4 + 1) Ln ∧ wp_M_owner w369 (xs (pw_i (a4 + 1))) (fun w372 r373 => wp_M_thrown w372  (fun w374 r375 => (r375 = r370 → (¬ r370 = 0 → ih (a4 + 5) w374) ∧ (r370 = 0 → pw_jn 0 (pw_ln w374 13 0) ∧ ∀ r379 : Int32, (r379 = 0 ↔ (w374.1 13 0 0) = r373) → (r379 = 0 → ih (a4 + 5) w374) ∧ (¬ r379 = 0 → Q w374 0))) ∧ (¬ r375 = r370 → Q w374 0)) (fun _ _ => False)) (fun _ _ => False)) (fun _ _ => False)) ∧ (v39 = 26 → pw_jn (a4 + 1) Ln ∧ wp_L_disputed w (xs (pw_i (a4 + 1))) (fun w382 r383 => pw_jn (a4 + 1) Ln ∧ wp_M_disputed w382 (xs (pw_i (a4 + 1))) (fun w385 r386 => wp_M_thrown w385  (fun w387 r388 => (r388 = r383 → (¬ r383 = 0 → ih (a4 + 5) w387) ∧ (r383 = 0 → pw_jn 0 (pw_ln w387 13 0) ∧ ∀ r392 : Int32, (r392 = 0 ↔ (w387.1 13 0 0) = r386) → (r392 = 0 → ih (a4 + 5) w387) ∧ (¬ r392 = 0 → Q w387 0))) ∧ (¬ r388 = r383 → Q w387 0)) (fun _ _ => False)) (fun _ _ => False)) (fun _ _ => False)) ∧ (v39 = 27 → pw_jn (a4 + 1) Ln ∧ pw_jn (a4 + 2) Ln ∧ wp_L_caseAt w (xs (pw_i (a4 + 1))) (xs (pw_i (a4 + 2))) (fun w396 r397 => pw_jn (a4 + 1) Ln ∧ pw_jn (a4 + 2) Ln ∧ wp_M_caseAt w396 (xs (pw_i (a4 + 1))) (xs (pw_i (a4 + 2))) (fun w400 r401 => wp_M_thrown w400  (fun w402 r403 => (r403 = r397 → (¬ r397 = 0 → ih (a4 + 5) w402) ∧ (r397 = 0 → pw_jn 0 (pw_ln w402 13 0) ∧ ∀ r407 : Int32, (r407 = 0 ↔ (w402.1 13 0 0) = r401) → (r407 = 0 → ih (a4 + 5) w402) ∧ (¬ r407 = 0 → Q w402 0))) ∧ (¬ r403 = r397 → Q w402 0)) (fun _ _ => False)) (fun _ _ => False)) (fun _ _ => False)) ∧ (v39 = 28 → pw_jn (a4 + 1) Ln ∧ pw_jn (a4 + 2) Ln ∧ wp_L_rightAt w (xs (pw_i (a4 + 1))) (xs (pw_i (a4 + 2))) (fun w411 r412 => pw_jn (a4 + 1) Ln ∧ pw_jn (a4 + 2) Ln ∧ wp_M_rightAt w411 (xs (pw_i (a4 + 1))) (xs (pw_i (a4 + 2))) (fun w415 r416 => wp_M_thrown w415  (fun w417 r418 => (r418 = r412 → (¬ r412 = 0 → ih (a4 + 5) w417) ∧ (r412 = 0 → pw_jn 0 (pw_ln w417 13 0) ∧ ∀ r422 : Int32, (r422 = 0 ↔ (w417.1 13 0 0) = r416) → (r422 = 0 → ih (a4 + 5) w417) ∧ (¬ r422 = 0 → Q w417 0))) ∧ (¬ r418 = r412 → Q w417 0)) (fun _ _ => False)) (fun _ _ => False)) (fun _ _ => False)) ∧ (v39 = 29 → pw_jn (a4 + 1) Ln ∧ pw_jn (a4 + 2) Ln ∧ wp_L_square w (xs (pw_i (a4 + 1))) (xs (pw_i (a4 + 2))) (fun w426 r427 => pw_jn (a4 + 1) Ln ∧ pw_jn (a4 + 2) Ln ∧ wp_M_square w426 (xs (pw_i (a4 + 1))) (xs (pw_i (a4 + 2))) (fun w430 r431 => wp_M_thrown w430  (fun w432 r433 => (r433 = r427 → (¬ r427 = 0 → ih (a4 + 5) w432) ∧ (r427 = 0 → pw_jn 0 (pw_ln w432 13 0) ∧ ∀ r437 : Int32, (r437 = 0 ↔ (w432.1 13 0 0) = r431) → (r437 = 0 → ih (a4 + 5) w432) ∧ (¬ r437 = 0 → Q w432 0))) ∧ (¬ r433 = r427 → Q w432 0)) (fun _ _ => False)) (fun _ _ => False)) (fun _ _ => False)) ∧ (v39 = 30 → pw_jn (a4 + 1) Ln ∧ wp_L_water w (xs (pw_i (a4 + 1))) (fun w440 r441 => pw_jn (a4 + 1) Ln ∧ wp_M_water w440 (xs (pw_i (a4 + 1))) (fun w443 r444 => wp_M_thrown w443  (fun w445 r446 => (r446 = r441 → (¬ r441 = 0 → ih (a4 + 5) w445) ∧ (r441 = 0 → pw_jn 0 (pw_ln w445 13 0) ∧ ∀ r450 : Int32, (r450 = 0 ↔ (w445.1 13 0 0) = r444) → (r450 = 0 → ih (a4 + 5) w445) ∧ (¬ r450 = 0 → Q w445 0))) ∧ (¬ r446 = r441 → Q w445 0)) (fun _ _ => False)) (fun _ _ => False)) (fun _ _ => False)) ∧ (v39 = 31 → pw_jn (a4 + 1) Ln ∧ wp_L_paid w (xs (pw_i (a4 + 1))) (fun w453 r454 => pw_jn (a4 + 1) Ln ∧ wp_M_paid w453 (xs (pw_i (a4 + 1))) (fun w456 r457 => wp_M_thrown w456  (fun w458 r459 => (r459 = r454 → (¬ r454 = 0 → ih (a4 + 5) w458) ∧ (r454 = 0 → pw_jn 0 (pw_ln w458 13 0) ∧ ∀ r463 : Int32, (r463 = 0 ↔ (w458.1 13 0 0) = r457) → (r463 = 0 → ih (a4 + 5) w458) ∧ (¬ r463 = 0 → Q w458 0))) ∧ (¬ r459 = r454 → Q w458 0)) (fun _ _ => False)) (fun _ _ => False)) (fun _ _ => False)) ∧ (v39 = 32 → pw_jn (a4 + 1) Ln ∧ pw_jn (a4 + 2) Ln ∧ wp_L_sheep w (xs (pw_i (a4 + 1))) (xs (pw_i (a4 + 2))) (fun w467 r468 => pw_jn (a4 + 1) Ln ∧ pw_jn (a4 + 2) Ln ∧ wp_M_sheep w467 (xs (pw_i (a4 + 1))) (xs (pw_i (a4 + 2))) (fun w471 r472 => wp_M_thrown w471  (fun w473 r474 => (r474 = r468 → (¬ r468 = 0 → ih (a4 + 5) w473) ∧ (r468 = 0 → pw_jn 0 (pw_ln w473 13 0) ∧ ∀ r478 : Int32, (r478 = 0 ↔ (w473.1 13 0 0) = r472) → (r478 = 0 → ih (a4 + 5) w473) ∧ (¬ r478 = 0 → Q w473 0))) ∧ (¬ r474 = r468 → Q w473 0)) (fun _ _ => False)) (fun _ _ => False)) (fun _ _ => False)))) := rfl
set_option maxHeartbeats 4000000 in
set_option maxRecDepth 20000 in
theorem vlp_L_law_23 {l : Launch} {g : pw_G} {Q : pw_W → Int32 → Prop} {X : pw_W → Nat → Prop} {Ln : Nat} {xs : Nat → Int32} (hl0 : l.stackTraces = false) (hsc : pw_sc g Ln xs) : ∀ (k : Nat) (a4 : Int32) (w : pw_W), lp_L_law_23 Ln xs Q X k a4 w → pw_V l g cx_L_law Q X 23 [(3000, 0), (9, 0), (10, 0), (15, 0), (0, a4), (1, 0), (1, 0)] [] w := by
  intro k; induction k with
  | zero => intro _ _ h; exact h.elim
  | succ k ih =>
    intro a4 w h
    rw [lp_L_law_23_s] at h
    refine pv_iload (n := 25) d_L_law_23 rfl rfl ?_
    refine pv_aload_n (n := 26) d_L_law_25 rfl rfl rfl ?_
    refine pv_slen (n := 27) hsc d_L_law_26 rfl ?_
    refine pv_iconst (v := 5) (n := 28) d_L_law_27 (by decide) rfl ?_
    refine pv_isub (n := 29) d_L_law_28 rfl ?_
    refine pv_icmp_gt (n := 32) (tgt := 2327) d_L_law_29 (by decide) rfl (fun c37 => ?_) (fun c37 => ?_)
    · replace h := h.1 c37
      refine pv_iconst (v := 1) (n := 2328) d_L_law_2327 (by decide) rfl ?_
      exact pv_zret rfl rfl d_L_law_2328 (by decide) h
    · replace h := h.2 c37
      refine pv_aload_n (n := 33) d_L_law_32 rfl rfl rfl ?_
      refine pv_iload (n := 35) d_L_law_33 rfl rfl ?_
      obtain ⟨g38, h⟩ := h
      refine pv_sld (n := 36) hsc d_L_law_35 g38 rfl ?_
      refine pv_bipush (v := 63) (n := 38) d_L_law_36 (by decide) rfl ?_
      refine pv_iand (n := 39) d_L_law_38 rfl ?_
      refine pv_nm (fun v39 e40 => ?_)
      replace h := h v39 e40
      by_cases c41 : v39.toInt < 0 ∨ 32 < v39.toInt
      · replace h := h.1 c41
        refine pv_tableOut (tgt := 2321) d_L_law_39 c41 (by decide) ?_
        refine pv_iinc (v := (a4 + 5)) (n := 2324) (L1 := [(3000, 0), (9, 0), (10, 0), (15, 0), (0, (a4 + 5)), (1, 0), (1, 0)]) d_L_law_2321 rfl rfl rfl (by decide) rfl ?_
        refine pv_goto (tgt := 23) d_L_law_2324 (by decide) ?_
        exact ih _ _ h
      · replace h := h.2
        obtain ⟨cn, hcn, hce⟩ := pw_sw (N := 33) (x := v39) c41
        have hcs : cn = 0 ∨ cn = 1 ∨ cn = 2 ∨ cn = 3 ∨ cn = 4 ∨ cn = 5 ∨ cn = 6 ∨ cn = 7 ∨ cn = 8 ∨ cn = 9 ∨ cn = 10 ∨ cn = 11 ∨ cn = 12 ∨ cn = 13 ∨ cn = 14 ∨ cn = 15 ∨ cn = 16 ∨ cn = 17 ∨ cn = 18 ∨ cn = 19 ∨ cn = 20 ∨ cn = 21 ∨ cn = 22 ∨ cn = 23 ∨ cn = 24 ∨ cn = 25 ∨ cn = 26 ∨ cn = 27 ∨ cn = 28 ∨ cn = 29 ∨ cn = 30 ∨ cn = 31 ∨ cn = 32 := by omega
        rcases hcs with rfl | rfl | rfl | rfl | rfl | rfl | rfl | rfl | rfl | rfl | rfl | rfl | rfl | rfl | rfl | rfl | rfl | rfl | rfl | rfl | rfl | rfl | rfl | rfl | rfl | rfl | rfl | rfl | rfl | rfl | rfl | rfl | rfl
        · replace hce : v39 = 0 := hce
          replace h := h.1 hce
          refine pv_tableIn (tgt := 184) (off := 145) d_L_law_39 (by rw [hce]; decide) (by rw [hce]; decide) (by rw [hce]; rfl) (by decide) ?_
          refine pv_aload_n (n := 185) d_L_law_184 rfl rfl rfl ?_
          refine pv_aload_n (n := 186) d_L_law_185 rfl rfl rfl ?_
          refine pv_iload (n := 188) d_L_law_186 rfl rfl ?_
          refine pv_iconst (v := 1) (n := 189) d_L_law_188 (by decide) rfl ?_
          refine pv_iadd (n := 190) d_L_law_189 rfl ?_
          obtain ⟨g42, h⟩ := h
          refine pv_sld (n := 191) hsc d_L_law_190 g42 rfl ?_
          refine pv_aload_n (n := 192) d_L_law_191 rfl rfl rfl ?_
          refine pv_iload (n := 194) d_L_law_192 rfl rfl ?_
          refine pv_iconst (v := 2) (n := 195) d_L_law_194 (by decide) rfl ?_
          refine pv_iadd (n := 196) d_L_law_195 rfl ?_
          obtain ⟨g43, h⟩ := h
          refine pv_sld (n := 197) hsc d_L_law_196 g43 rfl ?_
          refine pv_aload_n (n := 198) d_L_law_197 rfl rfl rfl ?_
          refine pv_iload (n := 200) d_L_law_198 rfl rfl ?_
          refine pv_iconst (v := 3) (n := 201) d_L_law_200 (by decide) rfl ?_
          refine pv_iadd (n := 202) d_L_law_201 rfl ?_
          obtain ⟨g44, h⟩ := h
          refine pv_sld (n := 203) hsc d_L_law_202 g44 rfl ?_
          refine pv_aload_n (n := 204) d_L_law_203 rfl rfl rfl ?_
          refine pv_iload (n := 206) d_L_law_204 rfl rfl ?_
          refine pv_iconst (v := 4) (n := 207) d_L_law_206 (by decide) rfl ?_
          refine pv_iadd (n := 208) d_L_law_207 rfl ?_
          obtain ⟨g45, h⟩ := h
          refine pv_sld (n := 209) hsc d_L_law_208 g45 rfl ?_
          refine pv_aload_n (n := 210) d_L_law_209 rfl rfl rfl ?_
          refine pv_callSH (n := 213) [(9, 0), (0, (xs (pw_i (a4 + 1)))), (0, (xs (pw_i (a4 + 2)))), (0, (xs (pw_i (a4 + 3)))), (0, (xs (pw_i (a4 + 4)))), (15, 0)] [] (con_L_grant hl0 h) q_810 q_811 q_795 q_809 pyo_L_grant (by decide) rfl rfl d_L_law_210 rfl (fun w46 r47 h _ => ?_) (fun _ _ h => h.elim)
          show pw_V l g cx_L_law Q X 213 [(3000, 0), (9, 0), (10, 0), (15, 0), (0, a4), (1, 0), (1, 0)] [(0, r47)] w46
          refine pv_istore (n := 215) (L' := [(3000, 0), (9, 0), (10, 0), (15, 0), (0, a4), (0, r47), (1, 0)]) d_L_law_213 (by decide) rfl rfl ?_
          refine pv_aload_n (n := 216) d_L_law_215 rfl rfl rfl ?_
          refine pv_aload_n (n := 217) d_L_law_216 rfl rfl rfl ?_
          refine pv_iload (n := 219) d_L_law_217 rfl rfl ?_
          refine pv_iconst (v := 1) (n := 220) d_L_law_219 (by decide) rfl ?_
          refine pv_iadd (n := 221) d_L_law_220 rfl ?_
          obtain ⟨g48, h⟩ := h
          refine pv_sld (n := 222) hsc d_L_law_221 g48 rfl ?_
          refine pv_aload_n (n := 223) d_L_law_222 rfl rfl rfl ?_
          refine pv_iload (n := 225) d_L_law_223 rfl rfl ?_
          refine pv_iconst (v := 2) (n := 226) d_L_law_225 (by decide) rfl ?_
          refine pv_iadd (n := 227) d_L_law_226 rfl ?_
          obtain ⟨g49, h⟩ := h
          refine pv_sld (n := 228) hsc d_L_law_227 g49 rfl ?_
          refine pv_aload_n (n := 229) d_L_law_228 rfl rfl rfl ?_
          refine pv_iload (n := 231) d_L_law_229 rfl rfl ?_
          refine pv_iconst (v := 3) (n := 232) d_L_law_231 (by decide) rfl ?_
          refine pv_iadd (n := 233) d_L_law_232 rfl ?_
          obtain ⟨g50, h⟩ := h
          refine pv_sld (n := 234) hsc d_L_law_233 g50 rfl ?_
          refine pv_aload_n (n := 235) d_L_law_234 rfl rfl rfl ?_
          refine pv_iload (n := 237) d_L_law_235 rfl rfl ?_
          refine pv_iconst (v := 4) (n := 238) d_L_law_237 (by decide) rfl ?_
          refine pv_iadd (n := 239) d_L_law_238 rfl ?_
          obtain ⟨g51, h⟩ := h
          refine pv_sld (n := 240) hsc d_L_law_239 g51 rfl ?_
          refine pv_callV (n := 243) (x := 0) [(0, (xs (pw_i (a4 + 1)))), (0, (xs (pw_i (a4 + 2)))), (0, (xs (pw_i (a4 + 3)))), (0, (xs (pw_i (a4 + 4))))] [] (con_M_grant hl0 h) pw_cf8 rfl q_806 q_807 q_808 q_458 q_805 pyo_M_grant (by decide) rfl rfl (by decide) d_L_law_240 rfl (fun w52 r53 h _ => ?_) (fun _ _ h => h.elim)
          show pw_V l g cx_L_law Q X 243 [(3000, 0), (9, 0), (10, 0), (15, 0), (0, a4), (0, r47), (1, 0)] [(0, r53)] w52
          refine pv_istore (n := 245) (L' := [(3000, 0), (9, 0), (10, 0), (15, 0), (0, a4), (0, r47), (0, r53)]) d_L_law_243 (by decide) rfl rfl ?_
          refine pv_aload_n (n := 246) d_L_law_245 rfl rfl rfl ?_
          refine pv_callV (n := 249) (x := 0) [] [] (con_M_thrown hl0 h) pw_cf8 rfl q_787 q_788 q_789 q_458 q_786 pyo_M_thrown (by decide) rfl rfl (by decide) d_L_law_246 rfl (fun w54 r55 h _ => ?_) (fun _ _ h => h.elim)
          show pw_V l g cx_L_law Q X 249 [(3000, 0), (9, 0), (10, 0), (15, 0), (0, a4), (0, r47), (0, r53)] [(0, r55)] w54
          refine pv_iload (n := 251) d_L_law_249 rfl rfl ?_
          refine pv_icmp_eq (n := 254) (tgt := 256) d_L_law_251 (by decide) rfl (fun c56 => ?_) (fun c56 => ?_)
          · replace h := h.1 c56
            refine pv_iload (n := 258) d_L_law_256 rfl rfl ?_
            refine pv_if_ne (n := 261) (tgt := 273) d_L_law_258 (by decide) rfl (fun c57 => ?_) (fun c57 => ?_)
            · replace h := h.1 c57
              refine pv_goto (tgt := 2321) d_L_law_273 (by decide) ?_
              refine pv_iinc (v := (a4 + 5)) (n := 2324) (L1 := [(3000, 0), (9, 0), (10, 0), (15, 0), (0, (a4 + 5)), (0, r47), (0, r53)]) d_L_law_2321 rfl rfl rfl (by decide) rfl ?_
              refine pv_goto (tgt := 23) d_L_law_2324 (by decide) ?_
              refine pv_unset (i := 5) (L1 := [(3000, 0), (9, 0), (10, 0), (15, 0), (0, (a4 + 5)), (1, 0), (0, r53)]) rfl ?_
              refine pv_unset (i := 6) (L1 := [(3000, 0), (9, 0), (10, 0), (15, 0), (0, (a4 + 5)), (1, 0), (1, 0)]) rfl ?_
              exact ih _ _ h
            · replace h := h.2 c57
              refine pv_aload_n (n := 262) d_L_law_261 rfl rfl rfl ?_
              refine pv_iconst (v := 0) (n := 263) d_L_law_262 (by decide) rfl ?_
              obtain ⟨g58, h⟩ := h
              refine pv_lald (n := 264) (f := 13) (by decide) rfl d_L_law_263 (by decide) g58 rfl ?_
              refine pv_iload (n := 266) d_L_law_264 rfl rfl ?_
              refine pv_i2l (n := 267) d_L_law_266 rfl ?_
              refine pv_lcmp (n := 268) d_L_law_267 rfl (fun r59 hr => ?_)
              replace h := h r59 hr
              refine pv_if_eq (n := 271) (tgt := 273) d_L_law_268 (by decide) rfl (fun c60 => ?_) (fun c60 => ?_)
              · replace h := h.1 c60
                refine pv_goto (tgt := 2321) d_L_law_273 (by decide) ?_
                refine pv_iinc (v := (a4 + 5)) (n := 2324) (L1 := [(3000, 0), (9, 0), (10, 0), (15, 0), (0, (a4 + 5)), (0, r47), (0, r53)]) d_L_law_2321 rfl rfl rfl (by decide) rfl ?_
                refine pv_goto (tgt := 23) d_L_law_2324 (by decide) ?_
                refine pv_unset (i := 5) (L1 := [(3000, 0), (9, 0), (10, 0), (15, 0), (0, (a4 + 5)), (1, 0), (0, r53)]) rfl ?_
                refine pv_unset (i := 6) (L1 := [(3000, 0), (9, 0), (10, 0), (15, 0), (0, (a4 + 5)), (1, 0), (1, 0)]) rfl ?_
                exact ih _ _ h
              · replace h := h.2 c60
                refine pv_iconst (v := 0) (n := 272) d_L_law_271 (by decide) rfl ?_
                exact pv_zret rfl rfl d_L_law_272 (by decide) h
          · replace h := h.2 c56
            refine pv_iconst (v := 0) (n := 255) d_L_law_254 (by decide) rfl ?_
            exact pv_zret rfl rfl d_L_law_255 (by decide) h
        · replace hce : v39 = 1 := hce
          replace h := h.2.1 hce
          refine pv_tableIn (tgt := 276) (off := 237) d_L_law_39 (by rw [hce]; decide) (by rw [hce]; decide) (by rw [hce]; rfl) (by decide) ?_
          refine pv_aload_n (n := 277) d_L_law_276 rfl rfl rfl ?_
          refine pv_aload_n (n := 278) d_L_law_277 rfl rfl rfl ?_
          refine pv_iload (n := 280) d_L_law_278 rfl rfl ?_
          refine pv_iconst (v := 1) (n := 281) d_L_law_280 (by decide) rfl ?_
          refine pv_iadd (n := 282) d_L_law_281 rfl ?_
          obtain ⟨g61, h⟩ := h
          refine pv_sld (n := 283) hsc d_L_law_282 g61 rfl ?_
          refine pv_aload_n (n := 284) d_L_law_283 rfl rfl rfl ?_
          refine pv_iload (n := 286) d_L_law_284 rfl rfl ?_
          refine pv_iconst (v := 2) (n := 287) d_L_law_286 (by decide) rfl ?_
          refine pv_iadd (n := 288) d_L_law_287 rfl ?_
          obtain ⟨g62, h⟩ := h
          refine pv_sld (n := 289) hsc d_L_law_288 g62 rfl ?_
          refine pv_aload_n (n := 290) d_L_law_289 rfl rfl rfl ?_
          refine pv_callSH (n := 293) [(9, 0), (0, (xs (pw_i (a4 + 1)))), (0, (xs (pw_i (a4 + 2)))), (15, 0)] [] (con_L_merge hl0 h) q_817 q_818 q_795 q_816 pyo_L_merge (by decide) rfl rfl d_L_law_290 rfl (fun w63 r64 h _ => ?_) (fun _ _ h => h.elim)
          show pw_V l g cx_L_law Q X 293 [(3000, 0), (9, 0), (10, 0), (15, 0), (0, a4), (1, 0), (1, 0)] [(0, r64)] w63
          refine pv_istore (n := 295) (L' := [(3000, 0), (9, 0), (10, 0), (15, 0), (0, a4), (0, r64), (1, 0)]) d_L_law_293 (by decide) rfl rfl ?_
          refine pv_aload_n (n := 296) d_L_law_295 rfl rfl rfl ?_
          refine pv_aload_n (n := 297) d_L_law_296 rfl rfl rfl ?_
          refine pv_iload (n := 299) d_L_law_297 rfl rfl ?_
          refine pv_iconst (v := 1) (n := 300) d_L_law_299 (by decide) rfl ?_
          refine pv_iadd (n := 301) d_L_law_300 rfl ?_
          obtain ⟨g65, h⟩ := h
          refine pv_sld (n := 302) hsc d_L_law_301 g65 rfl ?_
          refine pv_aload_n (n := 303) d_L_law_302 rfl rfl rfl ?_
          refine pv_iload (n := 305) d_L_law_303 rfl rfl ?_
          refine pv_iconst (v := 2) (n := 306) d_L_law_305 (by decide) rfl ?_
          refine pv_iadd (n := 307) d_L_law_306 rfl ?_
          obtain ⟨g66, h⟩ := h
          refine pv_sld (n := 308) hsc d_L_law_307 g66 rfl ?_
          refine pv_callV (n := 311) (x := 0) [(0, (xs (pw_i (a4 + 1)))), (0, (xs (pw_i (a4 + 2))))] [] (con_M_merge hl0 h) pw_cf8 rfl q_813 q_814 q_815 q_458 q_812 pyo_M_merge (by decide) rfl rfl (by decide) d_L_law_308 rfl (fun w67 r68 h _ => ?_) (fun _ _ h => h.elim)
          show pw_V l g cx_L_law Q X 311 [(3000, 0), (9, 0), (10, 0), (15, 0), (0, a4), (0, r64), (1, 0)] [(0, r68)] w67
          refine pv_istore (n := 313) (L' := [(3000, 0), (9, 0), (10, 0), (15, 0), (0, a4), (0, r64), (0, r68)]) d_L_law_311 (by decide) rfl rfl ?_
          refine pv_aload_n (n := 314) d_L_law_313 rfl rfl rfl ?_
          refine pv_callV (n := 317) (x := 0) [] [] (con_M_thrown hl0 h) pw_cf8 rfl q_787 q_788 q_789 q_458 q_786 pyo_M_thrown (by decide) rfl rfl (by decide) d_L_law_314 rfl (fun w69 r70 h _ => ?_) (fun _ _ h => h.elim)
          show pw_V l g cx_L_law Q X 317 [(3000, 0), (9, 0), (10, 0), (15, 0), (0, a4), (0, r64), (0, r68)] [(0, r70)] w69
          refine pv_iload (n := 319) d_L_law_317 rfl rfl ?_
          refine pv_icmp_eq (n := 322) (tgt := 324) d_L_law_319 (by decide) rfl (fun c71 => ?_) (fun c71 => ?_)
          · replace h := h.1 c71
            refine pv_iload (n := 326) d_L_law_324 rfl rfl ?_
            refine pv_if_ne (n := 329) (tgt := 341) d_L_law_326 (by decide) rfl (fun c72 => ?_) (fun c72 => ?_)
            · replace h := h.1 c72
              refine pv_goto (tgt := 2321) d_L_law_341 (by decide) ?_
              refine pv_iinc (v := (a4 + 5)) (n := 2324) (L1 := [(3000, 0), (9, 0), (10, 0), (15, 0), (0, (a4 + 5)), (0, r64), (0, r68)]) d_L_law_2321 rfl rfl rfl (by decide) rfl ?_
              refine pv_goto (tgt := 23) d_L_law_2324 (by decide) ?_
              refine pv_unset (i := 5) (L1 := [(3000, 0), (9, 0), (10, 0), (15, 0), (0, (a4 + 5)), (1, 0), (0, r68)]) rfl ?_
              refine pv_unset (i := 6) (L1 := [(3000, 0), (9, 0), (10, 0), (15, 0), (0, (a4 + 5)), (1, 0), (1, 0)]) rfl ?_
              exact ih _ _ h
            · replace h := h.2 c72
              refine pv_aload_n (n := 330) d_L_law_329 rfl rfl rfl ?_
              refine pv_iconst (v := 0) (n := 331) d_L_law_330 (by decide) rfl ?_
              obtain ⟨g73, h⟩ := h
              refine pv_lald (n := 332) (f := 13) (by decide) rfl d_L_law_331 (by decide) g73 rfl ?_
              refine pv_iload (n := 334) d_L_law_332 rfl rfl ?_
              refine pv_i2l (n := 335) d_L_law_334 rfl ?_
              refine pv_lcmp (n := 336) d_L_law_335 rfl (fun r74 hr => ?_)
              replace h := h r74 hr
              refine pv_if_eq (n := 339) (tgt := 341) d_L_law_336 (by decide) rfl (fun c75 => ?_) (fun c75 => ?_)
              · replace h := h.1 c75
                refine pv_goto (tgt := 2321) d_L_law_341 (by decide) ?_
                refine pv_iinc (v := (a4 + 5)) (n := 2324) (L1 := [(3000, 0), (9, 0), (10, 0), (15, 0), (0, (a4 + 5)), (0, r64), (0, r68)]) d_L_law_2321 rfl rfl rfl (by decide) rfl ?_
                refine pv_goto (tgt := 23) d_L_law_2324 (by decide) ?_
                refine pv_unset (i := 5) (L1 := [(3000, 0), (9, 0), (10, 0), (15, 0), (0, (a4 + 5)), (1, 0), (0, r68)]) rfl ?_
                refine pv_unset (i := 6) (L1 := [(3000, 0), (9, 0), (10, 0), (15, 0), (0, (a4 + 5)), (1, 0), (1, 0)]) rfl ?_
                exact ih _ _ h
              · replace h := h.2 c75
                refine pv_iconst (v := 0) (n := 340) d_L_law_339 (by decide) rfl ?_
                exact pv_zret rfl rfl d_L_law_340 (by decide) h
          · replace h := h.2 c71
            refine pv_iconst (v := 0) (n := 323) d_L_law_322 (by decide) rfl ?_
            exact pv_zret rfl rfl d_L_law_323 (by decide) h
        · replace hce : v39 = 2 := hce
          replace h := h.2.2.1 hce
          refine pv_tableIn (tgt := 344) (off := 305) d_L_law_39 (by rw [hce]; decide) (by rw [hce]; decide) (by rw [hce]; rfl) (by decide) ?_
          refine pv_aload_n (n := 345) d_L_law_344 rfl rfl rfl ?_
          refine pv_aload_n (n := 346) d_L_law_345 rfl rfl rfl ?_
          refine pv_iload (n := 348) d_L_law_346 rfl rfl ?_
          refine pv_iconst (v := 1) (n := 349) d_L_law_348 (by decide) rfl ?_
          refine pv_iadd (n := 350) d_L_law_349 rfl ?_
          obtain ⟨g76, h⟩ := h
          refine pv_sld (n := 351) hsc d_L_law_350 g76 rfl ?_
          refine pv_aload_n (n := 352) d_L_law_351 rfl rfl rfl ?_
          refine pv_iload (n := 354) d_L_law_352 rfl rfl ?_
          refine pv_iconst (v := 2) (n := 355) d_L_law_354 (by decide) rfl ?_
          refine pv_iadd (n := 356) d_L_law_355 rfl ?_
          obtain ⟨g77, h⟩ := h
          refine pv_sld (n := 357) hsc d_L_law_356 g77 rfl ?_
          refine pv_aload_n (n := 358) d_L_law_357 rfl rfl rfl ?_
          refine pv_iload (n := 360) d_L_law_358 rfl rfl ?_
          refine pv_iconst (v := 3) (n := 361) d_L_law_360 (by decide) rfl ?_
          refine pv_iadd (n := 362) d_L_law_361 rfl ?_
          obtain ⟨g78, h⟩ := h
          refine pv_sld (n := 363) hsc d_L_law_362 g78 rfl ?_
          refine pv_aload_n (n := 364) d_L_law_363 rfl rfl rfl ?_
          refine pv_callSH (n := 367) [(9, 0), (0, (xs (pw_i (a4 + 1)))), (0, (xs (pw_i (a4 + 2)))), (0, (xs (pw_i (a4 + 3)))), (15, 0)] [] (con_L_survey hl0 h) q_824 q_825 q_795 q_823 pyo_L_survey (by decide) rfl rfl d_L_law_364 rfl (fun w79 r80 h _ => ?_) (fun _ _ h => h.elim)
          show pw_V l g cx_L_law Q X 367 [(3000, 0), (9, 0), (10, 0), (15, 0), (0, a4), (1, 0), (1, 0)] [(0, r80)] w79
          refine pv_istore (n := 369) (L' := [(3000, 0), (9, 0), (10, 0), (15, 0), (0, a4), (0, r80), (1, 0)]) d_L_law_367 (by decide) rfl rfl ?_
          refine pv_aload_n (n := 370) d_L_law_369 rfl rfl rfl ?_
          refine pv_aload_n (n := 371) d_L_law_370 rfl rfl rfl ?_
          refine pv_iload (n := 373) d_L_law_371 rfl rfl ?_
          refine pv_iconst (v := 1) (n := 374) d_L_law_373 (by decide) rfl ?_
          refine pv_iadd (n := 375) d_L_law_374 rfl ?_
          obtain ⟨g81, h⟩ := h
          refine pv_sld (n := 376) hsc d_L_law_375 g81 rfl ?_
          refine pv_aload_n (n := 377) d_L_law_376 rfl rfl rfl ?_
          refine pv_iload (n := 379) d_L_law_377 rfl rfl ?_
          refine pv_iconst (v := 2) (n := 380) d_L_law_379 (by decide) rfl ?_
          refine pv_iadd (n := 381) d_L_law_380 rfl ?_
          obtain ⟨g82, h⟩ := h
          refine pv_sld (n := 382) hsc d_L_law_381 g82 rfl ?_
          refine pv_aload_n (n := 383) d_L_law_382 rfl rfl rfl ?_
          refine pv_iload (n := 385) d_L_law_383 rfl rfl ?_
          refine pv_iconst (v := 3) (n := 386) d_L_law_385 (by decide) rfl ?_
          refine pv_iadd (n := 387) d_L_law_386 rfl ?_
          obtain ⟨g83, h⟩ := h
          refine pv_sld (n := 388) hsc d_L_law_387 g83 rfl ?_
          refine pv_callV (n := 391) (x := 0) [(0, (xs (pw_i (a4 + 1)))), (0, (xs (pw_i (a4 + 2)))), (0, (xs (pw_i (a4 + 3))))] [] (con_M_survey hl0 h) pw_cf8 rfl q_820 q_821 q_822 q_458 q_819 pyo_M_survey (by decide) rfl rfl (by decide) d_L_law_388 rfl (fun w84 r85 h _ => ?_) (fun _ _ h => h.elim)
          show pw_V l g cx_L_law Q X 391 [(3000, 0), (9, 0), (10, 0), (15, 0), (0, a4), (0, r80), (1, 0)] [(0, r85)] w84
          refine pv_istore (n := 393) (L' := [(3000, 0), (9, 0), (10, 0), (15, 0), (0, a4), (0, r80), (0, r85)]) d_L_law_391 (by decide) rfl rfl ?_
          refine pv_aload_n (n := 394) d_L_law_393 rfl rfl rfl ?_
          refine pv_callV (n := 397) (x := 0) [] [] (con_M_thrown hl0 h) pw_cf8 rfl q_787 q_788 q_789 q_458 q_786 pyo_M_thrown (by decide) rfl rfl (by decide) d_L_law_394 rfl (fun w86 r87 h _ => ?_) (fun _ _ h => h.elim)
          show pw_V l g cx_L_law Q X 397 [(3000, 0), (9, 0), (10, 0), (15, 0), (0, a4), (0, r80), (0, r85)] [(0, r87)] w86
          refine pv_iload (n := 399) d_L_law_397 rfl rfl ?_
          refine pv_icmp_eq (n := 402) (tgt := 404) d_L_law_399 (by decide) rfl (fun c88 => ?_) (fun c88 => ?_)
          · replace h := h.1 c88
            refine pv_iload (n := 406) d_L_law_404 rfl rfl ?_
            refine pv_if_ne (n := 409) (tgt := 421) d_L_law_406 (by decide) rfl (fun c89 => ?_) (fun c89 => ?_)
            · replace h := h.1 c89
              refine pv_goto (tgt := 2321) d_L_law_421 (by decide) ?_
              refine pv_iinc (v := (a4 + 5)) (n := 2324) (L1 := [(3000, 0), (9, 0), (10, 0), (15, 0), (0, (a4 + 5)), (0, r80), (0, r85)]) d_L_law_2321 rfl rfl rfl (by decide) rfl ?_
              refine pv_goto (tgt := 23) d_L_law_2324 (by decide) ?_
              refine pv_unset (i := 5) (L1 := [(3000, 0), (9, 0), (10, 0), (15, 0), (0, (a4 + 5)), (1, 0), (0, r85)]) rfl ?_
              refine pv_unset (i := 6) (L1 := [(3000, 0), (9, 0), (10, 0), (15, 0), (0, (a4 + 5)), (1, 0), (1, 0)]) rfl ?_
              exact ih _ _ h
            · replace h := h.2 c89
              refine pv_aload_n (n := 410) d_L_law_409 rfl rfl rfl ?_
              refine pv_iconst (v := 0) (n := 411) d_L_law_410 (by decide) rfl ?_
              obtain ⟨g90, h⟩ := h
              refine pv_lald (n := 412) (f := 13) (by decide) rfl d_L_law_411 (by decide) g90 rfl ?_
              refine pv_iload (n := 414) d_L_law_412 rfl rfl ?_
              refine pv_i2l (n := 415) d_L_law_414 rfl ?_
              refine pv_lcmp (n := 416) d_L_law_415 rfl (fun r91 hr => ?_)
              replace h := h r91 hr
              refine pv_if_eq (n := 419) (tgt := 421) d_L_law_416 (by decide) rfl (fun c92 => ?_) (fun c92 => ?_)
              · replace h := h.1 c92
                refine pv_goto (tgt := 2321) d_L_law_421 (by decide) ?_
                refine pv_iinc (v := (a4 + 5)) (n := 2324) (L1 := [(3000, 0), (9, 0), (10, 0), (15, 0), (0, (a4 + 5)), (0, r80), (0, r85)]) d_L_law_2321 rfl rfl rfl (by decide) rfl ?_
                refine pv_goto (tgt := 23) d_L_law_2324 (by decide) ?_
                refine pv_unset (i := 5) (L1 := [(3000, 0), (9, 0), (10, 0), (15, 0), (0, (a4 + 5)), (1, 0), (0, r85)]) rfl ?_
                refine pv_unset (i := 6) (L1 := [(3000, 0), (9, 0), (10, 0), (15, 0), (0, (a4 + 5)), (1, 0), (1, 0)]) rfl ?_
                exact ih _ _ h
              · replace h := h.2 c92
                refine pv_iconst (v := 0) (n := 420) d_L_law_419 (by decide) rfl ?_
                exact pv_zret rfl rfl d_L_law_420 (by decide) h
          · replace h := h.2 c88
            refine pv_iconst (v := 0) (n := 403) d_L_law_402 (by decide) rfl ?_
            exact pv_zret rfl rfl d_L_law_403 (by decide) h
        · replace hce : v39 = 3 := hce
          replace h := h.2.2.2.1 hce
          refine pv_tableIn (tgt := 424) (off := 385) d_L_law_39 (by rw [hce]; decide) (by rw [hce]; decide) (by rw [hce]; rfl) (by decide) ?_
          refine pv_aload_n (n := 425) d_L_law_424 rfl rfl rfl ?_
          refine pv_aload_n (n := 426) d_L_law_425 rfl rfl rfl ?_
          refine pv_iload (n := 428) d_L_law_426 rfl rfl ?_
          refine pv_iconst (v := 1) (n := 429) d_L_law_428 (by decide) rfl ?_
          refine pv_iadd (n := 430) d_L_law_429 rfl ?_
          obtain ⟨g93, h⟩ := h
          refine pv_sld (n := 431) hsc d_L_law_430 g93 rfl ?_
          refine pv_aload_n (n := 432) d_L_law_431 rfl rfl rfl ?_
          refine pv_iload (n := 434) d_L_law_432 rfl rfl ?_
          refine pv_iconst (v := 2) (n := 435) d_L_law_434 (by decide) rfl ?_
          refine pv_iadd (n := 436) d_L_law_435 rfl ?_
          obtain ⟨g94, h⟩ := h
          refine pv_sld (n := 437) hsc d_L_law_436 g94 rfl ?_
          refine pv_aload_n (n := 438) d_L_law_437 rfl rfl rfl ?_
          refine pv_iload (n := 440) d_L_law_438 rfl rfl ?_
          refine pv_iconst (v := 3) (n := 441) d_L_law_440 (by decide) rfl ?_
          refine pv_iadd (n := 442) d_L_law_441 rfl ?_
          obtain ⟨g95, h⟩ := h
          refine pv_sld (n := 443) hsc d_L_law_442 g95 rfl ?_
          refine pv_aload_n (n := 444) d_L_law_443 rfl rfl rfl ?_
          refine pv_callSH (n := 447) [(9, 0), (0, (xs (pw_i (a4 + 1)))), (0, (xs (pw_i (a4 + 2)))), (0, (xs (pw_i (a4 + 3)))), (15, 0)] [] (con_L_use hl0 h) q_831 q_832 q_795 q_830 pyo_L_use (by decide) rfl rfl d_L_law_444 rfl (fun w96 r97 h _ => ?_) (fun _ _ h => h.elim)
          show pw_V l g cx_L_law Q X 447 [(3000, 0), (9, 0), (10, 0), (15, 0), (0, a4), (1, 0), (1, 0)] [(0, r97)] w96
          refine pv_istore (n := 449) (L' := [(3000, 0), (9, 0), (10, 0), (15, 0), (0, a4), (0, r97), (1, 0)]) d_L_law_447 (by decide) rfl rfl ?_
          refine pv_aload_n (n := 450) d_L_law_449 rfl rfl rfl ?_
          refine pv_aload_n (n := 451) d_L_law_450 rfl rfl rfl ?_
          refine pv_iload (n := 453) d_L_law_451 rfl rfl ?_
          refine pv_iconst (v := 1) (n := 454) d_L_law_453 (by decide) rfl ?_
          refine pv_iadd (n := 455) d_L_law_454 rfl ?_
          obtain ⟨g98, h⟩ := h
          refine pv_sld (n := 456) hsc d_L_law_455 g98 rfl ?_
          refine pv_aload_n (n := 457) d_L_law_456 rfl rfl rfl ?_
          refine pv_iload (n := 459) d_L_law_457 rfl rfl ?_
          refine pv_iconst (v := 2) (n := 460) d_L_law_459 (by decide) rfl ?_
          refine pv_iadd (n := 461) d_L_law_460 rfl ?_
          obtain ⟨g99, h⟩ := h
          refine pv_sld (n := 462) hsc d_L_law_461 g99 rfl ?_
          refine pv_aload_n (n := 463) d_L_law_462 rfl rfl rfl ?_
          refine pv_iload (n := 465) d_L_law_463 rfl rfl ?_
          refine pv_iconst (v := 3) (n := 466) d_L_law_465 (by decide) rfl ?_
          refine pv_iadd (n := 467) d_L_law_466 rfl ?_
          obtain ⟨g100, h⟩ := h
          refine pv_sld (n := 468) hsc d_L_law_467 g100 rfl ?_
          refine pv_callV (n := 471) (x := 0) [(0, (xs (pw_i (a4 + 1)))), (0, (xs (pw_i (a4 + 2)))), (0, (xs (pw_i (a4 + 3))))] [] (con_M_use hl0 h) pw_cf8 rfl q_827 q_828 q_829 q_458 q_826 pyo_M_use (by decide) rfl rfl (by decide) d_L_law_468 rfl (fun w101 r102 h _ => ?_) (fun _ _ h => h.elim)
          show pw_V l g cx_L_law Q X 471 [(3000, 0), (9, 0), (10, 0), (15, 0), (0, a4), (0, r97), (1, 0)] [(0, r102)] w101
          refine pv_istore (n := 473) (L' := [(3000, 0), (9, 0), (10, 0), (15, 0), (0, a4), (0, r97), (0, r102)]) d_L_law_471 (by decide) rfl rfl ?_
          refine pv_aload_n (n := 474) d_L_law_473 rfl rfl rfl ?_
          refine pv_callV (n := 477) (x := 0) [] [] (con_M_thrown hl0 h) pw_cf8 rfl q_787 q_788 q_789 q_458 q_786 pyo_M_thrown (by decide) rfl rfl (by decide) d_L_law_474 rfl (fun w103 r104 h _ => ?_) (fun _ _ h => h.elim)
          show pw_V l g cx_L_law Q X 477 [(3000, 0), (9, 0), (10, 0), (15, 0), (0, a4), (0, r97), (0, r102)] [(0, r104)] w103
          refine pv_iload (n := 479) d_L_law_477 rfl rfl ?_
          refine pv_icmp_eq (n := 482) (tgt := 484) d_L_law_479 (by decide) rfl (fun c105 => ?_) (fun c105 => ?_)
          · replace h := h.1 c105
            refine pv_iload (n := 486) d_L_law_484 rfl rfl ?_
            refine pv_if_ne (n := 489) (tgt := 501) d_L_law_486 (by decide) rfl (fun c106 => ?_) (fun c106 => ?_)
            · replace h := h.1 c106
              refine pv_goto (tgt := 2321) d_L_law_501 (by decide) ?_
              refine pv_iinc (v := (a4 + 5)) (n := 2324) (L1 := [(3000, 0), (9, 0), (10, 0), (15, 0), (0, (a4 + 5)), (0, r97), (0, r102)]) d_L_law_2321 rfl rfl rfl (by decide) rfl ?_
              refine pv_goto (tgt := 23) d_L_law_2324 (by decide) ?_
              refine pv_unset (i := 5) (L1 := [(3000, 0), (9, 0), (10, 0), (15, 0), (0, (a4 + 5)), (1, 0), (0, r102)]) rfl ?_
              refine pv_unset (i := 6) (L1 := [(3000, 0), (9, 0), (10, 0), (15, 0), (0, (a4 + 5)), (1, 0), (1, 0)]) rfl ?_
              exact ih _ _ h
            · replace h := h.2 c106
              refine pv_aload_n (n := 490) d_L_law_489 rfl rfl rfl ?_
              refine pv_iconst (v := 0) (n := 491) d_L_law_490 (by decide) rfl ?_
              obtain ⟨g107, h⟩ := h
              refine pv_lald (n := 492) (f := 13) (by decide) rfl d_L_law_491 (by decide) g107 rfl ?_
              refine pv_iload (n := 494) d_L_law_492 rfl rfl ?_
              refine pv_i2l (n := 495) d_L_law_494 rfl ?_
              refine pv_lcmp (n := 496) d_L_law_495 rfl (fun r108 hr => ?_)
              replace h := h r108 hr
              refine pv_if_eq (n := 499) (tgt := 501) d_L_law_496 (by decide) rfl (fun c109 => ?_) (fun c109 => ?_)
              · replace h := h.1 c109
                refine pv_goto (tgt := 2321) d_L_law_501 (by decide) ?_
                refine pv_iinc (v := (a4 + 5)) (n := 2324) (L1 := [(3000, 0), (9, 0), (10, 0), (15, 0), (0, (a4 + 5)), (0, r97), (0, r102)]) d_L_law_2321 rfl rfl rfl (by decide) rfl ?_
                refine pv_goto (tgt := 23) d_L_law_2324 (by decide) ?_
                refine pv_unset (i := 5) (L1 := [(3000, 0), (9, 0), (10, 0), (15, 0), (0, (a4 + 5)), (1, 0), (0, r102)]) rfl ?_
                refine pv_unset (i := 6) (L1 := [(3000, 0), (9, 0), (10, 0), (15, 0), (0, (a4 + 5)), (1, 0), (1, 0)]) rfl ?_
                exact ih _ _ h
              · replace h := h.2 c109
                refine pv_iconst (v := 0) (n := 500) d_L_law_499 (by decide) rfl ?_
                exact pv_zret rfl rfl d_L_law_500 (by decide) h
          · replace h := h.2 c105
            refine pv_iconst (v := 0) (n := 483) d_L_law_482 (by decide) rfl ?_
            exact pv_zret rfl rfl d_L_law_483 (by decide) h
        · replace hce : v39 = 4 := hce
          replace h := h.2.2.2.2.1 hce
          refine pv_tableIn (tgt := 504) (off := 465) d_L_law_39 (by rw [hce]; decide) (by rw [hce]; decide) (by rw [hce]; rfl) (by decide) ?_
          refine pv_aload_n (n := 505) d_L_law_504 rfl rfl rfl ?_
          refine pv_aload_n (n := 506) d_L_law_505 rfl rfl rfl ?_
          refine pv_iload (n := 508) d_L_law_506 rfl rfl ?_
          refine pv_iconst (v := 1) (n := 509) d_L_law_508 (by decide) rfl ?_
          refine pv_iadd (n := 510) d_L_law_509 rfl ?_
          obtain ⟨g110, h⟩ := h
          refine pv_sld (n := 511) hsc d_L_law_510 g110 rfl ?_
          refine pv_aload_n (n := 512) d_L_law_511 rfl rfl rfl ?_
          refine pv_iload (n := 514) d_L_law_512 rfl rfl ?_
          refine pv_iconst (v := 2) (n := 515) d_L_law_514 (by decide) rfl ?_
          refine pv_iadd (n := 516) d_L_law_515 rfl ?_
          obtain ⟨g111, h⟩ := h
          refine pv_sld (n := 517) hsc d_L_law_516 g111 rfl ?_
          refine pv_if_eq (n := 520) (tgt := 524) d_L_law_517 (by decide) rfl (fun c112 => ?_) (fun c112 => ?_)
          · replace h := h.1 c112
            refine pv_iconst (v := 0) (n := 525) d_L_law_524 (by decide) rfl ?_
            exact vjp_L_law_525 hl0 hsc (by intros; exact ih _ _ (by assumption)) _ _ _ _ h
          · replace h := h.2 c112
            refine pv_iconst (v := 1) (n := 521) d_L_law_520 (by decide) rfl ?_
            refine pv_goto (tgt := 525) d_L_law_521 (by decide) ?_
            exact vjp_L_law_525 hl0 hsc (by intros; exact ih _ _ (by assumption)) _ _ _ _ h
        · replace hce : v39 = 5 := hce
          replace h := h.2.2.2.2.2.1 hce
          refine pv_tableIn (tgt := 612) (off := 573) d_L_law_39 (by rw [hce]; decide) (by rw [hce]; decide) (by rw [hce]; rfl) (by decide) ?_
          refine pv_aload_n (n := 613) d_L_law_612 rfl rfl rfl ?_
          refine pv_aload_n (n := 614) d_L_law_613 rfl rfl rfl ?_
          refine pv_iload (n := 616) d_L_law_614 rfl rfl ?_
          refine pv_iconst (v := 1) (n := 617) d_L_law_616 (by decide) rfl ?_
          refine pv_iadd (n := 618) d_L_law_617 rfl ?_
          obtain ⟨g113, h⟩ := h
          refine pv_sld (n := 619) hsc d_L_law_618 g113 rfl ?_
          refine pv_aload_n (n := 620) d_L_law_619 rfl rfl rfl ?_
          refine pv_iload (n := 622) d_L_law_620 rfl rfl ?_
          refine pv_iconst (v := 2) (n := 623) d_L_law_622 (by decide) rfl ?_
          refine pv_iadd (n := 624) d_L_law_623 rfl ?_
          obtain ⟨g114, h⟩ := h
          refine pv_sld (n := 625) hsc d_L_law_624 g114 rfl ?_
          refine pv_if_eq (n := 628) (tgt := 632) d_L_law_625 (by decide) rfl (fun c115 => ?_) (fun c115 => ?_)
          · replace h := h.1 c115
            refine pv_iconst (v := 0) (n := 633) d_L_law_632 (by decide) rfl ?_
            exact vjp_L_law_633 hl0 hsc (by intros; exact ih _ _ (by assumption)) _ _ _ _ h
          · replace h := h.2 c115
            refine pv_iconst (v := 1) (n := 629) d_L_law_628 (by decide) rfl ?_
            refine pv_goto (tgt := 633) d_L_law_629 (by decide) ?_
            exact vjp_L_law_633 hl0 hsc (by intros; exact ih _ _ (by assumption)) _ _ _ _ h
        · replace hce : v39 = 6 := hce
          replace h := h.2.2.2.2.2.2.1 hce
          refine pv_tableIn (tgt := 708) (off := 669) d_L_law_39 (by rw [hce]; decide) (by rw [hce]; decide) (by rw [hce]; rfl) (by decide) ?_
          refine pv_aload_n (n := 709) d_L_law_708 rfl rfl rfl ?_
          refine pv_aload_n (n := 710) d_L_law_709 rfl rfl rfl ?_
          refine pv_iload (n := 712) d_L_law_710 rfl rfl ?_
          refine pv_iconst (v := 1) (n := 713) d_L_law_712 (by decide) rfl ?_
          refine pv_iadd (n := 714) d_L_law_713 rfl ?_
          obtain ⟨g116, h⟩ := h
          refine pv_sld (n := 715) hsc d_L_law_714 g116 rfl ?_
          refine pv_aload_n (n := 716) d_L_law_715 rfl rfl rfl ?_
          refine pv_callSH (n := 719) [(9, 0), (0, (xs (pw_i (a4 + 1)))), (15, 0)] [] (con_L_decide hl0 h) q_838 q_839 q_795 q_837 pyo_L_decide (by decide) rfl rfl d_L_law_716 rfl (fun w117 r118 h _ => ?_) (fun _ _ h => h.elim)
          show pw_V l g cx_L_law Q X 719 [(3000, 0), (9, 0), (10, 0), (15, 0), (0, a4), (1, 0), (1, 0)] [(0, r118)] w117
          refine pv_istore (n := 721) (L' := [(3000, 0), (9, 0), (10, 0), (15, 0), (0, a4), (0, r118), (1, 0)]) d_L_law_719 (by decide) rfl rfl ?_
          refine pv_aload_n (n := 722) d_L_law_721 rfl rfl rfl ?_
          refine pv_aload_n (n := 723) d_L_law_722 rfl rfl rfl ?_
          refine pv_iload (n := 725) d_L_law_723 rfl rfl ?_
          refine pv_iconst (v := 1) (n := 726) d_L_law_725 (by decide) rfl ?_
          refine pv_iadd (n := 727) d_L_law_726 rfl ?_
          obtain ⟨g119, h⟩ := h
          refine pv_sld (n := 728) hsc d_L_law_727 g119 rfl ?_
          refine pv_callV (n := 731) (x := 0) [(0, (xs (pw_i (a4 + 1))))] [] (con_M_decide hl0 h) pw_cf8 rfl q_834 q_835 q_836 q_458 q_833 pyo_M_decide (by decide) rfl rfl (by decide) d_L_law_728 rfl (fun w120 r121 h _ => ?_) (fun _ _ h => h.elim)
          show pw_V l g cx_L_law Q X 731 [(3000, 0), (9, 0), (10, 0), (15, 0), (0, a4), (0, r118), (1, 0)] [(0, r121)] w120
          refine pv_istore (n := 733) (L' := [(3000, 0), (9, 0), (10, 0), (15, 0), (0, a4), (0, r118), (0, r121)]) d_L_law_731 (by decide) rfl rfl ?_
          refine pv_aload_n (n := 734) d_L_law_733 rfl rfl rfl ?_
          refine pv_callV (n := 737) (x := 0) [] [] (con_M_thrown hl0 h) pw_cf8 rfl q_787 q_788 q_789 q_458 q_786 pyo_M_thrown (by decide) rfl rfl (by decide) d_L_law_734 rfl (fun w122 r123 h _ => ?_) (fun _ _ h => h.elim)
          show pw_V l g cx_L_law Q X 737 [(3000, 0), (9, 0), (10, 0), (15, 0), (0, a4), (0, r118), (0, r121)] [(0, r123)] w122
          refine pv_iload (n := 739) d_L_law_737 rfl rfl ?_
          refine pv_icmp_eq (n := 742) (tgt := 744) d_L_law_739 (by decide) rfl (fun c124 => ?_) (fun c124 => ?_)
          · replace h := h.1 c124
            refine pv_iload (n := 746) d_L_law_744 rfl rfl ?_
            refine pv_if_ne (n := 749) (tgt := 761) d_L_law_746 (by decide) rfl (fun c125 => ?_) (fun c125 => ?_)
            · replace h := h.1 c125
              refine pv_goto (tgt := 2321) d_L_law_761 (by decide) ?_
              refine pv_iinc (v := (a4 + 5)) (n := 2324) (L1 := [(3000, 0), (9, 0), (10, 0), (15, 0), (0, (a4 + 5)), (0, r118), (0, r121)]) d_L_law_2321 rfl rfl rfl (by decide) rfl ?_
              refine pv_goto (tgt := 23) d_L_law_2324 (by decide) ?_
              refine pv_unset (i := 5) (L1 := [(3000, 0), (9, 0), (10, 0), (15, 0), (0, (a4 + 5)), (1, 0), (0, r121)]) rfl ?_
              refine pv_unset (i := 6) (L1 := [(3000, 0), (9, 0), (10, 0), (15, 0), (0, (a4 + 5)), (1, 0), (1, 0)]) rfl ?_
              exact ih _ _ h
            · replace h := h.2 c125
              refine pv_aload_n (n := 750) d_L_law_749 rfl rfl rfl ?_
              refine pv_iconst (v := 0) (n := 751) d_L_law_750 (by decide) rfl ?_
              obtain ⟨g126, h⟩ := h
              refine pv_lald (n := 752) (f := 13) (by decide) rfl d_L_law_751 (by decide) g126 rfl ?_
              refine pv_iload (n := 754) d_L_law_752 rfl rfl ?_
              refine pv_i2l (n := 755) d_L_law_754 rfl ?_
              refine pv_lcmp (n := 756) d_L_law_755 rfl (fun r127 hr => ?_)
              replace h := h r127 hr
              refine pv_if_eq (n := 759) (tgt := 761) d_L_law_756 (by decide) rfl (fun c128 => ?_) (fun c128 => ?_)
              · replace h := h.1 c128
                refine pv_goto (tgt := 2321) d_L_law_761 (by decide) ?_
                refine pv_iinc (v := (a4 + 5)) (n := 2324) (L1 := [(3000, 0), (9, 0), (10, 0), (15, 0), (0, (a4 + 5)), (0, r118), (0, r121)]) d_L_law_2321 rfl rfl rfl (by decide) rfl ?_
                refine pv_goto (tgt := 23) d_L_law_2324 (by decide) ?_
                refine pv_unset (i := 5) (L1 := [(3000, 0), (9, 0), (10, 0), (15, 0), (0, (a4 + 5)), (1, 0), (0, r121)]) rfl ?_
                refine pv_unset (i := 6) (L1 := [(3000, 0), (9, 0), (10, 0), (15, 0), (0, (a4 + 5)), (1, 0), (1, 0)]) rfl ?_
                exact ih _ _ h
              · replace h := h.2 c128
                refine pv_iconst (v := 0) (n := 760) d_L_law_759 (by decide) rfl ?_
                exact pv_zret rfl rfl d_L_law_760 (by decide) h
          · replace h := h.2 c124
            refine pv_iconst (v := 0) (n := 743) d_L_law_742 (by decide) rfl ?_
            exact pv_zret rfl rfl d_L_law_743 (by decide) h
        · replace hce : v39 = 7 := hce
          replace h := h.2.2.2.2.2.2.2.1 hce
          refine pv_tableIn (tgt := 764) (off := 725) d_L_law_39 (by rw [hce]; decide) (by rw [hce]; decide) (by rw [hce]; rfl) (by decide) ?_
          refine pv_aload_n (n := 765) d_L_law_764 rfl rfl rfl ?_
          refine pv_aload_n (n := 766) d_L_law_765 rfl rfl rfl ?_
          refine pv_iload (n := 768) d_L_law_766 rfl rfl ?_
          refine pv_iconst (v := 1) (n := 769) d_L_law_768 (by decide) rfl ?_
          refine pv_iadd (n := 770) d_L_law_769 rfl ?_
          obtain ⟨g129, h⟩ := h
          refine pv_sld (n := 771) hsc d_L_law_770 g129 rfl ?_
          refine pv_aload_n (n := 772) d_L_law_771 rfl rfl rfl ?_
          refine pv_callSH (n := 775) [(9, 0), (0, (xs (pw_i (a4 + 1)))), (15, 0)] [] (con_L_appeal hl0 h) q_845 q_846 q_795 q_844 pyo_L_appeal (by decide) rfl rfl d_L_law_772 rfl (fun w130 r131 h _ => ?_) (fun _ _ h => h.elim)
          show pw_V l g cx_L_law Q X 775 [(3000, 0), (9, 0), (10, 0), (15, 0), (0, a4), (1, 0), (1, 0)] [(0, r131)] w130
          refine pv_istore (n := 777) (L' := [(3000, 0), (9, 0), (10, 0), (15, 0), (0, a4), (0, r131), (1, 0)]) d_L_law_775 (by decide) rfl rfl ?_
          refine pv_aload_n (n := 778) d_L_law_777 rfl rfl rfl ?_
          refine pv_aload_n (n := 779) d_L_law_778 rfl rfl rfl ?_
          refine pv_iload (n := 781) d_L_law_779 rfl rfl ?_
          refine pv_iconst (v := 1) (n := 782) d_L_law_781 (by decide) rfl ?_
          refine pv_iadd (n := 783) d_L_law_782 rfl ?_
          obtain ⟨g132, h⟩ := h
          refine pv_sld (n := 784) hsc d_L_law_783 g132 rfl ?_
          refine pv_callV (n := 787) (x := 0) [(0, (xs (pw_i (a4 + 1))))] [] (con_M_appeal hl0 h) pw_cf8 rfl q_841 q_842 q_843 q_458 q_840 pyo_M_appeal (by decide) rfl rfl (by decide) d_L_law_784 rfl (fun w133 r134 h _ => ?_) (fun _ _ h => h.elim)
          show pw_V l g cx_L_law Q X 787 [(3000, 0), (9, 0), (10, 0), (15, 0), (0, a4), (0, r131), (1, 0)] [(0, r134)] w133
          refine pv_istore (n := 789) (L' := [(3000, 0), (9, 0), (10, 0), (15, 0), (0, a4), (0, r131), (0, r134)]) d_L_law_787 (by decide) rfl rfl ?_
          refine pv_aload_n (n := 790) d_L_law_789 rfl rfl rfl ?_
          refine pv_callV (n := 793) (x := 0) [] [] (con_M_thrown hl0 h) pw_cf8 rfl q_787 q_788 q_789 q_458 q_786 pyo_M_thrown (by decide) rfl rfl (by decide) d_L_law_790 rfl (fun w135 r136 h _ => ?_) (fun _ _ h => h.elim)
          show pw_V l g cx_L_law Q X 793 [(3000, 0), (9, 0), (10, 0), (15, 0), (0, a4), (0, r131), (0, r134)] [(0, r136)] w135
          refine pv_iload (n := 795) d_L_law_793 rfl rfl ?_
          refine pv_icmp_eq (n := 798) (tgt := 800) d_L_law_795 (by decide) rfl (fun c137 => ?_) (fun c137 => ?_)
          · replace h := h.1 c137
            refine pv_iload (n := 802) d_L_law_800 rfl rfl ?_
            refine pv_if_ne (n := 805) (tgt := 817) d_L_law_802 (by decide) rfl (fun c138 => ?_) (fun c138 => ?_)
            · replace h := h.1 c138
              refine pv_goto (tgt := 2321) d_L_law_817 (by decide) ?_
              refine pv_iinc (v := (a4 + 5)) (n := 2324) (L1 := [(3000, 0), (9, 0), (10, 0), (15, 0), (0, (a4 + 5)), (0, r131), (0, r134)]) d_L_law_2321 rfl rfl rfl (by decide) rfl ?_
              refine pv_goto (tgt := 23) d_L_law_2324 (by decide) ?_
              refine pv_unset (i := 5) (L1 := [(3000, 0), (9, 0), (10, 0), (15, 0), (0, (a4 + 5)), (1, 0), (0, r134)]) rfl ?_
              refine pv_unset (i := 6) (L1 := [(3000, 0), (9, 0), (10, 0), (15, 0), (0, (a4 + 5)), (1, 0), (1, 0)]) rfl ?_
              exact ih _ _ h
            · replace h := h.2 c138
              refine pv_aload_n (n := 806) d_L_law_805 rfl rfl rfl ?_
              refine pv_iconst (v := 0) (n := 807) d_L_law_806 (by decide) rfl ?_
              obtain ⟨g139, h⟩ := h
              refine pv_lald (n := 808) (f := 13) (by decide) rfl d_L_law_807 (by decide) g139 rfl ?_
              refine pv_iload (n := 810) d_L_law_808 rfl rfl ?_
              refine pv_i2l (n := 811) d_L_law_810 rfl ?_
              refine pv_lcmp (n := 812) d_L_law_811 rfl (fun r140 hr => ?_)
              replace h := h r140 hr
              refine pv_if_eq (n := 815) (tgt := 817) d_L_law_812 (by decide) rfl (fun c141 => ?_) (fun c141 => ?_)
              · replace h := h.1 c141
                refine pv_goto (tgt := 2321) d_L_law_817 (by decide) ?_
                refine pv_iinc (v := (a4 + 5)) (n := 2324) (L1 := [(3000, 0), (9, 0), (10, 0), (15, 0), (0, (a4 + 5)), (0, r131), (0, r134)]) d_L_law_2321 rfl rfl rfl (by decide) rfl ?_
                refine pv_goto (tgt := 23) d_L_law_2324 (by decide) ?_
                refine pv_unset (i := 5) (L1 := [(3000, 0), (9, 0), (10, 0), (15, 0), (0, (a4 + 5)), (1, 0), (0, r134)]) rfl ?_
                refine pv_unset (i := 6) (L1 := [(3000, 0), (9, 0), (10, 0), (15, 0), (0, (a4 + 5)), (1, 0), (1, 0)]) rfl ?_
                exact ih _ _ h
              · replace h := h.2 c141
                refine pv_iconst (v := 0) (n := 816) d_L_law_815 (by decide) rfl ?_
                exact pv_zret rfl rfl d_L_law_816 (by decide) h
          · replace h := h.2 c137
            refine pv_iconst (v := 0) (n := 799) d_L_law_798 (by decide) rfl ?_
            exact pv_zret rfl rfl d_L_law_799 (by decide) h
        · replace hce : v39 = 8 := hce
          replace h := h.2.2.2.2.2.2.2.2.1 hce
          refine pv_tableIn (tgt := 820) (off := 781) d_L_law_39 (by rw [hce]; decide) (by rw [hce]; decide) (by rw [hce]; rfl) (by decide) ?_
          refine pv_aload_n (n := 821) d_L_law_820 rfl rfl rfl ?_
          refine pv_aload_n (n := 822) d_L_law_821 rfl rfl rfl ?_
          refine pv_iload (n := 824) d_L_law_822 rfl rfl ?_
          refine pv_iconst (v := 1) (n := 825) d_L_law_824 (by decide) rfl ?_
          refine pv_iadd (n := 826) d_L_law_825 rfl ?_
          obtain ⟨g142, h⟩ := h
          refine pv_sld (n := 827) hsc d_L_law_826 g142 rfl ?_
          refine pv_aload_n (n := 828) d_L_law_827 rfl rfl rfl ?_
          refine pv_iload (n := 830) d_L_law_828 rfl rfl ?_
          refine pv_iconst (v := 2) (n := 831) d_L_law_830 (by decide) rfl ?_
          refine pv_iadd (n := 832) d_L_law_831 rfl ?_
          obtain ⟨g143, h⟩ := h
          refine pv_sld (n := 833) hsc d_L_law_832 g143 rfl ?_
          refine pv_aload_n (n := 834) d_L_law_833 rfl rfl rfl ?_
          refine pv_iload (n := 836) d_L_law_834 rfl rfl ?_
          refine pv_iconst (v := 3) (n := 837) d_L_law_836 (by decide) rfl ?_
          refine pv_iadd (n := 838) d_L_law_837 rfl ?_
          obtain ⟨g144, h⟩ := h
          refine pv_sld (n := 839) hsc d_L_law_838 g144 rfl ?_
          refine pv_aload_n (n := 840) d_L_law_839 rfl rfl rfl ?_
          refine pv_iload (n := 842) d_L_law_840 rfl rfl ?_
          refine pv_iconst (v := 4) (n := 843) d_L_law_842 (by decide) rfl ?_
          refine pv_iadd (n := 844) d_L_law_843 rfl ?_
          obtain ⟨g145, h⟩ := h
          refine pv_sld (n := 845) hsc d_L_law_844 g145 rfl ?_
          refine pv_aload_n (n := 846) d_L_law_845 rfl rfl rfl ?_
          refine pv_callSH (n := 849) [(9, 0), (0, (xs (pw_i (a4 + 1)))), (0, (xs (pw_i (a4 + 2)))), (0, (xs (pw_i (a4 + 3)))), (0, (xs (pw_i (a4 + 4)))), (15, 0)] [] (con_L_register hl0 h) q_852 q_853 q_795 q_851 pyo_L_register (by decide) rfl rfl d_L_law_846 rfl (fun w146 r147 h _ => ?_) (fun _ _ h => h.elim)
          show pw_V l g cx_L_law Q X 849 [(3000, 0), (9, 0), (10, 0), (15, 0), (0, a4), (1, 0), (1, 0)] [(0, r147)] w146
          refine pv_istore (n := 851) (L' := [(3000, 0), (9, 0), (10, 0), (15, 0), (0, a4), (0, r147), (1, 0)]) d_L_law_849 (by decide) rfl rfl ?_
          refine pv_aload_n (n := 852) d_L_law_851 rfl rfl rfl ?_
          refine pv_aload_n (n := 853) d_L_law_852 rfl rfl rfl ?_
          refine pv_iload (n := 855) d_L_law_853 rfl rfl ?_
          refine pv_iconst (v := 1) (n := 856) d_L_law_855 (by decide) rfl ?_
          refine pv_iadd (n := 857) d_L_law_856 rfl ?_
          obtain ⟨g148, h⟩ := h
          refine pv_sld (n := 858) hsc d_L_law_857 g148 rfl ?_
          refine pv_aload_n (n := 859) d_L_law_858 rfl rfl rfl ?_
          refine pv_iload (n := 861) d_L_law_859 rfl rfl ?_
          refine pv_iconst (v := 2) (n := 862) d_L_law_861 (by decide) rfl ?_
          refine pv_iadd (n := 863) d_L_law_862 rfl ?_
          obtain ⟨g149, h⟩ := h
          refine pv_sld (n := 864) hsc d_L_law_863 g149 rfl ?_
          refine pv_aload_n (n := 865) d_L_law_864 rfl rfl rfl ?_
          refine pv_iload (n := 867) d_L_law_865 rfl rfl ?_
          refine pv_iconst (v := 3) (n := 868) d_L_law_867 (by decide) rfl ?_
          refine pv_iadd (n := 869) d_L_law_868 rfl ?_
          obtain ⟨g150, h⟩ := h
          refine pv_sld (n := 870) hsc d_L_law_869 g150 rfl ?_
          refine pv_aload_n (n := 871) d_L_law_870 rfl rfl rfl ?_
          refine pv_iload (n := 873) d_L_law_871 rfl rfl ?_
          refine pv_iconst (v := 4) (n := 874) d_L_law_873 (by decide) rfl ?_
          refine pv_iadd (n := 875) d_L_law_874 rfl ?_
          obtain ⟨g151, h⟩ := h
          refine pv_sld (n := 876) hsc d_L_law_875 g151 rfl ?_
          refine pv_callV (n := 879) (x := 0) [(0, (xs (pw_i (a4 + 1)))), (0, (xs (pw_i (a4 + 2)))), (0, (xs (pw_i (a4 + 3)))), (0, (xs (pw_i (a4 + 4))))] [] (con_M_register hl0 h) pw_cf8 rfl q_848 q_849 q_850 q_458 q_847 pyo_M_register (by decide) rfl rfl (by decide) d_L_law_876 rfl (fun w152 r153 h _ => ?_) (fun _ _ h => h.elim)
          show pw_V l g cx_L_law Q X 879 [(3000, 0), (9, 0), (10, 0), (15, 0), (0, a4), (0, r147), (1, 0)] [(0, r153)] w152
          refine pv_istore (n := 881) (L' := [(3000, 0), (9, 0), (10, 0), (15, 0), (0, a4), (0, r147), (0, r153)]) d_L_law_879 (by decide) rfl rfl ?_
          refine pv_aload_n (n := 882) d_L_law_881 rfl rfl rfl ?_
          refine pv_callV (n := 885) (x := 0) [] [] (con_M_thrown hl0 h) pw_cf8 rfl q_787 q_788 q_789 q_458 q_786 pyo_M_thrown (by decide) rfl rfl (by decide) d_L_law_882 rfl (fun w154 r155 h _ => ?_) (fun _ _ h => h.elim)
          show pw_V l g cx_L_law Q X 885 [(3000, 0), (9, 0), (10, 0), (15, 0), (0, a4), (0, r147), (0, r153)] [(0, r155)] w154
          refine pv_iload (n := 887) d_L_law_885 rfl rfl ?_
          refine pv_icmp_eq (n := 890) (tgt := 892) d_L_law_887 (by decide) rfl (fun c156 => ?_) (fun c156 => ?_)
          · replace h := h.1 c156
            refine pv_iload (n := 894) d_L_law_892 rfl rfl ?_
            refine pv_if_ne (n := 897) (tgt := 909) d_L_law_894 (by decide) rfl (fun c157 => ?_) (fun c157 => ?_)
            · replace h := h.1 c157
              refine pv_goto (tgt := 2321) d_L_law_909 (by decide) ?_
              refine pv_iinc (v := (a4 + 5)) (n := 2324) (L1 := [(3000, 0), (9, 0), (10, 0), (15, 0), (0, (a4 + 5)), (0, r147), (0, r153)]) d_L_law_2321 rfl rfl rfl (by decide) rfl ?_
              refine pv_goto (tgt := 23) d_L_law_2324 (by decide) ?_
              refine pv_unset (i := 5) (L1 := [(3000, 0), (9, 0), (10, 0), (15, 0), (0, (a4 + 5)), (1, 0), (0, r153)]) rfl ?_
              refine pv_unset (i := 6) (L1 := [(3000, 0), (9, 0), (10, 0), (15, 0), (0, (a4 + 5)), (1, 0), (1, 0)]) rfl ?_
              exact ih _ _ h
            · replace h := h.2 c157
              refine pv_aload_n (n := 898) d_L_law_897 rfl rfl rfl ?_
              refine pv_iconst (v := 0) (n := 899) d_L_law_898 (by decide) rfl ?_
              obtain ⟨g158, h⟩ := h
              refine pv_lald (n := 900) (f := 13) (by decide) rfl d_L_law_899 (by decide) g158 rfl ?_
              refine pv_iload (n := 902) d_L_law_900 rfl rfl ?_
              refine pv_i2l (n := 903) d_L_law_902 rfl ?_
              refine pv_lcmp (n := 904) d_L_law_903 rfl (fun r159 hr => ?_)
              replace h := h r159 hr
              refine pv_if_eq (n := 907) (tgt := 909) d_L_law_904 (by decide) rfl (fun c160 => ?_) (fun c160 => ?_)
              · replace h := h.1 c160
                refine pv_goto (tgt := 2321) d_L_law_909 (by decide) ?_
                refine pv_iinc (v := (a4 + 5)) (n := 2324) (L1 := [(3000, 0), (9, 0), (10, 0), (15, 0), (0, (a4 + 5)), (0, r147), (0, r153)]) d_L_law_2321 rfl rfl rfl (by decide) rfl ?_
                refine pv_goto (tgt := 23) d_L_law_2324 (by decide) ?_
                refine pv_unset (i := 5) (L1 := [(3000, 0), (9, 0), (10, 0), (15, 0), (0, (a4 + 5)), (1, 0), (0, r153)]) rfl ?_
                refine pv_unset (i := 6) (L1 := [(3000, 0), (9, 0), (10, 0), (15, 0), (0, (a4 + 5)), (1, 0), (1, 0)]) rfl ?_
                exact ih _ _ h
              · replace h := h.2 c160
                refine pv_iconst (v := 0) (n := 908) d_L_law_907 (by decide) rfl ?_
                exact pv_zret rfl rfl d_L_law_908 (by decide) h
          · replace h := h.2 c156
            refine pv_iconst (v := 0) (n := 891) d_L_law_890 (by decide) rfl ?_
            exact pv_zret rfl rfl d_L_law_891 (by decide) h
        · replace hce : v39 = 9 := hce
          replace h := h.2.2.2.2.2.2.2.2.2.1 hce
          refine pv_tableIn (tgt := 912) (off := 873) d_L_law_39 (by rw [hce]; decide) (by rw [hce]; decide) (by rw [hce]; rfl) (by decide) ?_
          refine pv_aload_n (n := 913) d_L_law_912 rfl rfl rfl ?_
          refine pv_aload_n (n := 914) d_L_law_913 rfl rfl rfl ?_
          refine pv_iload (n := 916) d_L_law_914 rfl rfl ?_
          refine pv_iconst (v := 1) (n := 917) d_L_law_916 (by decide) rfl ?_
          refine pv_iadd (n := 918) d_L_law_917 rfl ?_
          obtain ⟨g161, h⟩ := h
          refine pv_sld (n := 919) hsc d_L_law_918 g161 rfl ?_
          refine pv_aload_n (n := 920) d_L_law_919 rfl rfl rfl ?_
          refine pv_callSH (n := 923) [(9, 0), (0, (xs (pw_i (a4 + 1)))), (15, 0)] [] (con_L_release hl0 h) q_859 q_860 q_795 q_858 pyo_L_release (by decide) rfl rfl d_L_law_920 rfl (fun w162 r163 h _ => ?_) (fun _ _ h => h.elim)
          show pw_V l g cx_L_law Q X 923 [(3000, 0), (9, 0), (10, 0), (15, 0), (0, a4), (1, 0), (1, 0)] [(0, r163)] w162
          refine pv_istore (n := 925) (L' := [(3000, 0), (9, 0), (10, 0), (15, 0), (0, a4), (0, r163), (1, 0)]) d_L_law_923 (by decide) rfl rfl ?_
          refine pv_aload_n (n := 926) d_L_law_925 rfl rfl rfl ?_
          refine pv_aload_n (n := 927) d_L_law_926 rfl rfl rfl ?_
          refine pv_iload (n := 929) d_L_law_927 rfl rfl ?_
          refine pv_iconst (v := 1) (n := 930) d_L_law_929 (by decide) rfl ?_
          refine pv_iadd (n := 931) d_L_law_930 rfl ?_
          obtain ⟨g164, h⟩ := h
          refine pv_sld (n := 932) hsc d_L_law_931 g164 rfl ?_
          refine pv_callV (n := 935) (x := 0) [(0, (xs (pw_i (a4 + 1))))] [] (con_M_release hl0 h) pw_cf8 rfl q_855 q_856 q_857 q_458 q_854 pyo_M_release (by decide) rfl rfl (by decide) d_L_law_932 rfl (fun w165 r166 h _ => ?_) (fun _ _ h => h.elim)
          show pw_V l g cx_L_law Q X 935 [(3000, 0), (9, 0), (10, 0), (15, 0), (0, a4), (0, r163), (1, 0)] [(0, r166)] w165
          refine pv_istore (n := 937) (L' := [(3000, 0), (9, 0), (10, 0), (15, 0), (0, a4), (0, r163), (0, r166)]) d_L_law_935 (by decide) rfl rfl ?_
          refine pv_aload_n (n := 938) d_L_law_937 rfl rfl rfl ?_
          refine pv_callV (n := 941) (x := 0) [] [] (con_M_thrown hl0 h) pw_cf8 rfl q_787 q_788 q_789 q_458 q_786 pyo_M_thrown (by decide) rfl rfl (by decide) d_L_law_938 rfl (fun w167 r168 h _ => ?_) (fun _ _ h => h.elim)
          show pw_V l g cx_L_law Q X 941 [(3000, 0), (9, 0), (10, 0), (15, 0), (0, a4), (0, r163), (0, r166)] [(0, r168)] w167
          refine pv_iload (n := 943) d_L_law_941 rfl rfl ?_
          refine pv_icmp_eq (n := 946) (tgt := 948) d_L_law_943 (by decide) rfl (fun c169 => ?_) (fun c169 => ?_)
          · replace h := h.1 c169
            refine pv_iload (n := 950) d_L_law_948 rfl rfl ?_
            refine pv_if_ne (n := 953) (tgt := 972) d_L_law_950 (by decide) rfl (fun c170 => ?_) (fun c170 => ?_)
            · replace h := h.1 c170
              refine pv_goto (tgt := 2321) d_L_law_972 (by decide) ?_
              refine pv_iinc (v := (a4 + 5)) (n := 2324) (L1 := [(3000, 0), (9, 0), (10, 0), (15, 0), (0, (a4 + 5)), (0, r163), (0, r166)]) d_L_law_2321 rfl rfl rfl (by decide) rfl ?_
              refine pv_goto (tgt := 23) d_L_law_2324 (by decide) ?_
              refine pv_unset (i := 5) (L1 := [(3000, 0), (9, 0), (10, 0), (15, 0), (0, (a4 + 5)), (1, 0), (0, r166)]) rfl ?_
              refine pv_unset (i := 6) (L1 := [(3000, 0), (9, 0), (10, 0), (15, 0), (0, (a4 + 5)), (1, 0), (1, 0)]) rfl ?_
              exact ih _ _ h
            · replace h := h.2 c170
              refine pv_aload_n (n := 954) d_L_law_953 rfl rfl rfl ?_
              refine pv_iconst (v := 0) (n := 955) d_L_law_954 (by decide) rfl ?_
              obtain ⟨g171, h⟩ := h
              refine pv_lald (n := 956) (f := 13) (by decide) rfl d_L_law_955 (by decide) g171 rfl ?_
              refine pv_iload (n := 958) d_L_law_956 rfl rfl ?_
              refine pv_if_eq (n := 961) (tgt := 965) d_L_law_958 (by decide) rfl (fun c172 => ?_) (fun c172 => ?_)
              · replace h := h.1 c172
                refine pv_lconst (x := 0) (n := 966) d_L_law_965 (by decide) rfl ?_
                refine pv_unset (i := 5) (L1 := [(3000, 0), (9, 0), (10, 0), (15, 0), (0, a4), (1, 0), (0, r166)]) rfl ?_
                refine pv_unset (i := 6) (L1 := [(3000, 0), (9, 0), (10, 0), (15, 0), (0, a4), (1, 0), (1, 0)]) rfl ?_
                exact vjp_L_law_966 hl0 hsc (by intros; exact ih _ _ (by assumption)) _ _ _ _ h
              · replace h := h.2 c172
                refine pv_lconst (x := 1) (n := 962) d_L_law_961 (by decide) rfl ?_
                refine pv_goto (tgt := 966) d_L_law_962 (by decide) ?_
                refine pv_unset (i := 5) (L1 := [(3000, 0), (9, 0), (10, 0), (15, 0), (0, a4), (1, 0), (0, r166)]) rfl ?_
                refine pv_unset (i := 6) (L1 := [(3000, 0), (9, 0), (10, 0), (15, 0), (0, a4), (1, 0), (1, 0)]) rfl ?_
                exact vjp_L_law_966 hl0 hsc (by intros; exact ih _ _ (by assumption)) _ _ _ _ h
          · replace h := h.2 c169
            refine pv_iconst (v := 0) (n := 947) d_L_law_946 (by decide) rfl ?_
            exact pv_zret rfl rfl d_L_law_947 (by decide) h
        · replace hce : v39 = 10 := hce
          replace h := h.2.2.2.2.2.2.2.2.2.2.1 hce
          refine pv_tableIn (tgt := 975) (off := 936) d_L_law_39 (by rw [hce]; decide) (by rw [hce]; decide) (by rw [hce]; rfl) (by decide) ?_
          refine pv_aload_n (n := 976) d_L_law_975 rfl rfl rfl ?_
          refine pv_aload_n (n := 977) d_L_law_976 rfl rfl rfl ?_
          refine pv_iload (n := 979) d_L_law_977 rfl rfl ?_
          refine pv_iconst (v := 1) (n := 980) d_L_law_979 (by decide) rfl ?_
          refine pv_iadd (n := 981) d_L_law_980 rfl ?_
          obtain ⟨g173, h⟩ := h
          refine pv_sld (n := 982) hsc d_L_law_981 g173 rfl ?_
          refine pv_aload_n (n := 983) d_L_law_982 rfl rfl rfl ?_
          refine pv_iload (n := 985) d_L_law_983 rfl rfl ?_
          refine pv_iconst (v := 2) (n := 986) d_L_law_985 (by decide) rfl ?_
          refine pv_iadd (n := 987) d_L_law_986 rfl ?_
          obtain ⟨g174, h⟩ := h
          refine pv_sld (n := 988) hsc d_L_law_987 g174 rfl ?_
          refine pv_aload_n (n := 989) d_L_law_988 rfl rfl rfl ?_
          refine pv_iload (n := 991) d_L_law_989 rfl rfl ?_
          refine pv_iconst (v := 3) (n := 992) d_L_law_991 (by decide) rfl ?_
          refine pv_iadd (n := 993) d_L_law_992 rfl ?_
          obtain ⟨g175, h⟩ := h
          refine pv_sld (n := 994) hsc d_L_law_993 g175 rfl ?_
          refine pv_aload_n (n := 995) d_L_law_994 rfl rfl rfl ?_
          refine pv_callSH (n := 998) [(9, 0), (0, (xs (pw_i (a4 + 1)))), (0, (xs (pw_i (a4 + 2)))), (0, (xs (pw_i (a4 + 3)))), (15, 0)] [] (con_L_graze hl0 h) q_866 q_867 q_795 q_865 pyo_L_graze (by decide) rfl rfl d_L_law_995 rfl (fun w176 r177 h _ => ?_) (fun _ _ h => h.elim)
          show pw_V l g cx_L_law Q X 998 [(3000, 0), (9, 0), (10, 0), (15, 0), (0, a4), (1, 0), (1, 0)] [(0, r177)] w176
          refine pv_istore (n := 1000) (L' := [(3000, 0), (9, 0), (10, 0), (15, 0), (0, a4), (0, r177), (1, 0)]) d_L_law_998 (by decide) rfl rfl ?_
          refine pv_aload_n (n := 1001) d_L_law_1000 rfl rfl rfl ?_
          refine pv_aload_n (n := 1002) d_L_law_1001 rfl rfl rfl ?_
          refine pv_iload (n := 1004) d_L_law_1002 rfl rfl ?_
          refine pv_iconst (v := 1) (n := 1005) d_L_law_1004 (by decide) rfl ?_
          refine pv_iadd (n := 1006) d_L_law_1005 rfl ?_
          obtain ⟨g178, h⟩ := h
          refine pv_sld (n := 1007) hsc d_L_law_1006 g178 rfl ?_
          refine pv_aload_n (n := 1008) d_L_law_1007 rfl rfl rfl ?_
          refine pv_iload (n := 1010) d_L_law_1008 rfl rfl ?_
          refine pv_iconst (v := 2) (n := 1011) d_L_law_1010 (by decide) rfl ?_
          refine pv_iadd (n := 1012) d_L_law_1011 rfl ?_
          obtain ⟨g179, h⟩ := h
          refine pv_sld (n := 1013) hsc d_L_law_1012 g179 rfl ?_
          refine pv_aload_n (n := 1014) d_L_law_1013 rfl rfl rfl ?_
          refine pv_iload (n := 1016) d_L_law_1014 rfl rfl ?_
          refine pv_iconst (v := 3) (n := 1017) d_L_law_1016 (by decide) rfl ?_
          refine pv_iadd (n := 1018) d_L_law_1017 rfl ?_
          obtain ⟨g180, h⟩ := h
          refine pv_sld (n := 1019) hsc d_L_law_1018 g180 rfl ?_
          refine pv_callV (n := 1022) (x := 0) [(0, (xs (pw_i (a4 + 1)))), (0, (xs (pw_i (a4 + 2)))), (0, (xs (pw_i (a4 + 3))))] [] (con_M_graze hl0 h) pw_cf8 rfl q_862 q_863 q_864 q_458 q_861 pyo_M_graze (by decide) rfl rfl (by decide) d_L_law_1019 rfl (fun w181 r182 h _ => ?_) (fun _ _ h => h.elim)
          show pw_V l g cx_L_law Q X 1022 [(3000, 0), (9, 0), (10, 0), (15, 0), (0, a4), (0, r177), (1, 0)] [(0, r182)] w181
          refine pv_istore (n := 1024) (L' := [(3000, 0), (9, 0), (10, 0), (15, 0), (0, a4), (0, r177), (0, r182)]) d_L_law_1022 (by decide) rfl rfl ?_
          refine pv_aload_n (n := 1025) d_L_law_1024 rfl rfl rfl ?_
          refine pv_callV (n := 1028) (x := 0) [] [] (con_M_thrown hl0 h) pw_cf8 rfl q_787 q_788 q_789 q_458 q_786 pyo_M_thrown (by decide) rfl rfl (by decide) d_L_law_1025 rfl (fun w183 r184 h _ => ?_) (fun _ _ h => h.elim)
          show pw_V l g cx_L_law Q X 1028 [(3000, 0), (9, 0), (10, 0), (15, 0), (0, a4), (0, r177), (0, r182)] [(0, r184)] w183
          refine pv_iload (n := 1030) d_L_law_1028 rfl rfl ?_
          refine pv_icmp_eq (n := 1033) (tgt := 1035) d_L_law_1030 (by decide) rfl (fun c185 => ?_) (fun c185 => ?_)
          · replace h := h.1 c185
            refine pv_iload (n := 1037) d_L_law_1035 rfl rfl ?_
            refine pv_if_ne (n := 1040) (tgt := 1052) d_L_law_1037 (by decide) rfl (fun c186 => ?_) (fun c186 => ?_)
            · replace h := h.1 c186
              refine pv_goto (tgt := 2321) d_L_law_1052 (by decide) ?_
              refine pv_iinc (v := (a4 + 5)) (n := 2324) (L1 := [(3000, 0), (9, 0), (10, 0), (15, 0), (0, (a4 + 5)), (0, r177), (0, r182)]) d_L_law_2321 rfl rfl rfl (by decide) rfl ?_
              refine pv_goto (tgt := 23) d_L_law_2324 (by decide) ?_
              refine pv_unset (i := 5) (L1 := [(3000, 0), (9, 0), (10, 0), (15, 0), (0, (a4 + 5)), (1, 0), (0, r182)]) rfl ?_
              refine pv_unset (i := 6) (L1 := [(3000, 0), (9, 0), (10, 0), (15, 0), (0, (a4 + 5)), (1, 0), (1, 0)]) rfl ?_
              exact ih _ _ h
            · replace h := h.2 c186
              refine pv_aload_n (n := 1041) d_L_law_1040 rfl rfl rfl ?_
              refine pv_iconst (v := 0) (n := 1042) d_L_law_1041 (by decide) rfl ?_
              obtain ⟨g187, h⟩ := h
              refine pv_lald (n := 1043) (f := 13) (by decide) rfl d_L_law_1042 (by decide) g187 rfl ?_
              refine pv_iload (n := 1045) d_L_law_1043 rfl rfl ?_
              refine pv_i2l (n := 1046) d_L_law_1045 rfl ?_
              refine pv_lcmp (n := 1047) d_L_law_1046 rfl (fun r188 hr => ?_)
              replace h := h r188 hr
              refine pv_if_eq (n := 1050) (tgt := 1052) d_L_law_1047 (by decide) rfl (fun c189 => ?_) (fun c189 => ?_)
              · replace h := h.1 c189
                refine pv_goto (tgt := 2321) d_L_law_1052 (by decide) ?_
                refine pv_iinc (v := (a4 + 5)) (n := 2324) (L1 := [(3000, 0), (9, 0), (10, 0), (15, 0), (0, (a4 + 5)), (0, r177), (0, r182)]) d_L_law_2321 rfl rfl rfl (by decide) rfl ?_
                refine pv_goto (tgt := 23) d_L_law_2324 (by decide) ?_
                refine pv_unset (i := 5) (L1 := [(3000, 0), (9, 0), (10, 0), (15, 0), (0, (a4 + 5)), (1, 0), (0, r182)]) rfl ?_
                refine pv_unset (i := 6) (L1 := [(3000, 0), (9, 0), (10, 0), (15, 0), (0, (a4 + 5)), (1, 0), (1, 0)]) rfl ?_
                exact ih _ _ h
              · replace h := h.2 c189
                refine pv_iconst (v := 0) (n := 1051) d_L_law_1050 (by decide) rfl ?_
                exact pv_zret rfl rfl d_L_law_1051 (by decide) h
          · replace h := h.2 c185
            refine pv_iconst (v := 0) (n := 1034) d_L_law_1033 (by decide) rfl ?_
            exact pv_zret rfl rfl d_L_law_1034 (by decide) h
        · replace hce : v39 = 11 := hce
          replace h := h.2.2.2.2.2.2.2.2.2.2.2.1 hce
          refine pv_tableIn (tgt := 1055) (off := 1016) d_L_law_39 (by rw [hce]; decide) (by rw [hce]; decide) (by rw [hce]; rfl) (by decide) ?_
          refine pv_aload_n (n := 1056) d_L_law_1055 rfl rfl rfl ?_
          refine pv_aload_n (n := 1057) d_L_law_1056 rfl rfl rfl ?_
          refine pv_iload (n := 1059) d_L_law_1057 rfl rfl ?_
          refine pv_iconst (v := 1) (n := 1060) d_L_law_1059 (by decide) rfl ?_
          refine pv_iadd (n := 1061) d_L_law_1060 rfl ?_
          obtain ⟨g190, h⟩ := h
          refine pv_sld (n := 1062) hsc d_L_law_1061 g190 rfl ?_
          refine pv_aload_n (n := 1063) d_L_law_1062 rfl rfl rfl ?_
          refine pv_callSH (n := 1066) [(9, 0), (0, (xs (pw_i (a4 + 1)))), (15, 0)] [] (con_L_rain hl0 h) q_873 q_874 q_795 q_872 pyo_L_rain (by decide) rfl rfl d_L_law_1063 rfl (fun w191 r192 h _ => ?_) (fun _ _ h => h.elim)
          show pw_V l g cx_L_law Q X 1066 [(3000, 0), (9, 0), (10, 0), (15, 0), (0, a4), (1, 0), (1, 0)] [(0, r192)] w191
          refine pv_istore (n := 1068) (L' := [(3000, 0), (9, 0), (10, 0), (15, 0), (0, a4), (0, r192), (1, 0)]) d_L_law_1066 (by decide) rfl rfl ?_
          refine pv_aload_n (n := 1069) d_L_law_1068 rfl rfl rfl ?_
          refine pv_aload_n (n := 1070) d_L_law_1069 rfl rfl rfl ?_
          refine pv_iload (n := 1072) d_L_law_1070 rfl rfl ?_
          refine pv_iconst (v := 1) (n := 1073) d_L_law_1072 (by decide) rfl ?_
          refine pv_iadd (n := 1074) d_L_law_1073 rfl ?_
          obtain ⟨g193, h⟩ := h
          refine pv_sld (n := 1075) hsc d_L_law_1074 g193 rfl ?_
          refine pv_callV (n := 1078) (x := 0) [(0, (xs (pw_i (a4 + 1))))] [] (con_M_rain hl0 h) pw_cf8 rfl q_869 q_870 q_871 q_458 q_868 pyo_M_rain (by decide) rfl rfl (by decide) d_L_law_1075 rfl (fun w194 r195 h _ => ?_) (fun _ _ h => h.elim)
          show pw_V l g cx_L_law Q X 1078 [(3000, 0), (9, 0), (10, 0), (15, 0), (0, a4), (0, r192), (1, 0)] [(0, r195)] w194
          refine pv_istore (n := 1080) (L' := [(3000, 0), (9, 0), (10, 0), (15, 0), (0, a4), (0, r192), (0, r195)]) d_L_law_1078 (by decide) rfl rfl ?_
          refine pv_aload_n (n := 1081) d_L_law_1080 rfl rfl rfl ?_
          refine pv_callV (n := 1084) (x := 0) [] [] (con_M_thrown hl0 h) pw_cf8 rfl q_787 q_788 q_789 q_458 q_786 pyo_M_thrown (by decide) rfl rfl (by decide) d_L_law_1081 rfl (fun w196 r197 h _ => ?_) (fun _ _ h => h.elim)
          show pw_V l g cx_L_law Q X 1084 [(3000, 0), (9, 0), (10, 0), (15, 0), (0, a4), (0, r192), (0, r195)] [(0, r197)] w196
          refine pv_iload (n := 1086) d_L_law_1084 rfl rfl ?_
          refine pv_icmp_eq (n := 1089) (tgt := 1091) d_L_law_1086 (by decide) rfl (fun c198 => ?_) (fun c198 => ?_)
          · replace h := h.1 c198
            refine pv_iload (n := 1093) d_L_law_1091 rfl rfl ?_
            refine pv_if_ne (n := 1096) (tgt := 1108) d_L_law_1093 (by decide) rfl (fun c199 => ?_) (fun c199 => ?_)
            · replace h := h.1 c199
              refine pv_goto (tgt := 2321) d_L_law_1108 (by decide) ?_
              refine pv_iinc (v := (a4 + 5)) (n := 2324) (L1 := [(3000, 0), (9, 0), (10, 0), (15, 0), (0, (a4 + 5)), (0, r192), (0, r195)]) d_L_law_2321 rfl rfl rfl (by decide) rfl ?_
              refine pv_goto (tgt := 23) d_L_law_2324 (by decide) ?_
              refine pv_unset (i := 5) (L1 := [(3000, 0), (9, 0), (10, 0), (15, 0), (0, (a4 + 5)), (1, 0), (0, r195)]) rfl ?_
              refine pv_unset (i := 6) (L1 := [(3000, 0), (9, 0), (10, 0), (15, 0), (0, (a4 + 5)), (1, 0), (1, 0)]) rfl ?_
              exact ih _ _ h
            · replace h := h.2 c199
              refine pv_aload_n (n := 1097) d_L_law_1096 rfl rfl rfl ?_
              refine pv_iconst (v := 0) (n := 1098) d_L_law_1097 (by decide) rfl ?_
              obtain ⟨g200, h⟩ := h
              refine pv_lald (n := 1099) (f := 13) (by decide) rfl d_L_law_1098 (by decide) g200 rfl ?_
              refine pv_iload (n := 1101) d_L_law_1099 rfl rfl ?_
              refine pv_i2l (n := 1102) d_L_law_1101 rfl ?_
              refine pv_lcmp (n := 1103) d_L_law_1102 rfl (fun r201 hr => ?_)
              replace h := h r201 hr
              refine pv_if_eq (n := 1106) (tgt := 1108) d_L_law_1103 (by decide) rfl (fun c202 => ?_) (fun c202 => ?_)
              · replace h := h.1 c202
                refine pv_goto (tgt := 2321) d_L_law_1108 (by decide) ?_
                refine pv_iinc (v := (a4 + 5)) (n := 2324) (L1 := [(3000, 0), (9, 0), (10, 0), (15, 0), (0, (a4 + 5)), (0, r192), (0, r195)]) d_L_law_2321 rfl rfl rfl (by decide) rfl ?_
                refine pv_goto (tgt := 23) d_L_law_2324 (by decide) ?_
                refine pv_unset (i := 5) (L1 := [(3000, 0), (9, 0), (10, 0), (15, 0), (0, (a4 + 5)), (1, 0), (0, r195)]) rfl ?_
                refine pv_unset (i := 6) (L1 := [(3000, 0), (9, 0), (10, 0), (15, 0), (0, (a4 + 5)), (1, 0), (1, 0)]) rfl ?_
                exact ih _ _ h
              · replace h := h.2 c202
                refine pv_iconst (v := 0) (n := 1107) d_L_law_1106 (by decide) rfl ?_
                exact pv_zret rfl rfl d_L_law_1107 (by decide) h
          · replace h := h.2 c198
            refine pv_iconst (v := 0) (n := 1090) d_L_law_1089 (by decide) rfl ?_
            exact pv_zret rfl rfl d_L_law_1090 (by decide) h
        · replace hce : v39 = 12 := hce
          replace h := h.2.2.2.2.2.2.2.2.2.2.2.2.1 hce
          refine pv_tableIn (tgt := 1111) (off := 1072) d_L_law_39 (by rw [hce]; decide) (by rw [hce]; decide) (by rw [hce]; rfl) (by decide) ?_
          refine pv_aload_n (n := 1112) d_L_law_1111 rfl rfl rfl ?_
          refine pv_aload_n (n := 1113) d_L_law_1112 rfl rfl rfl ?_
          refine pv_iload (n := 1115) d_L_law_1113 rfl rfl ?_
          refine pv_iconst (v := 1) (n := 1116) d_L_law_1115 (by decide) rfl ?_
          refine pv_iadd (n := 1117) d_L_law_1116 rfl ?_
          obtain ⟨g203, h⟩ := h
          refine pv_sld (n := 1118) hsc d_L_law_1117 g203 rfl ?_
          refine pv_aload_n (n := 1119) d_L_law_1118 rfl rfl rfl ?_
          refine pv_iload (n := 1121) d_L_law_1119 rfl rfl ?_
          refine pv_iconst (v := 2) (n := 1122) d_L_law_1121 (by decide) rfl ?_
          refine pv_iadd (n := 1123) d_L_law_1122 rfl ?_
          obtain ⟨g204, h⟩ := h
          refine pv_sld (n := 1124) hsc d_L_law_1123 g204 rfl ?_
          refine pv_aload_n (n := 1125) d_L_law_1124 rfl rfl rfl ?_
          refine pv_callSH (n := 1128) [(9, 0), (0, (xs (pw_i (a4 + 1)))), (0, (xs (pw_i (a4 + 2)))), (15, 0)] [] (con_L_dig hl0 h) q_880 q_881 q_795 q_879 pyo_L_dig (by decide) rfl rfl d_L_law_1125 rfl (fun w205 r206 h _ => ?_) (fun _ _ h => h.elim)
          show pw_V l g cx_L_law Q X 1128 [(3000, 0), (9, 0), (10, 0), (15, 0), (0, a4), (1, 0), (1, 0)] [(0, r206)] w205
          refine pv_istore (n := 1130) (L' := [(3000, 0), (9, 0), (10, 0), (15, 0), (0, a4), (0, r206), (1, 0)]) d_L_law_1128 (by decide) rfl rfl ?_
          refine pv_aload_n (n := 1131) d_L_law_1130 rfl rfl rfl ?_
          refine pv_aload_n (n := 1132) d_L_law_1131 rfl rfl rfl ?_
          refine pv_iload (n := 1134) d_L_law_1132 rfl rfl ?_
          refine pv_iconst (v := 1) (n := 1135) d_L_law_1134 (by decide) rfl ?_
          refine pv_iadd (n := 1136) d_L_law_1135 rfl ?_
          obtain ⟨g207, h⟩ := h
          refine pv_sld (n := 1137) hsc d_L_law_1136 g207 rfl ?_
          refine pv_aload_n (n := 1138) d_L_law_1137 rfl rfl rfl ?_
          refine pv_iload (n := 1140) d_L_law_1138 rfl rfl ?_
          refine pv_iconst (v := 2) (n := 1141) d_L_law_1140 (by decide) rfl ?_
          refine pv_iadd (n := 1142) d_L_law_1141 rfl ?_
          obtain ⟨g208, h⟩ := h
          refine pv_sld (n := 1143) hsc d_L_law_1142 g208 rfl ?_
          refine pv_callV (n := 1146) (x := 0) [(0, (xs (pw_i (a4 + 1)))), (0, (xs (pw_i (a4 + 2))))] [] (con_M_dig hl0 h) pw_cf8 rfl q_876 q_877 q_878 q_458 q_875 pyo_M_dig (by decide) rfl rfl (by decide) d_L_law_1143 rfl (fun w209 r210 h _ => ?_) (fun _ _ h => h.elim)
          show pw_V l g cx_L_law Q X 1146 [(3000, 0), (9, 0), (10, 0), (15, 0), (0, a4), (0, r206), (1, 0)] [(0, r210)] w209
          refine pv_istore (n := 1148) (L' := [(3000, 0), (9, 0), (10, 0), (15, 0), (0, a4), (0, r206), (0, r210)]) d_L_law_1146 (by decide) rfl rfl ?_
          refine pv_aload_n (n := 1149) d_L_law_1148 rfl rfl rfl ?_
          refine pv_callV (n := 1152) (x := 0) [] [] (con_M_thrown hl0 h) pw_cf8 rfl q_787 q_788 q_789 q_458 q_786 pyo_M_thrown (by decide) rfl rfl (by decide) d_L_law_1149 rfl (fun w211 r212 h _ => ?_) (fun _ _ h => h.elim)
          show pw_V l g cx_L_law Q X 1152 [(3000, 0), (9, 0), (10, 0), (15, 0), (0, a4), (0, r206), (0, r210)] [(0, r212)] w211
          refine pv_iload (n := 1154) d_L_law_1152 rfl rfl ?_
          refine pv_icmp_eq (n := 1157) (tgt := 1159) d_L_law_1154 (by decide) rfl (fun c213 => ?_) (fun c213 => ?_)
          · replace h := h.1 c213
            refine pv_iload (n := 1161) d_L_law_1159 rfl rfl ?_
            refine pv_if_ne (n := 1164) (tgt := 1176) d_L_law_1161 (by decide) rfl (fun c214 => ?_) (fun c214 => ?_)
            · replace h := h.1 c214
              refine pv_goto (tgt := 2321) d_L_law_1176 (by decide) ?_
              refine pv_iinc (v := (a4 + 5)) (n := 2324) (L1 := [(3000, 0), (9, 0), (10, 0), (15, 0), (0, (a4 + 5)), (0, r206), (0, r210)]) d_L_law_2321 rfl rfl rfl (by decide) rfl ?_
              refine pv_goto (tgt := 23) d_L_law_2324 (by decide) ?_
              refine pv_unset (i := 5) (L1 := [(3000, 0), (9, 0), (10, 0), (15, 0), (0, (a4 + 5)), (1, 0), (0, r210)]) rfl ?_
              refine pv_unset (i := 6) (L1 := [(3000, 0), (9, 0), (10, 0), (15, 0), (0, (a4 + 5)), (1, 0), (1, 0)]) rfl ?_
              exact ih _ _ h
            · replace h := h.2 c214
              refine pv_aload_n (n := 1165) d_L_law_1164 rfl rfl rfl ?_
              refine pv_iconst (v := 0) (n := 1166) d_L_law_1165 (by decide) rfl ?_
              obtain ⟨g215, h⟩ := h
              refine pv_lald (n := 1167) (f := 13) (by decide) rfl d_L_law_1166 (by decide) g215 rfl ?_
              refine pv_iload (n := 1169) d_L_law_1167 rfl rfl ?_
              refine pv_i2l (n := 1170) d_L_law_1169 rfl ?_
              refine pv_lcmp (n := 1171) d_L_law_1170 rfl (fun r216 hr => ?_)
              replace h := h r216 hr
              refine pv_if_eq (n := 1174) (tgt := 1176) d_L_law_1171 (by decide) rfl (fun c217 => ?_) (fun c217 => ?_)
              · replace h := h.1 c217
                refine pv_goto (tgt := 2321) d_L_law_1176 (by decide) ?_
                refine pv_iinc (v := (a4 + 5)) (n := 2324) (L1 := [(3000, 0), (9, 0), (10, 0), (15, 0), (0, (a4 + 5)), (0, r206), (0, r210)]) d_L_law_2321 rfl rfl rfl (by decide) rfl ?_
                refine pv_goto (tgt := 23) d_L_law_2324 (by decide) ?_
                refine pv_unset (i := 5) (L1 := [(3000, 0), (9, 0), (10, 0), (15, 0), (0, (a4 + 5)), (1, 0), (0, r210)]) rfl ?_
                refine pv_unset (i := 6) (L1 := [(3000, 0), (9, 0), (10, 0), (15, 0), (0, (a4 + 5)), (1, 0), (1, 0)]) rfl ?_
                exact ih _ _ h
              · replace h := h.2 c217
                refine pv_iconst (v := 0) (n := 1175) d_L_law_1174 (by decide) rfl ?_
                exact pv_zret rfl rfl d_L_law_1175 (by decide) h
          · replace h := h.2 c213
            refine pv_iconst (v := 0) (n := 1158) d_L_law_1157 (by decide) rfl ?_
            exact pv_zret rfl rfl d_L_law_1158 (by decide) h
        · replace hce : v39 = 13 := hce
          replace h := h.2.2.2.2.2.2.2.2.2.2.2.2.2.1 hce
          refine pv_tableIn (tgt := 1179) (off := 1140) d_L_law_39 (by rw [hce]; decide) (by rw [hce]; decide) (by rw [hce]; rfl) (by decide) ?_
          refine pv_aload_n (n := 1180) d_L_law_1179 rfl rfl rfl ?_
          refine pv_aload_n (n := 1181) d_L_law_1180 rfl rfl rfl ?_
          refine pv_iload (n := 1183) d_L_law_1181 rfl rfl ?_
          refine pv_iconst (v := 1) (n := 1184) d_L_law_1183 (by decide) rfl ?_
          refine pv_iadd (n := 1185) d_L_law_1184 rfl ?_
          obtain ⟨g218, h⟩ := h
          refine pv_sld (n := 1186) hsc d_L_law_1185 g218 rfl ?_
          refine pv_aload_n (n := 1187) d_L_law_1186 rfl rfl rfl ?_
          refine pv_callSH (n := 1190) [(9, 0), (0, (xs (pw_i (a4 + 1)))), (15, 0)] [] (con_L_fill hl0 h) q_887 q_888 q_795 q_886 pyo_L_fill (by decide) rfl rfl d_L_law_1187 rfl (fun w219 r220 h _ => ?_) (fun _ _ h => h.elim)
          show pw_V l g cx_L_law Q X 1190 [(3000, 0), (9, 0), (10, 0), (15, 0), (0, a4), (1, 0), (1, 0)] [(0, r220)] w219
          refine pv_istore (n := 1192) (L' := [(3000, 0), (9, 0), (10, 0), (15, 0), (0, a4), (0, r220), (1, 0)]) d_L_law_1190 (by decide) rfl rfl ?_
          refine pv_aload_n (n := 1193) d_L_law_1192 rfl rfl rfl ?_
          refine pv_aload_n (n := 1194) d_L_law_1193 rfl rfl rfl ?_
          refine pv_iload (n := 1196) d_L_law_1194 rfl rfl ?_
          refine pv_iconst (v := 1) (n := 1197) d_L_law_1196 (by decide) rfl ?_
          refine pv_iadd (n := 1198) d_L_law_1197 rfl ?_
          obtain ⟨g221, h⟩ := h
          refine pv_sld (n := 1199) hsc d_L_law_1198 g221 rfl ?_
          refine pv_callV (n := 1202) (x := 0) [(0, (xs (pw_i (a4 + 1))))] [] (con_M_fill hl0 h) pw_cf8 rfl q_883 q_884 q_885 q_458 q_882 pyo_M_fill (by decide) rfl rfl (by decide) d_L_law_1199 rfl (fun w222 r223 h _ => ?_) (fun _ _ h => h.elim)
          show pw_V l g cx_L_law Q X 1202 [(3000, 0), (9, 0), (10, 0), (15, 0), (0, a4), (0, r220), (1, 0)] [(0, r223)] w222
          refine pv_istore (n := 1204) (L' := [(3000, 0), (9, 0), (10, 0), (15, 0), (0, a4), (0, r220), (0, r223)]) d_L_law_1202 (by decide) rfl rfl ?_
          refine pv_aload_n (n := 1205) d_L_law_1204 rfl rfl rfl ?_
          refine pv_callV (n := 1208) (x := 0) [] [] (con_M_thrown hl0 h) pw_cf8 rfl q_787 q_788 q_789 q_458 q_786 pyo_M_thrown (by decide) rfl rfl (by decide) d_L_law_1205 rfl (fun w224 r225 h _ => ?_) (fun _ _ h => h.elim)
          show pw_V l g cx_L_law Q X 1208 [(3000, 0), (9, 0), (10, 0), (15, 0), (0, a4), (0, r220), (0, r223)] [(0, r225)] w224
          refine pv_iload (n := 1210) d_L_law_1208 rfl rfl ?_
          refine pv_icmp_eq (n := 1213) (tgt := 1215) d_L_law_1210 (by decide) rfl (fun c226 => ?_) (fun c226 => ?_)
          · replace h := h.1 c226
            refine pv_iload (n := 1217) d_L_law_1215 rfl rfl ?_
            refine pv_if_ne (n := 1220) (tgt := 1232) d_L_law_1217 (by decide) rfl (fun c227 => ?_) (fun c227 => ?_)
            · replace h := h.1 c227
              refine pv_goto (tgt := 2321) d_L_law_1232 (by decide) ?_
              refine pv_iinc (v := (a4 + 5)) (n := 2324) (L1 := [(3000, 0), (9, 0), (10, 0), (15, 0), (0, (a4 + 5)), (0, r220), (0, r223)]) d_L_law_2321 rfl rfl rfl (by decide) rfl ?_
              refine pv_goto (tgt := 23) d_L_law_2324 (by decide) ?_
              refine pv_unset (i := 5) (L1 := [(3000, 0), (9, 0), (10, 0), (15, 0), (0, (a4 + 5)), (1, 0), (0, r223)]) rfl ?_
              refine pv_unset (i := 6) (L1 := [(3000, 0), (9, 0), (10, 0), (15, 0), (0, (a4 + 5)), (1, 0), (1, 0)]) rfl ?_
              exact ih _ _ h
            · replace h := h.2 c227
              refine pv_aload_n (n := 1221) d_L_law_1220 rfl rfl rfl ?_
              refine pv_iconst (v := 0) (n := 1222) d_L_law_1221 (by decide) rfl ?_
              obtain ⟨g228, h⟩ := h
              refine pv_lald (n := 1223) (f := 13) (by decide) rfl d_L_law_1222 (by decide) g228 rfl ?_
              refine pv_iload (n := 1225) d_L_law_1223 rfl rfl ?_
              refine pv_i2l (n := 1226) d_L_law_1225 rfl ?_
              refine pv_lcmp (n := 1227) d_L_law_1226 rfl (fun r229 hr => ?_)
              replace h := h r229 hr
              refine pv_if_eq (n := 1230) (tgt := 1232) d_L_law_1227 (by decide) rfl (fun c230 => ?_) (fun c230 => ?_)
              · replace h := h.1 c230
                refine pv_goto (tgt := 2321) d_L_law_1232 (by decide) ?_
                refine pv_iinc (v := (a4 + 5)) (n := 2324) (L1 := [(3000, 0), (9, 0), (10, 0), (15, 0), (0, (a4 + 5)), (0, r220), (0, r223)]) d_L_law_2321 rfl rfl rfl (by decide) rfl ?_
                refine pv_goto (tgt := 23) d_L_law_2324 (by decide) ?_
                refine pv_unset (i := 5) (L1 := [(3000, 0), (9, 0), (10, 0), (15, 0), (0, (a4 + 5)), (1, 0), (0, r223)]) rfl ?_
                refine pv_unset (i := 6) (L1 := [(3000, 0), (9, 0), (10, 0), (15, 0), (0, (a4 + 5)), (1, 0), (1, 0)]) rfl ?_
                exact ih _ _ h
              · replace h := h.2 c230
                refine pv_iconst (v := 0) (n := 1231) d_L_law_1230 (by decide) rfl ?_
                exact pv_zret rfl rfl d_L_law_1231 (by decide) h
          · replace h := h.2 c226
            refine pv_iconst (v := 0) (n := 1214) d_L_law_1213 (by decide) rfl ?_
            exact pv_zret rfl rfl d_L_law_1214 (by decide) h
        · replace hce : v39 = 14 := hce
          replace h := h.2.2.2.2.2.2.2.2.2.2.2.2.2.2.1 hce
          refine pv_tableIn (tgt := 1235) (off := 1196) d_L_law_39 (by rw [hce]; decide) (by rw [hce]; decide) (by rw [hce]; rfl) (by decide) ?_
          refine pv_aload_n (n := 1236) d_L_law_1235 rfl rfl rfl ?_
          refine pv_aload_n (n := 1237) d_L_law_1236 rfl rfl rfl ?_
          refine pv_iload (n := 1239) d_L_law_1237 rfl rfl ?_
          refine pv_iconst (v := 1) (n := 1240) d_L_law_1239 (by decide) rfl ?_
          refine pv_iadd (n := 1241) d_L_law_1240 rfl ?_
          obtain ⟨g231, h⟩ := h
          refine pv_sld (n := 1242) hsc d_L_law_1241 g231 rfl ?_
          refine pv_aload_n (n := 1243) d_L_law_1242 rfl rfl rfl ?_
          refine pv_iload (n := 1245) d_L_law_1243 rfl rfl ?_
          refine pv_iconst (v := 2) (n := 1246) d_L_law_1245 (by decide) rfl ?_
          refine pv_iadd (n := 1247) d_L_law_1246 rfl ?_
          obtain ⟨g232, h⟩ := h
          refine pv_sld (n := 1248) hsc d_L_law_1247 g232 rfl ?_
          refine pv_aload_n (n := 1249) d_L_law_1248 rfl rfl rfl ?_
          refine pv_iload (n := 1251) d_L_law_1249 rfl rfl ?_
          refine pv_iconst (v := 3) (n := 1252) d_L_law_1251 (by decide) rfl ?_
          refine pv_iadd (n := 1253) d_L_law_1252 rfl ?_
          obtain ⟨g233, h⟩ := h
          refine pv_sld (n := 1254) hsc d_L_law_1253 g233 rfl ?_
          refine pv_aload_n (n := 1255) d_L_law_1254 rfl rfl rfl ?_
          refine pv_callSH (n := 1258) [(9, 0), (0, (xs (pw_i (a4 + 1)))), (0, (xs (pw_i (a4 + 2)))), (0, (xs (pw_i (a4 + 3)))), (15, 0)] [] (con_L_cut hl0 h) q_894 q_895 q_795 q_893 pyo_L_cut (by decide) rfl rfl d_L_law_1255 rfl (fun w234 r235 h _ => ?_) (fun _ _ h => h.elim)
          show pw_V l g cx_L_law Q X 1258 [(3000, 0), (9, 0), (10, 0), (15, 0), (0, a4), (1, 0), (1, 0)] [(0, r235)] w234
          refine pv_istore (n := 1260) (L' := [(3000, 0), (9, 0), (10, 0), (15, 0), (0, a4), (0, r235), (1, 0)]) d_L_law_1258 (by decide) rfl rfl ?_
          refine pv_aload_n (n := 1261) d_L_law_1260 rfl rfl rfl ?_
          refine pv_aload_n (n := 1262) d_L_law_1261 rfl rfl rfl ?_
          refine pv_iload (n := 1264) d_L_law_1262 rfl rfl ?_
          refine pv_iconst (v := 1) (n := 1265) d_L_law_1264 (by decide) rfl ?_
          refine pv_iadd (n := 1266) d_L_law_1265 rfl ?_
          obtain ⟨g236, h⟩ := h
          refine pv_sld (n := 1267) hsc d_L_law_1266 g236 rfl ?_
          refine pv_aload_n (n := 1268) d_L_law_1267 rfl rfl rfl ?_
          refine pv_iload (n := 1270) d_L_law_1268 rfl rfl ?_
          refine pv_iconst (v := 2) (n := 1271) d_L_law_1270 (by decide) rfl ?_
          refine pv_iadd (n := 1272) d_L_law_1271 rfl ?_
          obtain ⟨g237, h⟩ := h
          refine pv_sld (n := 1273) hsc d_L_law_1272 g237 rfl ?_
          refine pv_aload_n (n := 1274) d_L_law_1273 rfl rfl rfl ?_
          refine pv_iload (n := 1276) d_L_law_1274 rfl rfl ?_
          refine pv_iconst (v := 3) (n := 1277) d_L_law_1276 (by decide) rfl ?_
          refine pv_iadd (n := 1278) d_L_law_1277 rfl ?_
          obtain ⟨g238, h⟩ := h
          refine pv_sld (n := 1279) hsc d_L_law_1278 g238 rfl ?_
          refine pv_callV (n := 1282) (x := 0) [(0, (xs (pw_i (a4 + 1)))), (0, (xs (pw_i (a4 + 2)))), (0, (xs (pw_i (a4 + 3))))] [] (con_M_cut hl0 h) pw_cf8 rfl q_890 q_891 q_892 q_458 q_889 pyo_M_cut (by decide) rfl rfl (by decide) d_L_law_1279 rfl (fun w239 r240 h _ => ?_) (fun _ _ h => h.elim)
          show pw_V l g cx_L_law Q X 1282 [(3000, 0), (9, 0), (10, 0), (15, 0), (0, a4), (0, r235), (1, 0)] [(0, r240)] w239
          refine pv_istore (n := 1284) (L' := [(3000, 0), (9, 0), (10, 0), (15, 0), (0, a4), (0, r235), (0, r240)]) d_L_law_1282 (by decide) rfl rfl ?_
          refine pv_aload_n (n := 1285) d_L_law_1284 rfl rfl rfl ?_
          refine pv_callV (n := 1288) (x := 0) [] [] (con_M_thrown hl0 h) pw_cf8 rfl q_787 q_788 q_789 q_458 q_786 pyo_M_thrown (by decide) rfl rfl (by decide) d_L_law_1285 rfl (fun w241 r242 h _ => ?_) (fun _ _ h => h.elim)
          show pw_V l g cx_L_law Q X 1288 [(3000, 0), (9, 0), (10, 0), (15, 0), (0, a4), (0, r235), (0, r240)] [(0, r242)] w241
          refine pv_iload (n := 1290) d_L_law_1288 rfl rfl ?_
          refine pv_icmp_eq (n := 1293) (tgt := 1295) d_L_law_1290 (by decide) rfl (fun c243 => ?_) (fun c243 => ?_)
          · replace h := h.1 c243
            refine pv_iload (n := 1297) d_L_law_1295 rfl rfl ?_
            refine pv_if_ne (n := 1300) (tgt := 1312) d_L_law_1297 (by decide) rfl (fun c244 => ?_) (fun c244 => ?_)
            · replace h := h.1 c244
              refine pv_goto (tgt := 2321) d_L_law_1312 (by decide) ?_
              refine pv_iinc (v := (a4 + 5)) (n := 2324) (L1 := [(3000, 0), (9, 0), (10, 0), (15, 0), (0, (a4 + 5)), (0, r235), (0, r240)]) d_L_law_2321 rfl rfl rfl (by decide) rfl ?_
              refine pv_goto (tgt := 23) d_L_law_2324 (by decide) ?_
              refine pv_unset (i := 5) (L1 := [(3000, 0), (9, 0), (10, 0), (15, 0), (0, (a4 + 5)), (1, 0), (0, r240)]) rfl ?_
              refine pv_unset (i := 6) (L1 := [(3000, 0), (9, 0), (10, 0), (15, 0), (0, (a4 + 5)), (1, 0), (1, 0)]) rfl ?_
              exact ih _ _ h
            · replace h := h.2 c244
              refine pv_aload_n (n := 1301) d_L_law_1300 rfl rfl rfl ?_
              refine pv_iconst (v := 0) (n := 1302) d_L_law_1301 (by decide) rfl ?_
              obtain ⟨g245, h⟩ := h
              refine pv_lald (n := 1303) (f := 13) (by decide) rfl d_L_law_1302 (by decide) g245 rfl ?_
              refine pv_iload (n := 1305) d_L_law_1303 rfl rfl ?_
              refine pv_i2l (n := 1306) d_L_law_1305 rfl ?_
              refine pv_lcmp (n := 1307) d_L_law_1306 rfl (fun r246 hr => ?_)
              replace h := h r246 hr
              refine pv_if_eq (n := 1310) (tgt := 1312) d_L_law_1307 (by decide) rfl (fun c247 => ?_) (fun c247 => ?_)
              · replace h := h.1 c247
                refine pv_goto (tgt := 2321) d_L_law_1312 (by decide) ?_
                refine pv_iinc (v := (a4 + 5)) (n := 2324) (L1 := [(3000, 0), (9, 0), (10, 0), (15, 0), (0, (a4 + 5)), (0, r235), (0, r240)]) d_L_law_2321 rfl rfl rfl (by decide) rfl ?_
                refine pv_goto (tgt := 23) d_L_law_2324 (by decide) ?_
                refine pv_unset (i := 5) (L1 := [(3000, 0), (9, 0), (10, 0), (15, 0), (0, (a4 + 5)), (1, 0), (0, r240)]) rfl ?_
                refine pv_unset (i := 6) (L1 := [(3000, 0), (9, 0), (10, 0), (15, 0), (0, (a4 + 5)), (1, 0), (1, 0)]) rfl ?_
                exact ih _ _ h
              · replace h := h.2 c247
                refine pv_iconst (v := 0) (n := 1311) d_L_law_1310 (by decide) rfl ?_
                exact pv_zret rfl rfl d_L_law_1311 (by decide) h
          · replace h := h.2 c243
            refine pv_iconst (v := 0) (n := 1294) d_L_law_1293 (by decide) rfl ?_
            exact pv_zret rfl rfl d_L_law_1294 (by decide) h
        · replace hce : v39 = 15 := hce
          replace h := h.2.2.2.2.2.2.2.2.2.2.2.2.2.2.2.1 hce
          refine pv_tableIn (tgt := 1315) (off := 1276) d_L_law_39 (by rw [hce]; decide) (by rw [hce]; decide) (by rw [hce]; rfl) (by decide) ?_
          refine pv_aload_n (n := 1316) d_L_law_1315 rfl rfl rfl ?_
          refine pv_aload_n (n := 1317) d_L_law_1316 rfl rfl rfl ?_
          refine pv_iload (n := 1319) d_L_law_1317 rfl rfl ?_
          refine pv_iconst (v := 1) (n := 1320) d_L_law_1319 (by decide) rfl ?_
          refine pv_iadd (n := 1321) d_L_law_1320 rfl ?_
          obtain ⟨g248, h⟩ := h
          refine pv_sld (n := 1322) hsc d_L_law_1321 g248 rfl ?_
          refine pv_aload_n (n := 1323) d_L_law_1322 rfl rfl rfl ?_
          refine pv_callSH (n := 1326) [(9, 0), (0, (xs (pw_i (a4 + 1)))), (15, 0)] [] (con_L_wind hl0 h) q_901 q_902 q_795 q_900 pyo_L_wind (by decide) rfl rfl d_L_law_1323 rfl (fun w249 r250 h _ => ?_) (fun _ _ h => h.elim)
          show pw_V l g cx_L_law Q X 1326 [(3000, 0), (9, 0), (10, 0), (15, 0), (0, a4), (1, 0), (1, 0)] [(0, r250)] w249
          refine pv_istore (n := 1328) (L' := [(3000, 0), (9, 0), (10, 0), (15, 0), (0, a4), (0, r250), (1, 0)]) d_L_law_1326 (by decide) rfl rfl ?_
          refine pv_aload_n (n := 1329) d_L_law_1328 rfl rfl rfl ?_
          refine pv_aload_n (n := 1330) d_L_law_1329 rfl rfl rfl ?_
          refine pv_iload (n := 1332) d_L_law_1330 rfl rfl ?_
          refine pv_iconst (v := 1) (n := 1333) d_L_law_1332 (by decide) rfl ?_
          refine pv_iadd (n := 1334) d_L_law_1333 rfl ?_
          obtain ⟨g251, h⟩ := h
          refine pv_sld (n := 1335) hsc d_L_law_1334 g251 rfl ?_
          refine pv_callV (n := 1338) (x := 0) [(0, (xs (pw_i (a4 + 1))))] [] (con_M_wind hl0 h) pw_cf8 rfl q_897 q_898 q_899 q_458 q_896 pyo_M_wind (by decide) rfl rfl (by decide) d_L_law_1335 rfl (fun w252 r253 h _ => ?_) (fun _ _ h => h.elim)
          show pw_V l g cx_L_law Q X 1338 [(3000, 0), (9, 0), (10, 0), (15, 0), (0, a4), (0, r250), (1, 0)] [(0, r253)] w252
          refine pv_istore (n := 1340) (L' := [(3000, 0), (9, 0), (10, 0), (15, 0), (0, a4), (0, r250), (0, r253)]) d_L_law_1338 (by decide) rfl rfl ?_
          refine pv_aload_n (n := 1341) d_L_law_1340 rfl rfl rfl ?_
          refine pv_callV (n := 1344) (x := 0) [] [] (con_M_thrown hl0 h) pw_cf8 rfl q_787 q_788 q_789 q_458 q_786 pyo_M_thrown (by decide) rfl rfl (by decide) d_L_law_1341 rfl (fun w254 r255 h _ => ?_) (fun _ _ h => h.elim)
          show pw_V l g cx_L_law Q X 1344 [(3000, 0), (9, 0), (10, 0), (15, 0), (0, a4), (0, r250), (0, r253)] [(0, r255)] w254
          refine pv_iload (n := 1346) d_L_law_1344 rfl rfl ?_
          refine pv_icmp_eq (n := 1349) (tgt := 1351) d_L_law_1346 (by decide) rfl (fun c256 => ?_) (fun c256 => ?_)
          · replace h := h.1 c256
            refine pv_iload (n := 1353) d_L_law_1351 rfl rfl ?_
            refine pv_if_ne (n := 1356) (tgt := 1368) d_L_law_1353 (by decide) rfl (fun c257 => ?_) (fun c257 => ?_)
            · replace h := h.1 c257
              refine pv_goto (tgt := 2321) d_L_law_1368 (by decide) ?_
              refine pv_iinc (v := (a4 + 5)) (n := 2324) (L1 := [(3000, 0), (9, 0), (10, 0), (15, 0), (0, (a4 + 5)), (0, r250), (0, r253)]) d_L_law_2321 rfl rfl rfl (by decide) rfl ?_
              refine pv_goto (tgt := 23) d_L_law_2324 (by decide) ?_
              refine pv_unset (i := 5) (L1 := [(3000, 0), (9, 0), (10, 0), (15, 0), (0, (a4 + 5)), (1, 0), (0, r253)]) rfl ?_
              refine pv_unset (i := 6) (L1 := [(3000, 0), (9, 0), (10, 0), (15, 0), (0, (a4 + 5)), (1, 0), (1, 0)]) rfl ?_
              exact ih _ _ h
            · replace h := h.2 c257
              refine pv_aload_n (n := 1357) d_L_law_1356 rfl rfl rfl ?_
              refine pv_iconst (v := 0) (n := 1358) d_L_law_1357 (by decide) rfl ?_
              obtain ⟨g258, h⟩ := h
              refine pv_lald (n := 1359) (f := 13) (by decide) rfl d_L_law_1358 (by decide) g258 rfl ?_
              refine pv_iload (n := 1361) d_L_law_1359 rfl rfl ?_
              refine pv_i2l (n := 1362) d_L_law_1361 rfl ?_
              refine pv_lcmp (n := 1363) d_L_law_1362 rfl (fun r259 hr => ?_)
              replace h := h r259 hr
              refine pv_if_eq (n := 1366) (tgt := 1368) d_L_law_1363 (by decide) rfl (fun c260 => ?_) (fun c260 => ?_)
              · replace h := h.1 c260
                refine pv_goto (tgt := 2321) d_L_law_1368 (by decide) ?_
                refine pv_iinc (v := (a4 + 5)) (n := 2324) (L1 := [(3000, 0), (9, 0), (10, 0), (15, 0), (0, (a4 + 5)), (0, r250), (0, r253)]) d_L_law_2321 rfl rfl rfl (by decide) rfl ?_
                refine pv_goto (tgt := 23) d_L_law_2324 (by decide) ?_
                refine pv_unset (i := 5) (L1 := [(3000, 0), (9, 0), (10, 0), (15, 0), (0, (a4 + 5)), (1, 0), (0, r253)]) rfl ?_
                refine pv_unset (i := 6) (L1 := [(3000, 0), (9, 0), (10, 0), (15, 0), (0, (a4 + 5)), (1, 0), (1, 0)]) rfl ?_
                exact ih _ _ h
              · replace h := h.2 c260
                refine pv_iconst (v := 0) (n := 1367) d_L_law_1366 (by decide) rfl ?_
                exact pv_zret rfl rfl d_L_law_1367 (by decide) h
          · replace h := h.2 c256
            refine pv_iconst (v := 0) (n := 1350) d_L_law_1349 (by decide) rfl ?_
            exact pv_zret rfl rfl d_L_law_1350 (by decide) h
        · replace hce : v39 = 16 := hce
          replace h := h.2.2.2.2.2.2.2.2.2.2.2.2.2.2.2.2.1 hce
          refine pv_tableIn (tgt := 1371) (off := 1332) d_L_law_39 (by rw [hce]; decide) (by rw [hce]; decide) (by rw [hce]; rfl) (by decide) ?_
          refine pv_aload_n (n := 1372) d_L_law_1371 rfl rfl rfl ?_
          refine pv_aload_n (n := 1373) d_L_law_1372 rfl rfl rfl ?_
          refine pv_iload (n := 1375) d_L_law_1373 rfl rfl ?_
          refine pv_iconst (v := 1) (n := 1376) d_L_law_1375 (by decide) rfl ?_
          refine pv_iadd (n := 1377) d_L_law_1376 rfl ?_
          obtain ⟨g261, h⟩ := h
          refine pv_sld (n := 1378) hsc d_L_law_1377 g261 rfl ?_
          refine pv_aload_n (n := 1379) d_L_law_1378 rfl rfl rfl ?_
          refine pv_iload (n := 1381) d_L_law_1379 rfl rfl ?_
          refine pv_iconst (v := 2) (n := 1382) d_L_law_1381 (by decide) rfl ?_
          refine pv_iadd (n := 1383) d_L_law_1382 rfl ?_
          obtain ⟨g262, h⟩ := h
          refine pv_sld (n := 1384) hsc d_L_law_1383 g262 rfl ?_
          refine pv_aload_n (n := 1385) d_L_law_1384 rfl rfl rfl ?_
          refine pv_callSH (n := 1388) [(9, 0), (0, (xs (pw_i (a4 + 1)))), (0, (xs (pw_i (a4 + 2)))), (15, 0)] [] (con_L_burn hl0 h) q_908 q_909 q_795 q_907 pyo_L_burn (by decide) rfl rfl d_L_law_1385 rfl (fun w263 r264 h _ => ?_) (fun _ _ h => h.elim)
          show pw_V l g cx_L_law Q X 1388 [(3000, 0), (9, 0), (10, 0), (15, 0), (0, a4), (1, 0), (1, 0)] [(0, r264)] w263
          refine pv_istore (n := 1390) (L' := [(3000, 0), (9, 0), (10, 0), (15, 0), (0, a4), (0, r264), (1, 0)]) d_L_law_1388 (by decide) rfl rfl ?_
          refine pv_aload_n (n := 1391) d_L_law_1390 rfl rfl rfl ?_
          refine pv_aload_n (n := 1392) d_L_law_1391 rfl rfl rfl ?_
          refine pv_iload (n := 1394) d_L_law_1392 rfl rfl ?_
          refine pv_iconst (v := 1) (n := 1395) d_L_law_1394 (by decide) rfl ?_
          refine pv_iadd (n := 1396) d_L_law_1395 rfl ?_
          obtain ⟨g265, h⟩ := h
          refine pv_sld (n := 1397) hsc d_L_law_1396 g265 rfl ?_
          refine pv_aload_n (n := 1398) d_L_law_1397 rfl rfl rfl ?_
          refine pv_iload (n := 1400) d_L_law_1398 rfl rfl ?_
          refine pv_iconst (v := 2) (n := 1401) d_L_law_1400 (by decide) rfl ?_
          refine pv_iadd (n := 1402) d_L_law_1401 rfl ?_
          obtain ⟨g266, h⟩ := h
          refine pv_sld (n := 1403) hsc d_L_law_1402 g266 rfl ?_
          refine pv_callV (n := 1406) (x := 0) [(0, (xs (pw_i (a4 + 1)))), (0, (xs (pw_i (a4 + 2))))] [] (con_M_burn hl0 h) pw_cf8 rfl q_904 q_905 q_906 q_458 q_903 pyo_M_burn (by decide) rfl rfl (by decide) d_L_law_1403 rfl (fun w267 r268 h _ => ?_) (fun _ _ h => h.elim)
          show pw_V l g cx_L_law Q X 1406 [(3000, 0), (9, 0), (10, 0), (15, 0), (0, a4), (0, r264), (1, 0)] [(0, r268)] w267
          refine pv_istore (n := 1408) (L' := [(3000, 0), (9, 0), (10, 0), (15, 0), (0, a4), (0, r264), (0, r268)]) d_L_law_1406 (by decide) rfl rfl ?_
          refine pv_aload_n (n := 1409) d_L_law_1408 rfl rfl rfl ?_
          refine pv_callV (n := 1412) (x := 0) [] [] (con_M_thrown hl0 h) pw_cf8 rfl q_787 q_788 q_789 q_458 q_786 pyo_M_thrown (by decide) rfl rfl (by decide) d_L_law_1409 rfl (fun w269 r270 h _ => ?_) (fun _ _ h => h.elim)
          show pw_V l g cx_L_law Q X 1412 [(3000, 0), (9, 0), (10, 0), (15, 0), (0, a4), (0, r264), (0, r268)] [(0, r270)] w269
          refine pv_iload (n := 1414) d_L_law_1412 rfl rfl ?_
          refine pv_icmp_eq (n := 1417) (tgt := 1419) d_L_law_1414 (by decide) rfl (fun c271 => ?_) (fun c271 => ?_)
          · replace h := h.1 c271
            refine pv_iload (n := 1421) d_L_law_1419 rfl rfl ?_
            refine pv_if_ne (n := 1424) (tgt := 1436) d_L_law_1421 (by decide) rfl (fun c272 => ?_) (fun c272 => ?_)
            · replace h := h.1 c272
              refine pv_goto (tgt := 2321) d_L_law_1436 (by decide) ?_
              refine pv_iinc (v := (a4 + 5)) (n := 2324) (L1 := [(3000, 0), (9, 0), (10, 0), (15, 0), (0, (a4 + 5)), (0, r264), (0, r268)]) d_L_law_2321 rfl rfl rfl (by decide) rfl ?_
              refine pv_goto (tgt := 23) d_L_law_2324 (by decide) ?_
              refine pv_unset (i := 5) (L1 := [(3000, 0), (9, 0), (10, 0), (15, 0), (0, (a4 + 5)), (1, 0), (0, r268)]) rfl ?_
              refine pv_unset (i := 6) (L1 := [(3000, 0), (9, 0), (10, 0), (15, 0), (0, (a4 + 5)), (1, 0), (1, 0)]) rfl ?_
              exact ih _ _ h
            · replace h := h.2 c272
              refine pv_aload_n (n := 1425) d_L_law_1424 rfl rfl rfl ?_
              refine pv_iconst (v := 0) (n := 1426) d_L_law_1425 (by decide) rfl ?_
              obtain ⟨g273, h⟩ := h
              refine pv_lald (n := 1427) (f := 13) (by decide) rfl d_L_law_1426 (by decide) g273 rfl ?_
              refine pv_iload (n := 1429) d_L_law_1427 rfl rfl ?_
              refine pv_i2l (n := 1430) d_L_law_1429 rfl ?_
              refine pv_lcmp (n := 1431) d_L_law_1430 rfl (fun r274 hr => ?_)
              replace h := h r274 hr
              refine pv_if_eq (n := 1434) (tgt := 1436) d_L_law_1431 (by decide) rfl (fun c275 => ?_) (fun c275 => ?_)
              · replace h := h.1 c275
                refine pv_goto (tgt := 2321) d_L_law_1436 (by decide) ?_
                refine pv_iinc (v := (a4 + 5)) (n := 2324) (L1 := [(3000, 0), (9, 0), (10, 0), (15, 0), (0, (a4 + 5)), (0, r264), (0, r268)]) d_L_law_2321 rfl rfl rfl (by decide) rfl ?_
                refine pv_goto (tgt := 23) d_L_law_2324 (by decide) ?_
                refine pv_unset (i := 5) (L1 := [(3000, 0), (9, 0), (10, 0), (15, 0), (0, (a4 + 5)), (1, 0), (0, r268)]) rfl ?_
                refine pv_unset (i := 6) (L1 := [(3000, 0), (9, 0), (10, 0), (15, 0), (0, (a4 + 5)), (1, 0), (1, 0)]) rfl ?_
                exact ih _ _ h
              · replace h := h.2 c275
                refine pv_iconst (v := 0) (n := 1435) d_L_law_1434 (by decide) rfl ?_
                exact pv_zret rfl rfl d_L_law_1435 (by decide) h
          · replace h := h.2 c271
            refine pv_iconst (v := 0) (n := 1418) d_L_law_1417 (by decide) rfl ?_
            exact pv_zret rfl rfl d_L_law_1418 (by decide) h
        · replace hce : v39 = 17 := hce
          replace h := h.2.2.2.2.2.2.2.2.2.2.2.2.2.2.2.2.2.1 hce
          refine pv_tableIn (tgt := 1439) (off := 1400) d_L_law_39 (by rw [hce]; decide) (by rw [hce]; decide) (by rw [hce]; rfl) (by decide) ?_
          refine pv_aload_n (n := 1440) d_L_law_1439 rfl rfl rfl ?_
          refine pv_aload_n (n := 1441) d_L_law_1440 rfl rfl rfl ?_
          refine pv_iload (n := 1443) d_L_law_1441 rfl rfl ?_
          refine pv_iconst (v := 1) (n := 1444) d_L_law_1443 (by decide) rfl ?_
          refine pv_iadd (n := 1445) d_L_law_1444 rfl ?_
          obtain ⟨g276, h⟩ := h
          refine pv_sld (n := 1446) hsc d_L_law_1445 g276 rfl ?_
          refine pv_aload_n (n := 1447) d_L_law_1446 rfl rfl rfl ?_
          refine pv_callSH (n := 1450) [(9, 0), (0, (xs (pw_i (a4 + 1)))), (15, 0)] [] (con_L_pass hl0 h) q_915 q_916 q_795 q_914 pyo_L_pass (by decide) rfl rfl d_L_law_1447 rfl (fun w277 r278 h _ => ?_) (fun _ _ h => h.elim)
          show pw_V l g cx_L_law Q X 1450 [(3000, 0), (9, 0), (10, 0), (15, 0), (0, a4), (1, 0), (1, 0)] [(0, r278)] w277
          refine pv_istore (n := 1452) (L' := [(3000, 0), (9, 0), (10, 0), (15, 0), (0, a4), (0, r278), (1, 0)]) d_L_law_1450 (by decide) rfl rfl ?_
          refine pv_aload_n (n := 1453) d_L_law_1452 rfl rfl rfl ?_
          refine pv_aload_n (n := 1454) d_L_law_1453 rfl rfl rfl ?_
          refine pv_iload (n := 1456) d_L_law_1454 rfl rfl ?_
          refine pv_iconst (v := 1) (n := 1457) d_L_law_1456 (by decide) rfl ?_
          refine pv_iadd (n := 1458) d_L_law_1457 rfl ?_
          obtain ⟨g279, h⟩ := h
          refine pv_sld (n := 1459) hsc d_L_law_1458 g279 rfl ?_
          refine pv_callV (n := 1462) (x := 0) [(0, (xs (pw_i (a4 + 1))))] [] (con_M_pass hl0 h) pw_cf8 rfl q_911 q_912 q_913 q_458 q_910 pyo_M_pass (by decide) rfl rfl (by decide) d_L_law_1459 rfl (fun w280 r281 h _ => ?_) (fun _ _ h => h.elim)
          show pw_V l g cx_L_law Q X 1462 [(3000, 0), (9, 0), (10, 0), (15, 0), (0, a4), (0, r278), (1, 0)] [(0, r281)] w280
          refine pv_istore (n := 1464) (L' := [(3000, 0), (9, 0), (10, 0), (15, 0), (0, a4), (0, r278), (0, r281)]) d_L_law_1462 (by decide) rfl rfl ?_
          refine pv_aload_n (n := 1465) d_L_law_1464 rfl rfl rfl ?_
          refine pv_callV (n := 1468) (x := 0) [] [] (con_M_thrown hl0 h) pw_cf8 rfl q_787 q_788 q_789 q_458 q_786 pyo_M_thrown (by decide) rfl rfl (by decide) d_L_law_1465 rfl (fun w282 r283 h _ => ?_) (fun _ _ h => h.elim)
          show pw_V l g cx_L_law Q X 1468 [(3000, 0), (9, 0), (10, 0), (15, 0), (0, a4), (0, r278), (0, r281)] [(0, r283)] w282
          refine pv_iload (n := 1470) d_L_law_1468 rfl rfl ?_
          refine pv_icmp_eq (n := 1473) (tgt := 1475) d_L_law_1470 (by decide) rfl (fun c284 => ?_) (fun c284 => ?_)
          · replace h := h.1 c284
            refine pv_iload (n := 1477) d_L_law_1475 rfl rfl ?_
            refine pv_if_ne (n := 1480) (tgt := 1492) d_L_law_1477 (by decide) rfl (fun c285 => ?_) (fun c285 => ?_)
            · replace h := h.1 c285
              refine pv_goto (tgt := 2321) d_L_law_1492 (by decide) ?_
              refine pv_iinc (v := (a4 + 5)) (n := 2324) (L1 := [(3000, 0), (9, 0), (10, 0), (15, 0), (0, (a4 + 5)), (0, r278), (0, r281)]) d_L_law_2321 rfl rfl rfl (by decide) rfl ?_
              refine pv_goto (tgt := 23) d_L_law_2324 (by decide) ?_
              refine pv_unset (i := 5) (L1 := [(3000, 0), (9, 0), (10, 0), (15, 0), (0, (a4 + 5)), (1, 0), (0, r281)]) rfl ?_
              refine pv_unset (i := 6) (L1 := [(3000, 0), (9, 0), (10, 0), (15, 0), (0, (a4 + 5)), (1, 0), (1, 0)]) rfl ?_
              exact ih _ _ h
            · replace h := h.2 c285
              refine pv_aload_n (n := 1481) d_L_law_1480 rfl rfl rfl ?_
              refine pv_iconst (v := 0) (n := 1482) d_L_law_1481 (by decide) rfl ?_
              obtain ⟨g286, h⟩ := h
              refine pv_lald (n := 1483) (f := 13) (by decide) rfl d_L_law_1482 (by decide) g286 rfl ?_
              refine pv_iload (n := 1485) d_L_law_1483 rfl rfl ?_
              refine pv_i2l (n := 1486) d_L_law_1485 rfl ?_
              refine pv_lcmp (n := 1487) d_L_law_1486 rfl (fun r287 hr => ?_)
              replace h := h r287 hr
              refine pv_if_eq (n := 1490) (tgt := 1492) d_L_law_1487 (by decide) rfl (fun c288 => ?_) (fun c288 => ?_)
              · replace h := h.1 c288
                refine pv_goto (tgt := 2321) d_L_law_1492 (by decide) ?_
                refine pv_iinc (v := (a4 + 5)) (n := 2324) (L1 := [(3000, 0), (9, 0), (10, 0), (15, 0), (0, (a4 + 5)), (0, r278), (0, r281)]) d_L_law_2321 rfl rfl rfl (by decide) rfl ?_
                refine pv_goto (tgt := 23) d_L_law_2324 (by decide) ?_
                refine pv_unset (i := 5) (L1 := [(3000, 0), (9, 0), (10, 0), (15, 0), (0, (a4 + 5)), (1, 0), (0, r281)]) rfl ?_
                refine pv_unset (i := 6) (L1 := [(3000, 0), (9, 0), (10, 0), (15, 0), (0, (a4 + 5)), (1, 0), (1, 0)]) rfl ?_
                exact ih _ _ h
              · replace h := h.2 c288
                refine pv_iconst (v := 0) (n := 1491) d_L_law_1490 (by decide) rfl ?_
                exact pv_zret rfl rfl d_L_law_1491 (by decide) h
          · replace h := h.2 c284
            refine pv_iconst (v := 0) (n := 1474) d_L_law_1473 (by decide) rfl ?_
            exact pv_zret rfl rfl d_L_law_1474 (by decide) h
        · replace hce : v39 = 18 := hce
          replace h := h.2.2.2.2.2.2.2.2.2.2.2.2.2.2.2.2.2.2.1 hce
          refine pv_tableIn (tgt := 1495) (off := 1456) d_L_law_39 (by rw [hce]; decide) (by rw [hce]; decide) (by rw [hce]; rfl) (by decide) ?_
          refine pv_aload_n (n := 1496) d_L_law_1495 rfl rfl rfl ?_
          refine pv_aload_n (n := 1497) d_L_law_1496 rfl rfl rfl ?_
          refine pv_iload (n := 1499) d_L_law_1497 rfl rfl ?_
          refine pv_iconst (v := 1) (n := 1500) d_L_law_1499 (by decide) rfl ?_
          refine pv_iadd (n := 1501) d_L_law_1500 rfl ?_
          obtain ⟨g289, h⟩ := h
          refine pv_sld (n := 1502) hsc d_L_law_1501 g289 rfl ?_
          refine pv_aload_n (n := 1503) d_L_law_1502 rfl rfl rfl ?_
          refine pv_iload (n := 1505) d_L_law_1503 rfl rfl ?_
          refine pv_iconst (v := 2) (n := 1506) d_L_law_1505 (by decide) rfl ?_
          refine pv_iadd (n := 1507) d_L_law_1506 rfl ?_
          obtain ⟨g290, h⟩ := h
          refine pv_sld (n := 1508) hsc d_L_law_1507 g290 rfl ?_
          refine pv_aload_n (n := 1509) d_L_law_1508 rfl rfl rfl ?_
          refine pv_callSH (n := 1512) [(9, 0), (0, (xs (pw_i (a4 + 1)))), (0, (xs (pw_i (a4 + 2)))), (15, 0)] [] (con_L_name hl0 h) q_922 q_923 q_795 q_921 pyo_L_name (by decide) rfl rfl d_L_law_1509 rfl (fun w291 r292 h _ => ?_) (fun _ _ h => h.elim)
          show pw_V l g cx_L_law Q X 1512 [(3000, 0), (9, 0), (10, 0), (15, 0), (0, a4), (1, 0), (1, 0)] [(0, r292)] w291
          refine pv_istore (n := 1514) (L' := [(3000, 0), (9, 0), (10, 0), (15, 0), (0, a4), (0, r292), (1, 0)]) d_L_law_1512 (by decide) rfl rfl ?_
          refine pv_aload_n (n := 1515) d_L_law_1514 rfl rfl rfl ?_
          refine pv_aload_n (n := 1516) d_L_law_1515 rfl rfl rfl ?_
          refine pv_iload (n := 1518) d_L_law_1516 rfl rfl ?_
          refine pv_iconst (v := 1) (n := 1519) d_L_law_1518 (by decide) rfl ?_
          refine pv_iadd (n := 1520) d_L_law_1519 rfl ?_
          obtain ⟨g293, h⟩ := h
          refine pv_sld (n := 1521) hsc d_L_law_1520 g293 rfl ?_
          refine pv_aload_n (n := 1522) d_L_law_1521 rfl rfl rfl ?_
          refine pv_iload (n := 1524) d_L_law_1522 rfl rfl ?_
          refine pv_iconst (v := 2) (n := 1525) d_L_law_1524 (by decide) rfl ?_
          refine pv_iadd (n := 1526) d_L_law_1525 rfl ?_
          obtain ⟨g294, h⟩ := h
          refine pv_sld (n := 1527) hsc d_L_law_1526 g294 rfl ?_
          refine pv_callV (n := 1530) (x := 0) [(0, (xs (pw_i (a4 + 1)))), (0, (xs (pw_i (a4 + 2))))] [] (con_M_name hl0 h) pw_cf8 rfl q_918 q_919 q_920 q_458 q_917 pyo_M_name (by decide) rfl rfl (by decide) d_L_law_1527 rfl (fun w295 r296 h _ => ?_) (fun _ _ h => h.elim)
          show pw_V l g cx_L_law Q X 1530 [(3000, 0), (9, 0), (10, 0), (15, 0), (0, a4), (0, r292), (1, 0)] [(0, r296)] w295
          refine pv_istore (n := 1532) (L' := [(3000, 0), (9, 0), (10, 0), (15, 0), (0, a4), (0, r292), (0, r296)]) d_L_law_1530 (by decide) rfl rfl ?_
          refine pv_aload_n (n := 1533) d_L_law_1532 rfl rfl rfl ?_
          refine pv_callV (n := 1536) (x := 0) [] [] (con_M_thrown hl0 h) pw_cf8 rfl q_787 q_788 q_789 q_458 q_786 pyo_M_thrown (by decide) rfl rfl (by decide) d_L_law_1533 rfl (fun w297 r298 h _ => ?_) (fun _ _ h => h.elim)
          show pw_V l g cx_L_law Q X 1536 [(3000, 0), (9, 0), (10, 0), (15, 0), (0, a4), (0, r292), (0, r296)] [(0, r298)] w297
          refine pv_iload (n := 1538) d_L_law_1536 rfl rfl ?_
          refine pv_icmp_eq (n := 1541) (tgt := 1543) d_L_law_1538 (by decide) rfl (fun c299 => ?_) (fun c299 => ?_)
          · replace h := h.1 c299
            refine pv_iload (n := 1545) d_L_law_1543 rfl rfl ?_
            refine pv_if_ne (n := 1548) (tgt := 1560) d_L_law_1545 (by decide) rfl (fun c300 => ?_) (fun c300 => ?_)
            · replace h := h.1 c300
              refine pv_goto (tgt := 2321) d_L_law_1560 (by decide) ?_
              refine pv_iinc (v := (a4 + 5)) (n := 2324) (L1 := [(3000, 0), (9, 0), (10, 0), (15, 0), (0, (a4 + 5)), (0, r292), (0, r296)]) d_L_law_2321 rfl rfl rfl (by decide) rfl ?_
              refine pv_goto (tgt := 23) d_L_law_2324 (by decide) ?_
              refine pv_unset (i := 5) (L1 := [(3000, 0), (9, 0), (10, 0), (15, 0), (0, (a4 + 5)), (1, 0), (0, r296)]) rfl ?_
              refine pv_unset (i := 6) (L1 := [(3000, 0), (9, 0), (10, 0), (15, 0), (0, (a4 + 5)), (1, 0), (1, 0)]) rfl ?_
              exact ih _ _ h
            · replace h := h.2 c300
              refine pv_aload_n (n := 1549) d_L_law_1548 rfl rfl rfl ?_
              refine pv_iconst (v := 0) (n := 1550) d_L_law_1549 (by decide) rfl ?_
              obtain ⟨g301, h⟩ := h
              refine pv_lald (n := 1551) (f := 13) (by decide) rfl d_L_law_1550 (by decide) g301 rfl ?_
              refine pv_iload (n := 1553) d_L_law_1551 rfl rfl ?_
              refine pv_i2l (n := 1554) d_L_law_1553 rfl ?_
              refine pv_lcmp (n := 1555) d_L_law_1554 rfl (fun r302 hr => ?_)
              replace h := h r302 hr
              refine pv_if_eq (n := 1558) (tgt := 1560) d_L_law_1555 (by decide) rfl (fun c303 => ?_) (fun c303 => ?_)
              · replace h := h.1 c303
                refine pv_goto (tgt := 2321) d_L_law_1560 (by decide) ?_
                refine pv_iinc (v := (a4 + 5)) (n := 2324) (L1 := [(3000, 0), (9, 0), (10, 0), (15, 0), (0, (a4 + 5)), (0, r292), (0, r296)]) d_L_law_2321 rfl rfl rfl (by decide) rfl ?_
                refine pv_goto (tgt := 23) d_L_law_2324 (by decide) ?_
                refine pv_unset (i := 5) (L1 := [(3000, 0), (9, 0), (10, 0), (15, 0), (0, (a4 + 5)), (1, 0), (0, r296)]) rfl ?_
                refine pv_unset (i := 6) (L1 := [(3000, 0), (9, 0), (10, 0), (15, 0), (0, (a4 + 5)), (1, 0), (1, 0)]) rfl ?_
                exact ih _ _ h
              · replace h := h.2 c303
                refine pv_iconst (v := 0) (n := 1559) d_L_law_1558 (by decide) rfl ?_
                exact pv_zret rfl rfl d_L_law_1559 (by decide) h
          · replace h := h.2 c299
            refine pv_iconst (v := 0) (n := 1542) d_L_law_1541 (by decide) rfl ?_
            exact pv_zret rfl rfl d_L_law_1542 (by decide) h
        · replace hce : v39 = 19 := hce
          replace h := h.2.2.2.2.2.2.2.2.2.2.2.2.2.2.2.2.2.2.2.1 hce
          refine pv_tableIn (tgt := 1563) (off := 1524) d_L_law_39 (by rw [hce]; decide) (by rw [hce]; decide) (by rw [hce]; rfl) (by decide) ?_
          refine pv_aload_n (n := 1564) d_L_law_1563 rfl rfl rfl ?_
          refine pv_aload_n (n := 1565) d_L_law_1564 rfl rfl rfl ?_
          refine pv_iload (n := 1567) d_L_law_1565 rfl rfl ?_
          refine pv_iconst (v := 1) (n := 1568) d_L_law_1567 (by decide) rfl ?_
          refine pv_iadd (n := 1569) d_L_law_1568 rfl ?_
          obtain ⟨g304, h⟩ := h
          refine pv_sld (n := 1570) hsc d_L_law_1569 g304 rfl ?_
          refine pv_aload_n (n := 1571) d_L_law_1570 rfl rfl rfl ?_
          refine pv_callSH (n := 1574) [(9, 0), (0, (xs (pw_i (a4 + 1)))), (15, 0)] [] (con_L_die hl0 h) q_929 q_930 q_795 q_928 pyo_L_die (by decide) rfl rfl d_L_law_1571 rfl (fun w305 r306 h _ => ?_) (fun _ _ h => h.elim)
          show pw_V l g cx_L_law Q X 1574 [(3000, 0), (9, 0), (10, 0), (15, 0), (0, a4), (1, 0), (1, 0)] [(0, r306)] w305
          refine pv_istore (n := 1576) (L' := [(3000, 0), (9, 0), (10, 0), (15, 0), (0, a4), (0, r306), (1, 0)]) d_L_law_1574 (by decide) rfl rfl ?_
          refine pv_aload_n (n := 1577) d_L_law_1576 rfl rfl rfl ?_
          refine pv_aload_n (n := 1578) d_L_law_1577 rfl rfl rfl ?_
          refine pv_iload (n := 1580) d_L_law_1578 rfl rfl ?_
          refine pv_iconst (v := 1) (n := 1581) d_L_law_1580 (by decide) rfl ?_
          refine pv_iadd (n := 1582) d_L_law_1581 rfl ?_
          obtain ⟨g307, h⟩ := h
          refine pv_sld (n := 1583) hsc d_L_law_1582 g307 rfl ?_
          refine pv_callV (n := 1586) (x := 0) [(0, (xs (pw_i (a4 + 1))))] [] (con_M_die hl0 h) pw_cf8 rfl q_925 q_926 q_927 q_458 q_924 pyo_M_die (by decide) rfl rfl (by decide) d_L_law_1583 rfl (fun w308 r309 h _ => ?_) (fun _ _ h => h.elim)
          show pw_V l g cx_L_law Q X 1586 [(3000, 0), (9, 0), (10, 0), (15, 0), (0, a4), (0, r306), (1, 0)] [(0, r309)] w308
          refine pv_istore (n := 1588) (L' := [(3000, 0), (9, 0), (10, 0), (15, 0), (0, a4), (0, r306), (0, r309)]) d_L_law_1586 (by decide) rfl rfl ?_
          refine pv_aload_n (n := 1589) d_L_law_1588 rfl rfl rfl ?_
          refine pv_callV (n := 1592) (x := 0) [] [] (con_M_thrown hl0 h) pw_cf8 rfl q_787 q_788 q_789 q_458 q_786 pyo_M_thrown (by decide) rfl rfl (by decide) d_L_law_1589 rfl (fun w310 r311 h _ => ?_) (fun _ _ h => h.elim)
          show pw_V l g cx_L_law Q X 1592 [(3000, 0), (9, 0), (10, 0), (15, 0), (0, a4), (0, r306), (0, r309)] [(0, r311)] w310
          refine pv_iload (n := 1594) d_L_law_1592 rfl rfl ?_
          refine pv_icmp_eq (n := 1597) (tgt := 1599) d_L_law_1594 (by decide) rfl (fun c312 => ?_) (fun c312 => ?_)
          · replace h := h.1 c312
            refine pv_iload (n := 1601) d_L_law_1599 rfl rfl ?_
            refine pv_if_ne (n := 1604) (tgt := 1616) d_L_law_1601 (by decide) rfl (fun c313 => ?_) (fun c313 => ?_)
            · replace h := h.1 c313
              refine pv_goto (tgt := 2321) d_L_law_1616 (by decide) ?_
              refine pv_iinc (v := (a4 + 5)) (n := 2324) (L1 := [(3000, 0), (9, 0), (10, 0), (15, 0), (0, (a4 + 5)), (0, r306), (0, r309)]) d_L_law_2321 rfl rfl rfl (by decide) rfl ?_
              refine pv_goto (tgt := 23) d_L_law_2324 (by decide) ?_
              refine pv_unset (i := 5) (L1 := [(3000, 0), (9, 0), (10, 0), (15, 0), (0, (a4 + 5)), (1, 0), (0, r309)]) rfl ?_
              refine pv_unset (i := 6) (L1 := [(3000, 0), (9, 0), (10, 0), (15, 0), (0, (a4 + 5)), (1, 0), (1, 0)]) rfl ?_
              exact ih _ _ h
            · replace h := h.2 c313
              refine pv_aload_n (n := 1605) d_L_law_1604 rfl rfl rfl ?_
              refine pv_iconst (v := 0) (n := 1606) d_L_law_1605 (by decide) rfl ?_
              obtain ⟨g314, h⟩ := h
              refine pv_lald (n := 1607) (f := 13) (by decide) rfl d_L_law_1606 (by decide) g314 rfl ?_
              refine pv_iload (n := 1609) d_L_law_1607 rfl rfl ?_
              refine pv_i2l (n := 1610) d_L_law_1609 rfl ?_
              refine pv_lcmp (n := 1611) d_L_law_1610 rfl (fun r315 hr => ?_)
              replace h := h r315 hr
              refine pv_if_eq (n := 1614) (tgt := 1616) d_L_law_1611 (by decide) rfl (fun c316 => ?_) (fun c316 => ?_)
              · replace h := h.1 c316
                refine pv_goto (tgt := 2321) d_L_law_1616 (by decide) ?_
                refine pv_iinc (v := (a4 + 5)) (n := 2324) (L1 := [(3000, 0), (9, 0), (10, 0), (15, 0), (0, (a4 + 5)), (0, r306), (0, r309)]) d_L_law_2321 rfl rfl rfl (by decide) rfl ?_
                refine pv_goto (tgt := 23) d_L_law_2324 (by decide) ?_
                refine pv_unset (i := 5) (L1 := [(3000, 0), (9, 0), (10, 0), (15, 0), (0, (a4 + 5)), (1, 0), (0, r309)]) rfl ?_
                refine pv_unset (i := 6) (L1 := [(3000, 0), (9, 0), (10, 0), (15, 0), (0, (a4 + 5)), (1, 0), (1, 0)]) rfl ?_
                exact ih _ _ h
              · replace h := h.2 c316
                refine pv_iconst (v := 0) (n := 1615) d_L_law_1614 (by decide) rfl ?_
                exact pv_zret rfl rfl d_L_law_1615 (by decide) h
          · replace h := h.2 c312
            refine pv_iconst (v := 0) (n := 1598) d_L_law_1597 (by decide) rfl ?_
            exact pv_zret rfl rfl d_L_law_1598 (by decide) h
        · replace hce : v39 = 20 := hce
          replace h := h.2.2.2.2.2.2.2.2.2.2.2.2.2.2.2.2.2.2.2.2.1 hce
          refine pv_tableIn (tgt := 1619) (off := 1580) d_L_law_39 (by rw [hce]; decide) (by rw [hce]; decide) (by rw [hce]; rfl) (by decide) ?_
          refine pv_aload_n (n := 1620) d_L_law_1619 rfl rfl rfl ?_
          refine pv_callV (n := 1623) (x := 0) [] [] (con_X_today hl0 h) pw_cf7 rfl q_936 q_937 q_938 q_62 q_935 pyo_X_today (by decide) rfl rfl (by decide) d_L_law_1620 rfl (fun w317 r318 h _ => ?_) (fun _ _ h => h.elim)
          show pw_V l g cx_L_law Q X 1623 [(3000, 0), (9, 0), (10, 0), (15, 0), (0, a4), (1, 0), (1, 0)] [(0, r318)] w317
          refine pv_aload_n (n := 1624) d_L_law_1623 rfl rfl rfl ?_
          refine pv_callV (n := 1627) (x := 0) [] [(0, r318)] (con_M_today hl0 h) pw_cf8 rfl q_932 q_933 q_934 q_458 q_931 pyo_M_today (by decide) rfl rfl (by decide) d_L_law_1624 rfl (fun w319 r320 h _ => ?_) (fun _ _ h => h.elim)
          show pw_V l g cx_L_law Q X 1627 [(3000, 0), (9, 0), (10, 0), (15, 0), (0, a4), (1, 0), (1, 0)] [(0, r320), (0, r318)] w319
          refine pv_icmp_eq (n := 1630) (tgt := 2321) d_L_law_1627 (by decide) rfl (fun c321 => ?_) (fun c321 => ?_)
          · replace h := h.1 c321
            refine pv_iinc (v := (a4 + 5)) (n := 2324) (L1 := [(3000, 0), (9, 0), (10, 0), (15, 0), (0, (a4 + 5)), (1, 0), (1, 0)]) d_L_law_2321 rfl rfl rfl (by decide) rfl ?_
            refine pv_goto (tgt := 23) d_L_law_2324 (by decide) ?_
            exact ih _ _ h
          · replace h := h.2 c321
            refine pv_iconst (v := 0) (n := 1631) d_L_law_1630 (by decide) rfl ?_
            exact pv_zret rfl rfl d_L_law_1631 (by decide) h
        · replace hce : v39 = 21 := hce
          replace h := h.2.2.2.2.2.2.2.2.2.2.2.2.2.2.2.2.2.2.2.2.2.1 hce
          refine pv_tableIn (tgt := 1632) (off := 1593) d_L_law_39 (by rw [hce]; decide) (by rw [hce]; decide) (by rw [hce]; rfl) (by decide) ?_
          refine pv_aload_n (n := 1633) d_L_law_1632 rfl rfl rfl ?_
          refine pv_callV (n := 1636) (x := 0) [] [] (con_X_parcels hl0 h) pw_cf7 rfl q_944 q_945 q_946 q_62 q_943 pyo_X_parcels (by decide) rfl rfl (by decide) d_L_law_1633 rfl (fun w322 r323 h _ => ?_) (fun _ _ h => h.elim)
          show pw_V l g cx_L_law Q X 1636 [(3000, 0), (9, 0), (10, 0), (15, 0), (0, a4), (1, 0), (1, 0)] [(0, r323)] w322
          refine pv_aload_n (n := 1637) d_L_law_1636 rfl rfl rfl ?_
          refine pv_callV (n := 1640) (x := 0) [] [(0, r323)] (con_M_parcels hl0 h) pw_cf8 rfl q_940 q_941 q_942 q_458 q_939 pyo_M_parcels (by decide) rfl rfl (by decide) d_L_law_1637 rfl (fun w324 r325 h _ => ?_) (fun _ _ h => h.elim)
          show pw_V l g cx_L_law Q X 1640 [(3000, 0), (9, 0), (10, 0), (15, 0), (0, a4), (1, 0), (1, 0)] [(0, r325), (0, r323)] w324
          refine pv_icmp_eq (n := 1643) (tgt := 2321) d_L_law_1640 (by decide) rfl (fun c326 => ?_) (fun c326 => ?_)
          · replace h := h.1 c326
            refine pv_iinc (v := (a4 + 5)) (n := 2324) (L1 := [(3000, 0), (9, 0), (10, 0), (15, 0), (0, (a4 + 5)), (1, 0), (1, 0)]) d_L_law_2321 rfl rfl rfl (by decide) rfl ?_
            refine pv_goto (tgt := 23) d_L_law_2324 (by decide) ?_
            exact ih _ _ h
          · replace h := h.2 c326
            refine pv_iconst (v := 0) (n := 1644) d_L_law_1643 (by decide) rfl ?_
            exact pv_zret rfl rfl d_L_law_1644 (by decide) h
        · replace hce : v39 = 22 := hce
          replace h := h.2.2.2.2.2.2.2.2.2.2.2.2.2.2.2.2.2.2.2.2.2.2.1 hce
          refine pv_tableIn (tgt := 1645) (off := 1606) d_L_law_39 (by rw [hce]; decide) (by rw [hce]; decide) (by rw [hce]; rfl) (by decide) ?_
          refine pv_aload_n (n := 1646) d_L_law_1645 rfl rfl rfl ?_
          refine pv_aload_n (n := 1647) d_L_law_1646 rfl rfl rfl ?_
          refine pv_iload (n := 1649) d_L_law_1647 rfl rfl ?_
          refine pv_iconst (v := 1) (n := 1650) d_L_law_1649 (by decide) rfl ?_
          refine pv_iadd (n := 1651) d_L_law_1650 rfl ?_
          obtain ⟨g327, h⟩ := h
          refine pv_sld (n := 1652) hsc d_L_law_1651 g327 rfl ?_
          refine pv_aload_n (n := 1653) d_L_law_1652 rfl rfl rfl ?_
          refine pv_callSH (n := 1656) [(9, 0), (0, (xs (pw_i (a4 + 1)))), (15, 0)] [] (con_L_parcelOf hl0 h) q_952 q_953 q_795 q_951 pyo_L_parcelOf (by decide) rfl rfl d_L_law_1653 rfl (fun w328 r329 h _ => ?_) (fun _ _ h => h.elim)
          show pw_V l g cx_L_law Q X 1656 [(3000, 0), (9, 0), (10, 0), (15, 0), (0, a4), (1, 0), (1, 0)] [(0, r329)] w328
          refine pv_istore (n := 1658) (L' := [(3000, 0), (9, 0), (10, 0), (15, 0), (0, a4), (0, r329), (1, 0)]) d_L_law_1656 (by decide) rfl rfl ?_
          refine pv_aload_n (n := 1659) d_L_law_1658 rfl rfl rfl ?_
          refine pv_aload_n (n := 1660) d_L_law_1659 rfl rfl rfl ?_
          refine pv_iload (n := 1662) d_L_law_1660 rfl rfl ?_
          refine pv_iconst (v := 1) (n := 1663) d_L_law_1662 (by decide) rfl ?_
          refine pv_iadd (n := 1664) d_L_law_1663 rfl ?_
          obtain ⟨g330, h⟩ := h
          refine pv_sld (n := 1665) hsc d_L_law_1664 g330 rfl ?_
          refine pv_callV (n := 1668) (x := 0) [(0, (xs (pw_i (a4 + 1))))] [] (con_M_parcelOf hl0 h) pw_cf8 rfl q_948 q_949 q_950 q_458 q_947 pyo_M_parcelOf (by decide) rfl rfl (by decide) d_L_law_1665 rfl (fun w331 r332 h _ => ?_) (fun _ _ h => h.elim)
          show pw_V l g cx_L_law Q X 1668 [(3000, 0), (9, 0), (10, 0), (15, 0), (0, a4), (0, r329), (1, 0)] [(0, r332)] w331
          refine pv_istore (n := 1670) (L' := [(3000, 0), (9, 0), (10, 0), (15, 0), (0, a4), (0, r329), (0, r332)]) d_L_law_1668 (by decide) rfl rfl ?_
          refine pv_aload_n (n := 1671) d_L_law_1670 rfl rfl rfl ?_
          refine pv_callV (n := 1674) (x := 0) [] [] (con_M_thrown hl0 h) pw_cf8 rfl q_787 q_788 q_789 q_458 q_786 pyo_M_thrown (by decide) rfl rfl (by decide) d_L_law_1671 rfl (fun w333 r334 h _ => ?_) (fun _ _ h => h.elim)
          show pw_V l g cx_L_law Q X 1674 [(3000, 0), (9, 0), (10, 0), (15, 0), (0, a4), (0, r329), (0, r332)] [(0, r334)] w333
          refine pv_iload (n := 1676) d_L_law_1674 rfl rfl ?_
          refine pv_icmp_eq (n := 1679) (tgt := 1681) d_L_law_1676 (by decide) rfl (fun c335 => ?_) (fun c335 => ?_)
          · replace h := h.1 c335
            refine pv_iload (n := 1683) d_L_law_1681 rfl rfl ?_
            refine pv_if_ne (n := 1686) (tgt := 1698) d_L_law_1683 (by decide) rfl (fun c336 => ?_) (fun c336 => ?_)
            · replace h := h.1 c336
              refine pv_goto (tgt := 2321) d_L_law_1698 (by decide) ?_
              refine pv_iinc (v := (a4 + 5)) (n := 2324) (L1 := [(3000, 0), (9, 0), (10, 0), (15, 0), (0, (a4 + 5)), (0, r329), (0, r332)]) d_L_law_2321 rfl rfl rfl (by decide) rfl ?_
              refine pv_goto (tgt := 23) d_L_law_2324 (by decide) ?_
              refine pv_unset (i := 5) (L1 := [(3000, 0), (9, 0), (10, 0), (15, 0), (0, (a4 + 5)), (1, 0), (0, r332)]) rfl ?_
              refine pv_unset (i := 6) (L1 := [(3000, 0), (9, 0), (10, 0), (15, 0), (0, (a4 + 5)), (1, 0), (1, 0)]) rfl ?_
              exact ih _ _ h
            · replace h := h.2 c336
              refine pv_aload_n (n := 1687) d_L_law_1686 rfl rfl rfl ?_
              refine pv_iconst (v := 0) (n := 1688) d_L_law_1687 (by decide) rfl ?_
              obtain ⟨g337, h⟩ := h
              refine pv_lald (n := 1689) (f := 13) (by decide) rfl d_L_law_1688 (by decide) g337 rfl ?_
              refine pv_iload (n := 1691) d_L_law_1689 rfl rfl ?_
              refine pv_i2l (n := 1692) d_L_law_1691 rfl ?_
              refine pv_lcmp (n := 1693) d_L_law_1692 rfl (fun r338 hr => ?_)
              replace h := h r338 hr
              refine pv_if_eq (n := 1696) (tgt := 1698) d_L_law_1693 (by decide) rfl (fun c339 => ?_) (fun c339 => ?_)
              · replace h := h.1 c339
                refine pv_goto (tgt := 2321) d_L_law_1698 (by decide) ?_
                refine pv_iinc (v := (a4 + 5)) (n := 2324) (L1 := [(3000, 0), (9, 0), (10, 0), (15, 0), (0, (a4 + 5)), (0, r329), (0, r332)]) d_L_law_2321 rfl rfl rfl (by decide) rfl ?_
                refine pv_goto (tgt := 23) d_L_law_2324 (by decide) ?_
                refine pv_unset (i := 5) (L1 := [(3000, 0), (9, 0), (10, 0), (15, 0), (0, (a4 + 5)), (1, 0), (0, r332)]) rfl ?_
                refine pv_unset (i := 6) (L1 := [(3000, 0), (9, 0), (10, 0), (15, 0), (0, (a4 + 5)), (1, 0), (1, 0)]) rfl ?_
                exact ih _ _ h
              · replace h := h.2 c339
                refine pv_iconst (v := 0) (n := 1697) d_L_law_1696 (by decide) rfl ?_
                exact pv_zret rfl rfl d_L_law_1697 (by decide) h
          · replace h := h.2 c335
            refine pv_iconst (v := 0) (n := 1680) d_L_law_1679 (by decide) rfl ?_
            exact pv_zret rfl rfl d_L_law_1680 (by decide) h
        · replace hce : v39 = 23 := hce
          replace h := h.2.2.2.2.2.2.2.2.2.2.2.2.2.2.2.2.2.2.2.2.2.2.2.1 hce
          refine pv_tableIn (tgt := 1701) (off := 1662) d_L_law_39 (by rw [hce]; decide) (by rw [hce]; decide) (by rw [hce]; rfl) (by decide) ?_
          refine pv_aload_n (n := 1702) d_L_law_1701 rfl rfl rfl ?_
          refine pv_aload_n (n := 1703) d_L_law_1702 rfl rfl rfl ?_
          refine pv_iload (n := 1705) d_L_law_1703 rfl rfl ?_
          refine pv_iconst (v := 1) (n := 1706) d_L_law_1705 (by decide) rfl ?_
          refine pv_iadd (n := 1707) d_L_law_1706 rfl ?_
          obtain ⟨g340, h⟩ := h
          refine pv_sld (n := 1708) hsc d_L_law_1707 g340 rfl ?_
          refine pv_aload_n (n := 1709) d_L_law_1708 rfl rfl rfl ?_
          refine pv_iload (n := 1711) d_L_law_1709 rfl rfl ?_
          refine pv_iconst (v := 2) (n := 1712) d_L_law_1711 (by decide) rfl ?_
          refine pv_iadd (n := 1713) d_L_law_1712 rfl ?_
          obtain ⟨g341, h⟩ := h
          refine pv_sld (n := 1714) hsc d_L_law_1713 g341 rfl ?_
          refine pv_aload_n (n := 1715) d_L_law_1714 rfl rfl rfl ?_
          refine pv_callSH (n := 1718) [(9, 0), (0, (xs (pw_i (a4 + 1)))), (0, (xs (pw_i (a4 + 2)))), (15, 0)] [] (con_L_chain hl0 h) q_959 q_960 q_795 q_958 pyo_L_chain (by decide) rfl rfl d_L_law_1715 rfl (fun w342 r343 h _ => ?_) (fun _ _ h => h.elim)
          show pw_V l g cx_L_law Q X 1718 [(3000, 0), (9, 0), (10, 0), (15, 0), (0, a4), (1, 0), (1, 0)] [(0, r343)] w342
          refine pv_istore (n := 1720) (L' := [(3000, 0), (9, 0), (10, 0), (15, 0), (0, a4), (0, r343), (1, 0)]) d_L_law_1718 (by decide) rfl rfl ?_
          refine pv_aload_n (n := 1721) d_L_law_1720 rfl rfl rfl ?_
          refine pv_aload_n (n := 1722) d_L_law_1721 rfl rfl rfl ?_
          refine pv_iload (n := 1724) d_L_law_1722 rfl rfl ?_
          refine pv_iconst (v := 1) (n := 1725) d_L_law_1724 (by decide) rfl ?_
          refine pv_iadd (n := 1726) d_L_law_1725 rfl ?_
          obtain ⟨g344, h⟩ := h
          refine pv_sld (n := 1727) hsc d_L_law_1726 g344 rfl ?_
          refine pv_aload_n (n := 1728) d_L_law_1727 rfl rfl rfl ?_
          refine pv_iload (n := 1730) d_L_law_1728 rfl rfl ?_
          refine pv_iconst (v := 2) (n := 1731) d_L_law_1730 (by decide) rfl ?_
          refine pv_iadd (n := 1732) d_L_law_1731 rfl ?_
          obtain ⟨g345, h⟩ := h
          refine pv_sld (n := 1733) hsc d_L_law_1732 g345 rfl ?_
          refine pv_callV (n := 1736) (x := 0) [(0, (xs (pw_i (a4 + 1)))), (0, (xs (pw_i (a4 + 2))))] [] (con_M_chain hl0 h) pw_cf8 rfl q_955 q_956 q_957 q_458 q_954 pyo_M_chain (by decide) rfl rfl (by decide) d_L_law_1733 rfl (fun w346 r347 h _ => ?_) (fun _ _ h => h.elim)
          show pw_V l g cx_L_law Q X 1736 [(3000, 0), (9, 0), (10, 0), (15, 0), (0, a4), (0, r343), (1, 0)] [(0, r347)] w346
          refine pv_istore (n := 1738) (L' := [(3000, 0), (9, 0), (10, 0), (15, 0), (0, a4), (0, r343), (0, r347)]) d_L_law_1736 (by decide) rfl rfl ?_
          refine pv_aload_n (n := 1739) d_L_law_1738 rfl rfl rfl ?_
          refine pv_callV (n := 1742) (x := 0) [] [] (con_M_thrown hl0 h) pw_cf8 rfl q_787 q_788 q_789 q_458 q_786 pyo_M_thrown (by decide) rfl rfl (by decide) d_L_law_1739 rfl (fun w348 r349 h _ => ?_) (fun _ _ h => h.elim)
          show pw_V l g cx_L_law Q X 1742 [(3000, 0), (9, 0), (10, 0), (15, 0), (0, a4), (0, r343), (0, r347)] [(0, r349)] w348
          refine pv_iload (n := 1744) d_L_law_1742 rfl rfl ?_
          refine pv_icmp_eq (n := 1747) (tgt := 1749) d_L_law_1744 (by decide) rfl (fun c350 => ?_) (fun c350 => ?_)
          · replace h := h.1 c350
            refine pv_iload (n := 1751) d_L_law_1749 rfl rfl ?_
            refine pv_if_ne (n := 1754) (tgt := 1766) d_L_law_1751 (by decide) rfl (fun c351 => ?_) (fun c351 => ?_)
            · replace h := h.1 c351
              refine pv_goto (tgt := 2321) d_L_law_1766 (by decide) ?_
              refine pv_iinc (v := (a4 + 5)) (n := 2324) (L1 := [(3000, 0), (9, 0), (10, 0), (15, 0), (0, (a4 + 5)), (0, r343), (0, r347)]) d_L_law_2321 rfl rfl rfl (by decide) rfl ?_
              refine pv_goto (tgt := 23) d_L_law_2324 (by decide) ?_
              refine pv_unset (i := 5) (L1 := [(3000, 0), (9, 0), (10, 0), (15, 0), (0, (a4 + 5)), (1, 0), (0, r347)]) rfl ?_
              refine pv_unset (i := 6) (L1 := [(3000, 0), (9, 0), (10, 0), (15, 0), (0, (a4 + 5)), (1, 0), (1, 0)]) rfl ?_
              exact ih _ _ h
            · replace h := h.2 c351
              refine pv_aload_n (n := 1755) d_L_law_1754 rfl rfl rfl ?_
              refine pv_iconst (v := 0) (n := 1756) d_L_law_1755 (by decide) rfl ?_
              obtain ⟨g352, h⟩ := h
              refine pv_lald (n := 1757) (f := 13) (by decide) rfl d_L_law_1756 (by decide) g352 rfl ?_
              refine pv_iload (n := 1759) d_L_law_1757 rfl rfl ?_
              refine pv_i2l (n := 1760) d_L_law_1759 rfl ?_
              refine pv_lcmp (n := 1761) d_L_law_1760 rfl (fun r353 hr => ?_)
              replace h := h r353 hr
              refine pv_if_eq (n := 1764) (tgt := 1766) d_L_law_1761 (by decide) rfl (fun c354 => ?_) (fun c354 => ?_)
              · replace h := h.1 c354
                refine pv_goto (tgt := 2321) d_L_law_1766 (by decide) ?_
                refine pv_iinc (v := (a4 + 5)) (n := 2324) (L1 := [(3000, 0), (9, 0), (10, 0), (15, 0), (0, (a4 + 5)), (0, r343), (0, r347)]) d_L_law_2321 rfl rfl rfl (by decide) rfl ?_
                refine pv_goto (tgt := 23) d_L_law_2324 (by decide) ?_
                refine pv_unset (i := 5) (L1 := [(3000, 0), (9, 0), (10, 0), (15, 0), (0, (a4 + 5)), (1, 0), (0, r347)]) rfl ?_
                refine pv_unset (i := 6) (L1 := [(3000, 0), (9, 0), (10, 0), (15, 0), (0, (a4 + 5)), (1, 0), (1, 0)]) rfl ?_
                exact ih _ _ h
              · replace h := h.2 c354
                refine pv_iconst (v := 0) (n := 1765) d_L_law_1764 (by decide) rfl ?_
                exact pv_zret rfl rfl d_L_law_1765 (by decide) h
          · replace h := h.2 c350
            refine pv_iconst (v := 0) (n := 1748) d_L_law_1747 (by decide) rfl ?_
            exact pv_zret rfl rfl d_L_law_1748 (by decide) h
        · replace hce : v39 = 24 := hce
          replace h := h.2.2.2.2.2.2.2.2.2.2.2.2.2.2.2.2.2.2.2.2.2.2.2.2.1 hce
          refine pv_tableIn (tgt := 1769) (off := 1730) d_L_law_39 (by rw [hce]; decide) (by rw [hce]; decide) (by rw [hce]; rfl) (by decide) ?_
          refine pv_aload_n (n := 1770) d_L_law_1769 rfl rfl rfl ?_
          refine pv_aload_n (n := 1771) d_L_law_1770 rfl rfl rfl ?_
          refine pv_iload (n := 1773) d_L_law_1771 rfl rfl ?_
          refine pv_iconst (v := 1) (n := 1774) d_L_law_1773 (by decide) rfl ?_
          refine pv_iadd (n := 1775) d_L_law_1774 rfl ?_
          obtain ⟨g355, h⟩ := h
          refine pv_sld (n := 1776) hsc d_L_law_1775 g355 rfl ?_
          refine pv_aload_n (n := 1777) d_L_law_1776 rfl rfl rfl ?_
          refine pv_callSH (n := 1780) [(9, 0), (0, (xs (pw_i (a4 + 1)))), (15, 0)] [] (con_L_area hl0 h) q_966 q_967 q_795 q_965 pyo_L_area (by decide) rfl rfl d_L_law_1777 rfl (fun w356 r357 h _ => ?_) (fun _ _ h => h.elim)
          show pw_V l g cx_L_law Q X 1780 [(3000, 0), (9, 0), (10, 0), (15, 0), (0, a4), (1, 0), (1, 0)] [(0, r357)] w356
          refine pv_istore (n := 1782) (L' := [(3000, 0), (9, 0), (10, 0), (15, 0), (0, a4), (0, r357), (1, 0)]) d_L_law_1780 (by decide) rfl rfl ?_
          refine pv_aload_n (n := 1783) d_L_law_1782 rfl rfl rfl ?_
          refine pv_aload_n (n := 1784) d_L_law_1783 rfl rfl rfl ?_
          refine pv_iload (n := 1786) d_L_law_1784 rfl rfl ?_
          refine pv_iconst (v := 1) (n := 1787) d_L_law_1786 (by decide) rfl ?_
          refine pv_iadd (n := 1788) d_L_law_1787 rfl ?_
          obtain ⟨g358, h⟩ := h
          refine pv_sld (n := 1789) hsc d_L_law_1788 g358 rfl ?_
          refine pv_callV (n := 1792) (x := 0) [(0, (xs (pw_i (a4 + 1))))] [] (con_M_area hl0 h) pw_cf8 rfl q_962 q_963 q_964 q_458 q_961 pyo_M_area (by decide) rfl rfl (by decide) d_L_law_1789 rfl (fun w359 r360 h _ => ?_) (fun _ _ h => h.elim)
          show pw_V l g cx_L_law Q X 1792 [(3000, 0), (9, 0), (10, 0), (15, 0), (0, a4), (0, r357), (1, 0)] [(0, r360)] w359
          refine pv_istore (n := 1794) (L' := [(3000, 0), (9, 0), (10, 0), (15, 0), (0, a4), (0, r357), (0, r360)]) d_L_law_1792 (by decide) rfl rfl ?_
          refine pv_aload_n (n := 1795) d_L_law_1794 rfl rfl rfl ?_
          refine pv_callV (n := 1798) (x := 0) [] [] (con_M_thrown hl0 h) pw_cf8 rfl q_787 q_788 q_789 q_458 q_786 pyo_M_thrown (by decide) rfl rfl (by decide) d_L_law_1795 rfl (fun w361 r362 h _ => ?_) (fun _ _ h => h.elim)
          show pw_V l g cx_L_law Q X 1798 [(3000, 0), (9, 0), (10, 0), (15, 0), (0, a4), (0, r357), (0, r360)] [(0, r362)] w361
          refine pv_iload (n := 1800) d_L_law_1798 rfl rfl ?_
          refine pv_icmp_eq (n := 1803) (tgt := 1805) d_L_law_1800 (by decide) rfl (fun c363 => ?_) (fun c363 => ?_)
          · replace h := h.1 c363
            refine pv_iload (n := 1807) d_L_law_1805 rfl rfl ?_
            refine pv_if_ne (n := 1810) (tgt := 1822) d_L_law_1807 (by decide) rfl (fun c364 => ?_) (fun c364 => ?_)
            · replace h := h.1 c364
              refine pv_goto (tgt := 2321) d_L_law_1822 (by decide) ?_
              refine pv_iinc (v := (a4 + 5)) (n := 2324) (L1 := [(3000, 0), (9, 0), (10, 0), (15, 0), (0, (a4 + 5)), (0, r357), (0, r360)]) d_L_law_2321 rfl rfl rfl (by decide) rfl ?_
              refine pv_goto (tgt := 23) d_L_law_2324 (by decide) ?_
              refine pv_unset (i := 5) (L1 := [(3000, 0), (9, 0), (10, 0), (15, 0), (0, (a4 + 5)), (1, 0), (0, r360)]) rfl ?_
              refine pv_unset (i := 6) (L1 := [(3000, 0), (9, 0), (10, 0), (15, 0), (0, (a4 + 5)), (1, 0), (1, 0)]) rfl ?_
              exact ih _ _ h
            · replace h := h.2 c364
              refine pv_aload_n (n := 1811) d_L_law_1810 rfl rfl rfl ?_
              refine pv_iconst (v := 0) (n := 1812) d_L_law_1811 (by decide) rfl ?_
              obtain ⟨g365, h⟩ := h
              refine pv_lald (n := 1813) (f := 13) (by decide) rfl d_L_law_1812 (by decide) g365 rfl ?_
              refine pv_iload (n := 1815) d_L_law_1813 rfl rfl ?_
              refine pv_i2l (n := 1816) d_L_law_1815 rfl ?_
              refine pv_lcmp (n := 1817) d_L_law_1816 rfl (fun r366 hr => ?_)
              replace h := h r366 hr
              refine pv_if_eq (n := 1820) (tgt := 1822) d_L_law_1817 (by decide) rfl (fun c367 => ?_) (fun c367 => ?_)
              · replace h := h.1 c367
                refine pv_goto (tgt := 2321) d_L_law_1822 (by decide) ?_
                refine pv_iinc (v := (a4 + 5)) (n := 2324) (L1 := [(3000, 0), (9, 0), (10, 0), (15, 0), (0, (a4 + 5)), (0, r357), (0, r360)]) d_L_law_2321 rfl rfl rfl (by decide) rfl ?_
                refine pv_goto (tgt := 23) d_L_law_2324 (by decide) ?_
                refine pv_unset (i := 5) (L1 := [(3000, 0), (9, 0), (10, 0), (15, 0), (0, (a4 + 5)), (1, 0), (0, r360)]) rfl ?_
                refine pv_unset (i := 6) (L1 := [(3000, 0), (9, 0), (10, 0), (15, 0), (0, (a4 + 5)), (1, 0), (1, 0)]) rfl ?_
                exact ih _ _ h
              · replace h := h.2 c367
                refine pv_iconst (v := 0) (n := 1821) d_L_law_1820 (by decide) rfl ?_
                exact pv_zret rfl rfl d_L_law_1821 (by decide) h
          · replace h := h.2 c363
            refine pv_iconst (v := 0) (n := 1804) d_L_law_1803 (by decide) rfl ?_
            exact pv_zret rfl rfl d_L_law_1804 (by decide) h
        · replace hce : v39 = 25 := hce
          replace h := h.2.2.2.2.2.2.2.2.2.2.2.2.2.2.2.2.2.2.2.2.2.2.2.2.2.1 hce
          refine pv_tableIn (tgt := 1825) (off := 1786) d_L_law_39 (by rw [hce]; decide) (by rw [hce]; decide) (by rw [hce]; rfl) (by decide) ?_
          refine pv_aload_n (n := 1826) d_L_law_1825 rfl rfl rfl ?_
          refine pv_aload_n (n := 1827) d_L_law_1826 rfl rfl rfl ?_
          refine pv_iload (n := 1829) d_L_law_1827 rfl rfl ?_
          refine pv_iconst (v := 1) (n := 1830) d_L_law_1829 (by decide) rfl ?_
          refine pv_iadd (n := 1831) d_L_law_1830 rfl ?_
          obtain ⟨g368, h⟩ := h
          refine pv_sld (n := 1832) hsc d_L_law_1831 g368 rfl ?_
          refine pv_aload_n (n := 1833) d_L_law_1832 rfl rfl rfl ?_
          refine pv_callSH (n := 1836) [(9, 0), (0, (xs (pw_i (a4 + 1)))), (15, 0)] [] (con_L_owner hl0 h) q_973 q_974 q_795 q_972 pyo_L_owner (by decide) rfl rfl d_L_law_1833 rfl (fun w369 r370 h _ => ?_) (fun _ _ h => h.elim)
          show pw_V l g cx_L_law Q X 1836 [(3000, 0), (9, 0), (10, 0), (15, 0), (0, a4), (1, 0), (1, 0)] [(0, r370)] w369
          refine pv_istore (n := 1838) (L' := [(3000, 0), (9, 0), (10, 0), (15, 0), (0, a4), (0, r370), (1, 0)]) d_L_law_1836 (by decide) rfl rfl ?_
          refine pv_aload_n (n := 1839) d_L_law_1838 rfl rfl rfl ?_
          refine pv_aload_n (n := 1840) d_L_law_1839 rfl rfl rfl ?_
          refine pv_iload (n := 1842) d_L_law_1840 rfl rfl ?_
          refine pv_iconst (v := 1) (n := 1843) d_L_law_1842 (by decide) rfl ?_
          refine pv_iadd (n := 1844) d_L_law_1843 rfl ?_
          obtain ⟨g371, h⟩ := h
          refine pv_sld (n := 1845) hsc d_L_law_1844 g371 rfl ?_
          refine pv_callV (n := 1848) (x := 0) [(0, (xs (pw_i (a4 + 1))))] [] (con_M_owner hl0 h) pw_cf8 rfl q_969 q_970 q_971 q_458 q_968 pyo_M_owner (by decide) rfl rfl (by decide) d_L_law_1845 rfl (fun w372 r373 h _ => ?_) (fun _ _ h => h.elim)
          show pw_V l g cx_L_law Q X 1848 [(3000, 0), (9, 0), (10, 0), (15, 0), (0, a4), (0, r370), (1, 0)] [(0, r373)] w372
          refine pv_istore (n := 1850) (L' := [(3000, 0), (9, 0), (10, 0), (15, 0), (0, a4), (0, r370), (0, r373)]) d_L_law_1848 (by decide) rfl rfl ?_
          refine pv_aload_n (n := 1851) d_L_law_1850 rfl rfl rfl ?_
          refine pv_callV (n := 1854) (x := 0) [] [] (con_M_thrown hl0 h) pw_cf8 rfl q_787 q_788 q_789 q_458 q_786 pyo_M_thrown (by decide) rfl rfl (by decide) d_L_law_1851 rfl (fun w374 r375 h _ => ?_) (fun _ _ h => h.elim)
          show pw_V l g cx_L_law Q X 1854 [(3000, 0), (9, 0), (10, 0), (15, 0), (0, a4), (0, r370), (0, r373)] [(0, r375)] w374
          refine pv_iload (n := 1856) d_L_law_1854 rfl rfl ?_
          refine pv_icmp_eq (n := 1859) (tgt := 1861) d_L_law_1856 (by decide) rfl (fun c376 => ?_) (fun c376 => ?_)
          · replace h := h.1 c376
            refine pv_iload (n := 1863) d_L_law_1861 rfl rfl ?_
            refine pv_if_ne (n := 1866) (tgt := 1878) d_L_law_1863 (by decide) rfl (fun c377 => ?_) (fun c377 => ?_)
            · replace h := h.1 c377
              refine pv_goto (tgt := 2321) d_L_law_1878 (by decide) ?_
              refine pv_iinc (v := (a4 + 5)) (n := 2324) (L1 := [(3000, 0), (9, 0), (10, 0), (15, 0), (0, (a4 + 5)), (0, r370), (0, r373)]) d_L_law_2321 rfl rfl rfl (by decide) rfl ?_
              refine pv_goto (tgt := 23) d_L_law_2324 (by decide) ?_
              refine pv_unset (i := 5) (L1 := [(3000, 0), (9, 0), (10, 0), (15, 0), (0, (a4 + 5)), (1, 0), (0, r373)]) rfl ?_
              refine pv_unset (i := 6) (L1 := [(3000, 0), (9, 0), (10, 0), (15, 0), (0, (a4 + 5)), (1, 0), (1, 0)]) rfl ?_
              exact ih _ _ h
            · replace h := h.2 c377
              refine pv_aload_n (n := 1867) d_L_law_1866 rfl rfl rfl ?_
              refine pv_iconst (v := 0) (n := 1868) d_L_law_1867 (by decide) rfl ?_
              obtain ⟨g378, h⟩ := h
              refine pv_lald (n := 1869) (f := 13) (by decide) rfl d_L_law_1868 (by decide) g378 rfl ?_
              refine pv_iload (n := 1871) d_L_law_1869 rfl rfl ?_
              refine pv_i2l (n := 1872) d_L_law_1871 rfl ?_
              refine pv_lcmp (n := 1873) d_L_law_1872 rfl (fun r379 hr => ?_)
              replace h := h r379 hr
              refine pv_if_eq (n := 1876) (tgt := 1878) d_L_law_1873 (by decide) rfl (fun c380 => ?_) (fun c380 => ?_)
              · replace h := h.1 c380
                refine pv_goto (tgt := 2321) d_L_law_1878 (by decide) ?_
                refine pv_iinc (v := (a4 + 5)) (n := 2324) (L1 := [(3000, 0), (9, 0), (10, 0), (15, 0), (0, (a4 + 5)), (0, r370), (0, r373)]) d_L_law_2321 rfl rfl rfl (by decide) rfl ?_
                refine pv_goto (tgt := 23) d_L_law_2324 (by decide) ?_
                refine pv_unset (i := 5) (L1 := [(3000, 0), (9, 0), (10, 0), (15, 0), (0, (a4 + 5)), (1, 0), (0, r373)]) rfl ?_
                refine pv_unset (i := 6) (L1 := [(3000, 0), (9, 0), (10, 0), (15, 0), (0, (a4 + 5)), (1, 0), (1, 0)]) rfl ?_
                exact ih _ _ h
              · replace h := h.2 c380
                refine pv_iconst (v := 0) (n := 1877) d_L_law_1876 (by decide) rfl ?_
                exact pv_zret rfl rfl d_L_law_1877 (by decide) h
          · replace h := h.2 c376
            refine pv_iconst (v := 0) (n := 1860) d_L_law_1859 (by decide) rfl ?_
            exact pv_zret rfl rfl d_L_law_1860 (by decide) h
        · replace hce : v39 = 26 := hce
          replace h := h.2.2.2.2.2.2.2.2.2.2.2.2.2.2.2.2.2.2.2.2.2.2.2.2.2.2.1 hce
          refine pv_tableIn (tgt := 1881) (off := 1842) d_L_law_39 (by rw [hce]; decide) (by rw [hce]; decide) (by rw [hce]; rfl) (by decide) ?_
          refine pv_aload_n (n := 1882) d_L_law_1881 rfl rfl rfl ?_
          refine pv_aload_n (n := 1883) d_L_law_1882 rfl rfl rfl ?_
          refine pv_iload (n := 1885) d_L_law_1883 rfl rfl ?_
          refine pv_iconst (v := 1) (n := 1886) d_L_law_1885 (by decide) rfl ?_
          refine pv_iadd (n := 1887) d_L_law_1886 rfl ?_
          obtain ⟨g381, h⟩ := h
          refine pv_sld (n := 1888) hsc d_L_law_1887 g381 rfl ?_
          refine pv_aload_n (n := 1889) d_L_law_1888 rfl rfl rfl ?_
          refine pv_callSH (n := 1892) [(9, 0), (0, (xs (pw_i (a4 + 1)))), (15, 0)] [] (con_L_disputed hl0 h) q_980 q_981 q_795 q_979 pyo_L_disputed (by decide) rfl rfl d_L_law_1889 rfl (fun w382 r383 h _ => ?_) (fun _ _ h => h.elim)
          show pw_V l g cx_L_law Q X 1892 [(3000, 0), (9, 0), (10, 0), (15, 0), (0, a4), (1, 0), (1, 0)] [(0, r383)] w382
          refine pv_istore (n := 1894) (L' := [(3000, 0), (9, 0), (10, 0), (15, 0), (0, a4), (0, r383), (1, 0)]) d_L_law_1892 (by decide) rfl rfl ?_
          refine pv_aload_n (n := 1895) d_L_law_1894 rfl rfl rfl ?_
          refine pv_aload_n (n := 1896) d_L_law_1895 rfl rfl rfl ?_
          refine pv_iload (n := 1898) d_L_law_1896 rfl rfl ?_
          refine pv_iconst (v := 1) (n := 1899) d_L_law_1898 (by decide) rfl ?_
          refine pv_iadd (n := 1900) d_L_law_1899 rfl ?_
          obtain ⟨g384, h⟩ := h
          refine pv_sld (n := 1901) hsc d_L_law_1900 g384 rfl ?_
          refine pv_callV (n := 1904) (x := 0) [(0, (xs (pw_i (a4 + 1))))] [] (con_M_disputed hl0 h) pw_cf8 rfl q_976 q_977 q_978 q_458 q_975 pyo_M_disputed (by decide) rfl rfl (by decide) d_L_law_1901 rfl (fun w385 r386 h _ => ?_) (fun _ _ h => h.elim)
          show pw_V l g cx_L_law Q X 1904 [(3000, 0), (9, 0), (10, 0), (15, 0), (0, a4), (0, r383), (1, 0)] [(0, r386)] w385
          refine pv_istore (n := 1906) (L' := [(3000, 0), (9, 0), (10, 0), (15, 0), (0, a4), (0, r383), (0, r386)]) d_L_law_1904 (by decide) rfl rfl ?_
          refine pv_aload_n (n := 1907) d_L_law_1906 rfl rfl rfl ?_
          refine pv_callV (n := 1910) (x := 0) [] [] (con_M_thrown hl0 h) pw_cf8 rfl q_787 q_788 q_789 q_458 q_786 pyo_M_thrown (by decide) rfl rfl (by decide) d_L_law_1907 rfl (fun w387 r388 h _ => ?_) (fun _ _ h => h.elim)
          show pw_V l g cx_L_law Q X 1910 [(3000, 0), (9, 0), (10, 0), (15, 0), (0, a4), (0, r383), (0, r386)] [(0, r388)] w387
          refine pv_iload (n := 1912) d_L_law_1910 rfl rfl ?_
          refine pv_icmp_eq (n := 1915) (tgt := 1917) d_L_law_1912 (by decide) rfl (fun c389 => ?_) (fun c389 => ?_)
          · replace h := h.1 c389
            refine pv_iload (n := 1919) d_L_law_1917 rfl rfl ?_
            refine pv_if_ne (n := 1922) (tgt := 1934) d_L_law_1919 (by decide) rfl (fun c390 => ?_) (fun c390 => ?_)
            · replace h := h.1 c390
              refine pv_goto (tgt := 2321) d_L_law_1934 (by decide) ?_
              refine pv_iinc (v := (a4 + 5)) (n := 2324) (L1 := [(3000, 0), (9, 0), (10, 0), (15, 0), (0, (a4 + 5)), (0, r383), (0, r386)]) d_L_law_2321 rfl rfl rfl (by decide) rfl ?_
              refine pv_goto (tgt := 23) d_L_law_2324 (by decide) ?_
              refine pv_unset (i := 5) (L1 := [(3000, 0), (9, 0), (10, 0), (15, 0), (0, (a4 + 5)), (1, 0), (0, r386)]) rfl ?_
              refine pv_unset (i := 6) (L1 := [(3000, 0), (9, 0), (10, 0), (15, 0), (0, (a4 + 5)), (1, 0), (1, 0)]) rfl ?_
              exact ih _ _ h
            · replace h := h.2 c390
              refine pv_aload_n (n := 1923) d_L_law_1922 rfl rfl rfl ?_
              refine pv_iconst (v := 0) (n := 1924) d_L_law_1923 (by decide) rfl ?_
              obtain ⟨g391, h⟩ := h
              refine pv_lald (n := 1925) (f := 13) (by decide) rfl d_L_law_1924 (by decide) g391 rfl ?_
              refine pv_iload (n := 1927) d_L_law_1925 rfl rfl ?_
              refine pv_i2l (n := 1928) d_L_law_1927 rfl ?_
              refine pv_lcmp (n := 1929) d_L_law_1928 rfl (fun r392 hr => ?_)
              replace h := h r392 hr
              refine pv_if_eq (n := 1932) (tgt := 1934) d_L_law_1929 (by decide) rfl (fun c393 => ?_) (fun c393 => ?_)
              · replace h := h.1 c393
                refine pv_goto (tgt := 2321) d_L_law_1934 (by decide) ?_
                refine pv_iinc (v := (a4 + 5)) (n := 2324) (L1 := [(3000, 0), (9, 0), (10, 0), (15, 0), (0, (a4 + 5)), (0, r383), (0, r386)]) d_L_law_2321 rfl rfl rfl (by decide) rfl ?_
                refine pv_goto (tgt := 23) d_L_law_2324 (by decide) ?_
                refine pv_unset (i := 5) (L1 := [(3000, 0), (9, 0), (10, 0), (15, 0), (0, (a4 + 5)), (1, 0), (0, r386)]) rfl ?_
                refine pv_unset (i := 6) (L1 := [(3000, 0), (9, 0), (10, 0), (15, 0), (0, (a4 + 5)), (1, 0), (1, 0)]) rfl ?_
                exact ih _ _ h
              · replace h := h.2 c393
                refine pv_iconst (v := 0) (n := 1933) d_L_law_1932 (by decide) rfl ?_
                exact pv_zret rfl rfl d_L_law_1933 (by decide) h
          · replace h := h.2 c389
            refine pv_iconst (v := 0) (n := 1916) d_L_law_1915 (by decide) rfl ?_
            exact pv_zret rfl rfl d_L_law_1916 (by decide) h
        · replace hce : v39 = 27 := hce
          replace h := h.2.2.2.2.2.2.2.2.2.2.2.2.2.2.2.2.2.2.2.2.2.2.2.2.2.2.2.1 hce
          refine pv_tableIn (tgt := 1937) (off := 1898) d_L_law_39 (by rw [hce]; decide) (by rw [hce]; decide) (by rw [hce]; rfl) (by decide) ?_
          refine pv_aload_n (n := 1938) d_L_law_1937 rfl rfl rfl ?_
          refine pv_aload_n (n := 1939) d_L_law_1938 rfl rfl rfl ?_
          refine pv_iload (n := 1941) d_L_law_1939 rfl rfl ?_
          refine pv_iconst (v := 1) (n := 1942) d_L_law_1941 (by decide) rfl ?_
          refine pv_iadd (n := 1943) d_L_law_1942 rfl ?_
          obtain ⟨g394, h⟩ := h
          refine pv_sld (n := 1944) hsc d_L_law_1943 g394 rfl ?_
          refine pv_aload_n (n := 1945) d_L_law_1944 rfl rfl rfl ?_
          refine pv_iload (n := 1947) d_L_law_1945 rfl rfl ?_
          refine pv_iconst (v := 2) (n := 1948) d_L_law_1947 (by decide) rfl ?_
          refine pv_iadd (n := 1949) d_L_law_1948 rfl ?_
          obtain ⟨g395, h⟩ := h
          refine pv_sld (n := 1950) hsc d_L_law_1949 g395 rfl ?_
          refine pv_aload_n (n := 1951) d_L_law_1950 rfl rfl rfl ?_
          refine pv_callSH (n := 1954) [(9, 0), (0, (xs (pw_i (a4 + 1)))), (0, (xs (pw_i (a4 + 2)))), (15, 0)] [] (con_L_caseAt hl0 h) q_987 q_988 q_795 q_986 pyo_L_caseAt (by decide) rfl rfl d_L_law_1951 rfl (fun w396 r397 h _ => ?_) (fun _ _ h => h.elim)
          show pw_V l g cx_L_law Q X 1954 [(3000, 0), (9, 0), (10, 0), (15, 0), (0, a4), (1, 0), (1, 0)] [(0, r397)] w396
          refine pv_istore (n := 1956) (L' := [(3000, 0), (9, 0), (10, 0), (15, 0), (0, a4), (0, r397), (1, 0)]) d_L_law_1954 (by decide) rfl rfl ?_
          refine pv_aload_n (n := 1957) d_L_law_1956 rfl rfl rfl ?_
          refine pv_aload_n (n := 1958) d_L_law_1957 rfl rfl rfl ?_
          refine pv_iload (n := 1960) d_L_law_1958 rfl rfl ?_
          refine pv_iconst (v := 1) (n := 1961) d_L_law_1960 (by decide) rfl ?_
          refine pv_iadd (n := 1962) d_L_law_1961 rfl ?_
          obtain ⟨g398, h⟩ := h
          refine pv_sld (n := 1963) hsc d_L_law_1962 g398 rfl ?_
          refine pv_aload_n (n := 1964) d_L_law_1963 rfl rfl rfl ?_
          refine pv_iload (n := 1966) d_L_law_1964 rfl rfl ?_
          refine pv_iconst (v := 2) (n := 1967) d_L_law_1966 (by decide) rfl ?_
          refine pv_iadd (n := 1968) d_L_law_1967 rfl ?_
          obtain ⟨g399, h⟩ := h
          refine pv_sld (n := 1969) hsc d_L_law_1968 g399 rfl ?_
          refine pv_callV (n := 1972) (x := 0) [(0, (xs (pw_i (a4 + 1)))), (0, (xs (pw_i (a4 + 2))))] [] (con_M_caseAt hl0 h) pw_cf8 rfl q_983 q_984 q_985 q_458 q_982 pyo_M_caseAt (by decide) rfl rfl (by decide) d_L_law_1969 rfl (fun w400 r401 h _ => ?_) (fun _ _ h => h.elim)
          show pw_V l g cx_L_law Q X 1972 [(3000, 0), (9, 0), (10, 0), (15, 0), (0, a4), (0, r397), (1, 0)] [(0, r401)] w400
          refine pv_istore (n := 1974) (L' := [(3000, 0), (9, 0), (10, 0), (15, 0), (0, a4), (0, r397), (0, r401)]) d_L_law_1972 (by decide) rfl rfl ?_
          refine pv_aload_n (n := 1975) d_L_law_1974 rfl rfl rfl ?_
          refine pv_callV (n := 1978) (x := 0) [] [] (con_M_thrown hl0 h) pw_cf8 rfl q_787 q_788 q_789 q_458 q_786 pyo_M_thrown (by decide) rfl rfl (by decide) d_L_law_1975 rfl (fun w402 r403 h _ => ?_) (fun _ _ h => h.elim)
          show pw_V l g cx_L_law Q X 1978 [(3000, 0), (9, 0), (10, 0), (15, 0), (0, a4), (0, r397), (0, r401)] [(0, r403)] w402
          refine pv_iload (n := 1980) d_L_law_1978 rfl rfl ?_
          refine pv_icmp_eq (n := 1983) (tgt := 1985) d_L_law_1980 (by decide) rfl (fun c404 => ?_) (fun c404 => ?_)
          · replace h := h.1 c404
            refine pv_iload (n := 1987) d_L_law_1985 rfl rfl ?_
            refine pv_if_ne (n := 1990) (tgt := 2002) d_L_law_1987 (by decide) rfl (fun c405 => ?_) (fun c405 => ?_)
            · replace h := h.1 c405
              refine pv_goto (tgt := 2321) d_L_law_2002 (by decide) ?_
              refine pv_iinc (v := (a4 + 5)) (n := 2324) (L1 := [(3000, 0), (9, 0), (10, 0), (15, 0), (0, (a4 + 5)), (0, r397), (0, r401)]) d_L_law_2321 rfl rfl rfl (by decide) rfl ?_
              refine pv_goto (tgt := 23) d_L_law_2324 (by decide) ?_
              refine pv_unset (i := 5) (L1 := [(3000, 0), (9, 0), (10, 0), (15, 0), (0, (a4 + 5)), (1, 0), (0, r401)]) rfl ?_
              refine pv_unset (i := 6) (L1 := [(3000, 0), (9, 0), (10, 0), (15, 0), (0, (a4 + 5)), (1, 0), (1, 0)]) rfl ?_
              exact ih _ _ h
            · replace h := h.2 c405
              refine pv_aload_n (n := 1991) d_L_law_1990 rfl rfl rfl ?_
              refine pv_iconst (v := 0) (n := 1992) d_L_law_1991 (by decide) rfl ?_
              obtain ⟨g406, h⟩ := h
              refine pv_lald (n := 1993) (f := 13) (by decide) rfl d_L_law_1992 (by decide) g406 rfl ?_
              refine pv_iload (n := 1995) d_L_law_1993 rfl rfl ?_
              refine pv_i2l (n := 1996) d_L_law_1995 rfl ?_
              refine pv_lcmp (n := 1997) d_L_law_1996 rfl (fun r407 hr => ?_)
              replace h := h r407 hr
              refine pv_if_eq (n := 2000) (tgt := 2002) d_L_law_1997 (by decide) rfl (fun c408 => ?_) (fun c408 => ?_)
              · replace h := h.1 c408
                refine pv_goto (tgt := 2321) d_L_law_2002 (by decide) ?_
                refine pv_iinc (v := (a4 + 5)) (n := 2324) (L1 := [(3000, 0), (9, 0), (10, 0), (15, 0), (0, (a4 + 5)), (0, r397), (0, r401)]) d_L_law_2321 rfl rfl rfl (by decide) rfl ?_
                refine pv_goto (tgt := 23) d_L_law_2324 (by decide) ?_
                refine pv_unset (i := 5) (L1 := [(3000, 0), (9, 0), (10, 0), (15, 0), (0, (a4 + 5)), (1, 0), (0, r401)]) rfl ?_
                refine pv_unset (i := 6) (L1 := [(3000, 0), (9, 0), (10, 0), (15, 0), (0, (a4 + 5)), (1, 0), (1, 0)]) rfl ?_
                exact ih _ _ h
              · replace h := h.2 c408
                refine pv_iconst (v := 0) (n := 2001) d_L_law_2000 (by decide) rfl ?_
                exact pv_zret rfl rfl d_L_law_2001 (by decide) h
          · replace h := h.2 c404
            refine pv_iconst (v := 0) (n := 1984) d_L_law_1983 (by decide) rfl ?_
            exact pv_zret rfl rfl d_L_law_1984 (by decide) h
        · replace hce : v39 = 28 := hce
          replace h := h.2.2.2.2.2.2.2.2.2.2.2.2.2.2.2.2.2.2.2.2.2.2.2.2.2.2.2.2.1 hce
          refine pv_tableIn (tgt := 2005) (off := 1966) d_L_law_39 (by rw [hce]; decide) (by rw [hce]; decide) (by rw [hce]; rfl) (by decide) ?_
          refine pv_aload_n (n := 2006) d_L_law_2005 rfl rfl rfl ?_
          refine pv_aload_n (n := 2007) d_L_law_2006 rfl rfl rfl ?_
          refine pv_iload (n := 2009) d_L_law_2007 rfl rfl ?_
          refine pv_iconst (v := 1) (n := 2010) d_L_law_2009 (by decide) rfl ?_
          refine pv_iadd (n := 2011) d_L_law_2010 rfl ?_
          obtain ⟨g409, h⟩ := h
          refine pv_sld (n := 2012) hsc d_L_law_2011 g409 rfl ?_
          refine pv_aload_n (n := 2013) d_L_law_2012 rfl rfl rfl ?_
          refine pv_iload (n := 2015) d_L_law_2013 rfl rfl ?_
          refine pv_iconst (v := 2) (n := 2016) d_L_law_2015 (by decide) rfl ?_
          refine pv_iadd (n := 2017) d_L_law_2016 rfl ?_
          obtain ⟨g410, h⟩ := h
          refine pv_sld (n := 2018) hsc d_L_law_2017 g410 rfl ?_
          refine pv_aload_n (n := 2019) d_L_law_2018 rfl rfl rfl ?_
          refine pv_callSH (n := 2022) [(9, 0), (0, (xs (pw_i (a4 + 1)))), (0, (xs (pw_i (a4 + 2)))), (15, 0)] [] (con_L_rightAt hl0 h) q_994 q_995 q_795 q_993 pyo_L_rightAt (by decide) rfl rfl d_L_law_2019 rfl (fun w411 r412 h _ => ?_) (fun _ _ h => h.elim)
          show pw_V l g cx_L_law Q X 2022 [(3000, 0), (9, 0), (10, 0), (15, 0), (0, a4), (1, 0), (1, 0)] [(0, r412)] w411
          refine pv_istore (n := 2024) (L' := [(3000, 0), (9, 0), (10, 0), (15, 0), (0, a4), (0, r412), (1, 0)]) d_L_law_2022 (by decide) rfl rfl ?_
          refine pv_aload_n (n := 2025) d_L_law_2024 rfl rfl rfl ?_
          refine pv_aload_n (n := 2026) d_L_law_2025 rfl rfl rfl ?_
          refine pv_iload (n := 2028) d_L_law_2026 rfl rfl ?_
          refine pv_iconst (v := 1) (n := 2029) d_L_law_2028 (by decide) rfl ?_
          refine pv_iadd (n := 2030) d_L_law_2029 rfl ?_
          obtain ⟨g413, h⟩ := h
          refine pv_sld (n := 2031) hsc d_L_law_2030 g413 rfl ?_
          refine pv_aload_n (n := 2032) d_L_law_2031 rfl rfl rfl ?_
          refine pv_iload (n := 2034) d_L_law_2032 rfl rfl ?_
          refine pv_iconst (v := 2) (n := 2035) d_L_law_2034 (by decide) rfl ?_
          refine pv_iadd (n := 2036) d_L_law_2035 rfl ?_
          obtain ⟨g414, h⟩ := h
          refine pv_sld (n := 2037) hsc d_L_law_2036 g414 rfl ?_
          refine pv_callV (n := 2040) (x := 0) [(0, (xs (pw_i (a4 + 1)))), (0, (xs (pw_i (a4 + 2))))] [] (con_M_rightAt hl0 h) pw_cf8 rfl q_990 q_991 q_992 q_458 q_989 pyo_M_rightAt (by decide) rfl rfl (by decide) d_L_law_2037 rfl (fun w415 r416 h _ => ?_) (fun _ _ h => h.elim)
          show pw_V l g cx_L_law Q X 2040 [(3000, 0), (9, 0), (10, 0), (15, 0), (0, a4), (0, r412), (1, 0)] [(0, r416)] w415
          refine pv_istore (n := 2042) (L' := [(3000, 0), (9, 0), (10, 0), (15, 0), (0, a4), (0, r412), (0, r416)]) d_L_law_2040 (by decide) rfl rfl ?_
          refine pv_aload_n (n := 2043) d_L_law_2042 rfl rfl rfl ?_
          refine pv_callV (n := 2046) (x := 0) [] [] (con_M_thrown hl0 h) pw_cf8 rfl q_787 q_788 q_789 q_458 q_786 pyo_M_thrown (by decide) rfl rfl (by decide) d_L_law_2043 rfl (fun w417 r418 h _ => ?_) (fun _ _ h => h.elim)
          show pw_V l g cx_L_law Q X 2046 [(3000, 0), (9, 0), (10, 0), (15, 0), (0, a4), (0, r412), (0, r416)] [(0, r418)] w417
          refine pv_iload (n := 2048) d_L_law_2046 rfl rfl ?_
          refine pv_icmp_eq (n := 2051) (tgt := 2053) d_L_law_2048 (by decide) rfl (fun c419 => ?_) (fun c419 => ?_)
          · replace h := h.1 c419
            refine pv_iload (n := 2055) d_L_law_2053 rfl rfl ?_
            refine pv_if_ne (n := 2058) (tgt := 2070) d_L_law_2055 (by decide) rfl (fun c420 => ?_) (fun c420 => ?_)
            · replace h := h.1 c420
              refine pv_goto (tgt := 2321) d_L_law_2070 (by decide) ?_
              refine pv_iinc (v := (a4 + 5)) (n := 2324) (L1 := [(3000, 0), (9, 0), (10, 0), (15, 0), (0, (a4 + 5)), (0, r412), (0, r416)]) d_L_law_2321 rfl rfl rfl (by decide) rfl ?_
              refine pv_goto (tgt := 23) d_L_law_2324 (by decide) ?_
              refine pv_unset (i := 5) (L1 := [(3000, 0), (9, 0), (10, 0), (15, 0), (0, (a4 + 5)), (1, 0), (0, r416)]) rfl ?_
              refine pv_unset (i := 6) (L1 := [(3000, 0), (9, 0), (10, 0), (15, 0), (0, (a4 + 5)), (1, 0), (1, 0)]) rfl ?_
              exact ih _ _ h
            · replace h := h.2 c420
              refine pv_aload_n (n := 2059) d_L_law_2058 rfl rfl rfl ?_
              refine pv_iconst (v := 0) (n := 2060) d_L_law_2059 (by decide) rfl ?_
              obtain ⟨g421, h⟩ := h
              refine pv_lald (n := 2061) (f := 13) (by decide) rfl d_L_law_2060 (by decide) g421 rfl ?_
              refine pv_iload (n := 2063) d_L_law_2061 rfl rfl ?_
              refine pv_i2l (n := 2064) d_L_law_2063 rfl ?_
              refine pv_lcmp (n := 2065) d_L_law_2064 rfl (fun r422 hr => ?_)
              replace h := h r422 hr
              refine pv_if_eq (n := 2068) (tgt := 2070) d_L_law_2065 (by decide) rfl (fun c423 => ?_) (fun c423 => ?_)
              · replace h := h.1 c423
                refine pv_goto (tgt := 2321) d_L_law_2070 (by decide) ?_
                refine pv_iinc (v := (a4 + 5)) (n := 2324) (L1 := [(3000, 0), (9, 0), (10, 0), (15, 0), (0, (a4 + 5)), (0, r412), (0, r416)]) d_L_law_2321 rfl rfl rfl (by decide) rfl ?_
                refine pv_goto (tgt := 23) d_L_law_2324 (by decide) ?_
                refine pv_unset (i := 5) (L1 := [(3000, 0), (9, 0), (10, 0), (15, 0), (0, (a4 + 5)), (1, 0), (0, r416)]) rfl ?_
                refine pv_unset (i := 6) (L1 := [(3000, 0), (9, 0), (10, 0), (15, 0), (0, (a4 + 5)), (1, 0), (1, 0)]) rfl ?_
                exact ih _ _ h
              · replace h := h.2 c423
                refine pv_iconst (v := 0) (n := 2069) d_L_law_2068 (by decide) rfl ?_
                exact pv_zret rfl rfl d_L_law_2069 (by decide) h
          · replace h := h.2 c419
            refine pv_iconst (v := 0) (n := 2052) d_L_law_2051 (by decide) rfl ?_
            exact pv_zret rfl rfl d_L_law_2052 (by decide) h
        · replace hce : v39 = 29 := hce
          replace h := h.2.2.2.2.2.2.2.2.2.2.2.2.2.2.2.2.2.2.2.2.2.2.2.2.2.2.2.2.2.1 hce
          refine pv_tableIn (tgt := 2073) (off := 2034) d_L_law_39 (by rw [hce]; decide) (by rw [hce]; decide) (by rw [hce]; rfl) (by decide) ?_
          refine pv_aload_n (n := 2074) d_L_law_2073 rfl rfl rfl ?_
          refine pv_aload_n (n := 2075) d_L_law_2074 rfl rfl rfl ?_
          refine pv_iload (n := 2077) d_L_law_2075 rfl rfl ?_
          refine pv_iconst (v := 1) (n := 2078) d_L_law_2077 (by decide) rfl ?_
          refine pv_iadd (n := 2079) d_L_law_2078 rfl ?_
          obtain ⟨g424, h⟩ := h
          refine pv_sld (n := 2080) hsc d_L_law_2079 g424 rfl ?_
          refine pv_aload_n (n := 2081) d_L_law_2080 rfl rfl rfl ?_
          refine pv_iload (n := 2083) d_L_law_2081 rfl rfl ?_
          refine pv_iconst (v := 2) (n := 2084) d_L_law_2083 (by decide) rfl ?_
          refine pv_iadd (n := 2085) d_L_law_2084 rfl ?_
          obtain ⟨g425, h⟩ := h
          refine pv_sld (n := 2086) hsc d_L_law_2085 g425 rfl ?_
          refine pv_aload_n (n := 2087) d_L_law_2086 rfl rfl rfl ?_
          refine pv_callSH (n := 2090) [(9, 0), (0, (xs (pw_i (a4 + 1)))), (0, (xs (pw_i (a4 + 2)))), (15, 0)] [] (con_L_square hl0 h) q_1001 q_1002 q_795 q_1000 pyo_L_square (by decide) rfl rfl d_L_law_2087 rfl (fun w426 r427 h _ => ?_) (fun _ _ h => h.elim)
          show pw_V l g cx_L_law Q X 2090 [(3000, 0), (9, 0), (10, 0), (15, 0), (0, a4), (1, 0), (1, 0)] [(0, r427)] w426
          refine pv_istore (n := 2092) (L' := [(3000, 0), (9, 0), (10, 0), (15, 0), (0, a4), (0, r427), (1, 0)]) d_L_law_2090 (by decide) rfl rfl ?_
          refine pv_aload_n (n := 2093) d_L_law_2092 rfl rfl rfl ?_
          refine pv_aload_n (n := 2094) d_L_law_2093 rfl rfl rfl ?_
          refine pv_iload (n := 2096) d_L_law_2094 rfl rfl ?_
          refine pv_iconst (v := 1) (n := 2097) d_L_law_2096 (by decide) rfl ?_
          refine pv_iadd (n := 2098) d_L_law_2097 rfl ?_
          obtain ⟨g428, h⟩ := h
          refine pv_sld (n := 2099) hsc d_L_law_2098 g428 rfl ?_
          refine pv_aload_n (n := 2100) d_L_law_2099 rfl rfl rfl ?_
          refine pv_iload (n := 2102) d_L_law_2100 rfl rfl ?_
          refine pv_iconst (v := 2) (n := 2103) d_L_law_2102 (by decide) rfl ?_
          refine pv_iadd (n := 2104) d_L_law_2103 rfl ?_
          obtain ⟨g429, h⟩ := h
          refine pv_sld (n := 2105) hsc d_L_law_2104 g429 rfl ?_
          refine pv_callV (n := 2108) (x := 0) [(0, (xs (pw_i (a4 + 1)))), (0, (xs (pw_i (a4 + 2))))] [] (con_M_square hl0 h) pw_cf8 rfl q_997 q_998 q_999 q_458 q_996 pyo_M_square (by decide) rfl rfl (by decide) d_L_law_2105 rfl (fun w430 r431 h _ => ?_) (fun _ _ h => h.elim)
          show pw_V l g cx_L_law Q X 2108 [(3000, 0), (9, 0), (10, 0), (15, 0), (0, a4), (0, r427), (1, 0)] [(0, r431)] w430
          refine pv_istore (n := 2110) (L' := [(3000, 0), (9, 0), (10, 0), (15, 0), (0, a4), (0, r427), (0, r431)]) d_L_law_2108 (by decide) rfl rfl ?_
          refine pv_aload_n (n := 2111) d_L_law_2110 rfl rfl rfl ?_
          refine pv_callV (n := 2114) (x := 0) [] [] (con_M_thrown hl0 h) pw_cf8 rfl q_787 q_788 q_789 q_458 q_786 pyo_M_thrown (by decide) rfl rfl (by decide) d_L_law_2111 rfl (fun w432 r433 h _ => ?_) (fun _ _ h => h.elim)
          show pw_V l g cx_L_law Q X 2114 [(3000, 0), (9, 0), (10, 0), (15, 0), (0, a4), (0, r427), (0, r431)] [(0, r433)] w432
          refine pv_iload (n := 2116) d_L_law_2114 rfl rfl ?_
          refine pv_icmp_eq (n := 2119) (tgt := 2121) d_L_law_2116 (by decide) rfl (fun c434 => ?_) (fun c434 => ?_)
          · replace h := h.1 c434
            refine pv_iload (n := 2123) d_L_law_2121 rfl rfl ?_
            refine pv_if_ne (n := 2126) (tgt := 2138) d_L_law_2123 (by decide) rfl (fun c435 => ?_) (fun c435 => ?_)
            · replace h := h.1 c435
              refine pv_goto (tgt := 2321) d_L_law_2138 (by decide) ?_
              refine pv_iinc (v := (a4 + 5)) (n := 2324) (L1 := [(3000, 0), (9, 0), (10, 0), (15, 0), (0, (a4 + 5)), (0, r427), (0, r431)]) d_L_law_2321 rfl rfl rfl (by decide) rfl ?_
              refine pv_goto (tgt := 23) d_L_law_2324 (by decide) ?_
              refine pv_unset (i := 5) (L1 := [(3000, 0), (9, 0), (10, 0), (15, 0), (0, (a4 + 5)), (1, 0), (0, r431)]) rfl ?_
              refine pv_unset (i := 6) (L1 := [(3000, 0), (9, 0), (10, 0), (15, 0), (0, (a4 + 5)), (1, 0), (1, 0)]) rfl ?_
              exact ih _ _ h
            · replace h := h.2 c435
              refine pv_aload_n (n := 2127) d_L_law_2126 rfl rfl rfl ?_
              refine pv_iconst (v := 0) (n := 2128) d_L_law_2127 (by decide) rfl ?_
              obtain ⟨g436, h⟩ := h
              refine pv_lald (n := 2129) (f := 13) (by decide) rfl d_L_law_2128 (by decide) g436 rfl ?_
              refine pv_iload (n := 2131) d_L_law_2129 rfl rfl ?_
              refine pv_i2l (n := 2132) d_L_law_2131 rfl ?_
              refine pv_lcmp (n := 2133) d_L_law_2132 rfl (fun r437 hr => ?_)
              replace h := h r437 hr
              refine pv_if_eq (n := 2136) (tgt := 2138) d_L_law_2133 (by decide) rfl (fun c438 => ?_) (fun c438 => ?_)
              · replace h := h.1 c438
                refine pv_goto (tgt := 2321) d_L_law_2138 (by decide) ?_
                refine pv_iinc (v := (a4 + 5)) (n := 2324) (L1 := [(3000, 0), (9, 0), (10, 0), (15, 0), (0, (a4 + 5)), (0, r427), (0, r431)]) d_L_law_2321 rfl rfl rfl (by decide) rfl ?_
                refine pv_goto (tgt := 23) d_L_law_2324 (by decide) ?_
                refine pv_unset (i := 5) (L1 := [(3000, 0), (9, 0), (10, 0), (15, 0), (0, (a4 + 5)), (1, 0), (0, r431)]) rfl ?_
                refine pv_unset (i := 6) (L1 := [(3000, 0), (9, 0), (10, 0), (15, 0), (0, (a4 + 5)), (1, 0), (1, 0)]) rfl ?_
                exact ih _ _ h
              · replace h := h.2 c438
                refine pv_iconst (v := 0) (n := 2137) d_L_law_2136 (by decide) rfl ?_
                exact pv_zret rfl rfl d_L_law_2137 (by decide) h
          · replace h := h.2 c434
            refine pv_iconst (v := 0) (n := 2120) d_L_law_2119 (by decide) rfl ?_
            exact pv_zret rfl rfl d_L_law_2120 (by decide) h
        · replace hce : v39 = 30 := hce
          replace h := h.2.2.2.2.2.2.2.2.2.2.2.2.2.2.2.2.2.2.2.2.2.2.2.2.2.2.2.2.2.2.1 hce
          refine pv_tableIn (tgt := 2141) (off := 2102) d_L_law_39 (by rw [hce]; decide) (by rw [hce]; decide) (by rw [hce]; rfl) (by decide) ?_
          refine pv_aload_n (n := 2142) d_L_law_2141 rfl rfl rfl ?_
          refine pv_aload_n (n := 2143) d_L_law_2142 rfl rfl rfl ?_
          refine pv_iload (n := 2145) d_L_law_2143 rfl rfl ?_
          refine pv_iconst (v := 1) (n := 2146) d_L_law_2145 (by decide) rfl ?_
          refine pv_iadd (n := 2147) d_L_law_2146 rfl ?_
          obtain ⟨g439, h⟩ := h
          refine pv_sld (n := 2148) hsc d_L_law_2147 g439 rfl ?_
          refine pv_aload_n (n := 2149) d_L_law_2148 rfl rfl rfl ?_
          refine pv_callSH (n := 2152) [(9, 0), (0, (xs (pw_i (a4 + 1)))), (15, 0)] [] (con_L_water hl0 h) q_1008 q_1009 q_795 q_1007 pyo_L_water (by decide) rfl rfl d_L_law_2149 rfl (fun w440 r441 h _ => ?_) (fun _ _ h => h.elim)
          show pw_V l g cx_L_law Q X 2152 [(3000, 0), (9, 0), (10, 0), (15, 0), (0, a4), (1, 0), (1, 0)] [(0, r441)] w440
          refine pv_istore (n := 2154) (L' := [(3000, 0), (9, 0), (10, 0), (15, 0), (0, a4), (0, r441), (1, 0)]) d_L_law_2152 (by decide) rfl rfl ?_
          refine pv_aload_n (n := 2155) d_L_law_2154 rfl rfl rfl ?_
          refine pv_aload_n (n := 2156) d_L_law_2155 rfl rfl rfl ?_
          refine pv_iload (n := 2158) d_L_law_2156 rfl rfl ?_
          refine pv_iconst (v := 1) (n := 2159) d_L_law_2158 (by decide) rfl ?_
          refine pv_iadd (n := 2160) d_L_law_2159 rfl ?_
          obtain ⟨g442, h⟩ := h
          refine pv_sld (n := 2161) hsc d_L_law_2160 g442 rfl ?_
          refine pv_callV (n := 2164) (x := 0) [(0, (xs (pw_i (a4 + 1))))] [] (con_M_water hl0 h) pw_cf8 rfl q_1004 q_1005 q_1006 q_458 q_1003 pyo_M_water (by decide) rfl rfl (by decide) d_L_law_2161 rfl (fun w443 r444 h _ => ?_) (fun _ _ h => h.elim)
          show pw_V l g cx_L_law Q X 2164 [(3000, 0), (9, 0), (10, 0), (15, 0), (0, a4), (0, r441), (1, 0)] [(0, r444)] w443
          refine pv_istore (n := 2166) (L' := [(3000, 0), (9, 0), (10, 0), (15, 0), (0, a4), (0, r441), (0, r444)]) d_L_law_2164 (by decide) rfl rfl ?_
          refine pv_aload_n (n := 2167) d_L_law_2166 rfl rfl rfl ?_
          refine pv_callV (n := 2170) (x := 0) [] [] (con_M_thrown hl0 h) pw_cf8 rfl q_787 q_788 q_789 q_458 q_786 pyo_M_thrown (by decide) rfl rfl (by decide) d_L_law_2167 rfl (fun w445 r446 h _ => ?_) (fun _ _ h => h.elim)
          show pw_V l g cx_L_law Q X 2170 [(3000, 0), (9, 0), (10, 0), (15, 0), (0, a4), (0, r441), (0, r444)] [(0, r446)] w445
          refine pv_iload (n := 2172) d_L_law_2170 rfl rfl ?_
          refine pv_icmp_eq (n := 2175) (tgt := 2177) d_L_law_2172 (by decide) rfl (fun c447 => ?_) (fun c447 => ?_)
          · replace h := h.1 c447
            refine pv_iload (n := 2179) d_L_law_2177 rfl rfl ?_
            refine pv_if_ne (n := 2182) (tgt := 2194) d_L_law_2179 (by decide) rfl (fun c448 => ?_) (fun c448 => ?_)
            · replace h := h.1 c448
              refine pv_goto (tgt := 2321) d_L_law_2194 (by decide) ?_
              refine pv_iinc (v := (a4 + 5)) (n := 2324) (L1 := [(3000, 0), (9, 0), (10, 0), (15, 0), (0, (a4 + 5)), (0, r441), (0, r444)]) d_L_law_2321 rfl rfl rfl (by decide) rfl ?_
              refine pv_goto (tgt := 23) d_L_law_2324 (by decide) ?_
              refine pv_unset (i := 5) (L1 := [(3000, 0), (9, 0), (10, 0), (15, 0), (0, (a4 + 5)), (1, 0), (0, r444)]) rfl ?_
              refine pv_unset (i := 6) (L1 := [(3000, 0), (9, 0), (10, 0), (15, 0), (0, (a4 + 5)), (1, 0), (1, 0)]) rfl ?_
              exact ih _ _ h
            · replace h := h.2 c448
              refine pv_aload_n (n := 2183) d_L_law_2182 rfl rfl rfl ?_
              refine pv_iconst (v := 0) (n := 2184) d_L_law_2183 (by decide) rfl ?_
              obtain ⟨g449, h⟩ := h
              refine pv_lald (n := 2185) (f := 13) (by decide) rfl d_L_law_2184 (by decide) g449 rfl ?_
              refine pv_iload (n := 2187) d_L_law_2185 rfl rfl ?_
              refine pv_i2l (n := 2188) d_L_law_2187 rfl ?_
              refine pv_lcmp (n := 2189) d_L_law_2188 rfl (fun r450 hr => ?_)
              replace h := h r450 hr
              refine pv_if_eq (n := 2192) (tgt := 2194) d_L_law_2189 (by decide) rfl (fun c451 => ?_) (fun c451 => ?_)
              · replace h := h.1 c451
                refine pv_goto (tgt := 2321) d_L_law_2194 (by decide) ?_
                refine pv_iinc (v := (a4 + 5)) (n := 2324) (L1 := [(3000, 0), (9, 0), (10, 0), (15, 0), (0, (a4 + 5)), (0, r441), (0, r444)]) d_L_law_2321 rfl rfl rfl (by decide) rfl ?_
                refine pv_goto (tgt := 23) d_L_law_2324 (by decide) ?_
                refine pv_unset (i := 5) (L1 := [(3000, 0), (9, 0), (10, 0), (15, 0), (0, (a4 + 5)), (1, 0), (0, r444)]) rfl ?_
                refine pv_unset (i := 6) (L1 := [(3000, 0), (9, 0), (10, 0), (15, 0), (0, (a4 + 5)), (1, 0), (1, 0)]) rfl ?_
                exact ih _ _ h
              · replace h := h.2 c451
                refine pv_iconst (v := 0) (n := 2193) d_L_law_2192 (by decide) rfl ?_
                exact pv_zret rfl rfl d_L_law_2193 (by decide) h
          · replace h := h.2 c447
            refine pv_iconst (v := 0) (n := 2176) d_L_law_2175 (by decide) rfl ?_
            exact pv_zret rfl rfl d_L_law_2176 (by decide) h
        · replace hce : v39 = 31 := hce
          replace h := h.2.2.2.2.2.2.2.2.2.2.2.2.2.2.2.2.2.2.2.2.2.2.2.2.2.2.2.2.2.2.2.1 hce
          refine pv_tableIn (tgt := 2197) (off := 2158) d_L_law_39 (by rw [hce]; decide) (by rw [hce]; decide) (by rw [hce]; rfl) (by decide) ?_
          refine pv_aload_n (n := 2198) d_L_law_2197 rfl rfl rfl ?_
          refine pv_aload_n (n := 2199) d_L_law_2198 rfl rfl rfl ?_
          refine pv_iload (n := 2201) d_L_law_2199 rfl rfl ?_
          refine pv_iconst (v := 1) (n := 2202) d_L_law_2201 (by decide) rfl ?_
          refine pv_iadd (n := 2203) d_L_law_2202 rfl ?_
          obtain ⟨g452, h⟩ := h
          refine pv_sld (n := 2204) hsc d_L_law_2203 g452 rfl ?_
          refine pv_aload_n (n := 2205) d_L_law_2204 rfl rfl rfl ?_
          refine pv_callSH (n := 2208) [(9, 0), (0, (xs (pw_i (a4 + 1)))), (15, 0)] [] (con_L_paid hl0 h) q_1015 q_1016 q_795 q_1014 pyo_L_paid (by decide) rfl rfl d_L_law_2205 rfl (fun w453 r454 h _ => ?_) (fun _ _ h => h.elim)
          show pw_V l g cx_L_law Q X 2208 [(3000, 0), (9, 0), (10, 0), (15, 0), (0, a4), (1, 0), (1, 0)] [(0, r454)] w453
          refine pv_istore (n := 2210) (L' := [(3000, 0), (9, 0), (10, 0), (15, 0), (0, a4), (0, r454), (1, 0)]) d_L_law_2208 (by decide) rfl rfl ?_
          refine pv_aload_n (n := 2211) d_L_law_2210 rfl rfl rfl ?_
          refine pv_aload_n (n := 2212) d_L_law_2211 rfl rfl rfl ?_
          refine pv_iload (n := 2214) d_L_law_2212 rfl rfl ?_
          refine pv_iconst (v := 1) (n := 2215) d_L_law_2214 (by decide) rfl ?_
          refine pv_iadd (n := 2216) d_L_law_2215 rfl ?_
          obtain ⟨g455, h⟩ := h
          refine pv_sld (n := 2217) hsc d_L_law_2216 g455 rfl ?_
          refine pv_callV (n := 2220) (x := 0) [(0, (xs (pw_i (a4 + 1))))] [] (con_M_paid hl0 h) pw_cf8 rfl q_1011 q_1012 q_1013 q_458 q_1010 pyo_M_paid (by decide) rfl rfl (by decide) d_L_law_2217 rfl (fun w456 r457 h _ => ?_) (fun _ _ h => h.elim)
          show pw_V l g cx_L_law Q X 2220 [(3000, 0), (9, 0), (10, 0), (15, 0), (0, a4), (0, r454), (1, 0)] [(0, r457)] w456
          refine pv_istore (n := 2222) (L' := [(3000, 0), (9, 0), (10, 0), (15, 0), (0, a4), (0, r454), (0, r457)]) d_L_law_2220 (by decide) rfl rfl ?_
          refine pv_aload_n (n := 2223) d_L_law_2222 rfl rfl rfl ?_
          refine pv_callV (n := 2226) (x := 0) [] [] (con_M_thrown hl0 h) pw_cf8 rfl q_787 q_788 q_789 q_458 q_786 pyo_M_thrown (by decide) rfl rfl (by decide) d_L_law_2223 rfl (fun w458 r459 h _ => ?_) (fun _ _ h => h.elim)
          show pw_V l g cx_L_law Q X 2226 [(3000, 0), (9, 0), (10, 0), (15, 0), (0, a4), (0, r454), (0, r457)] [(0, r459)] w458
          refine pv_iload (n := 2228) d_L_law_2226 rfl rfl ?_
          refine pv_icmp_eq (n := 2231) (tgt := 2233) d_L_law_2228 (by decide) rfl (fun c460 => ?_) (fun c460 => ?_)
          · replace h := h.1 c460
            refine pv_iload (n := 2235) d_L_law_2233 rfl rfl ?_
            refine pv_if_ne (n := 2238) (tgt := 2250) d_L_law_2235 (by decide) rfl (fun c461 => ?_) (fun c461 => ?_)
            · replace h := h.1 c461
              refine pv_goto (tgt := 2321) d_L_law_2250 (by decide) ?_
              refine pv_iinc (v := (a4 + 5)) (n := 2324) (L1 := [(3000, 0), (9, 0), (10, 0), (15, 0), (0, (a4 + 5)), (0, r454), (0, r457)]) d_L_law_2321 rfl rfl rfl (by decide) rfl ?_
              refine pv_goto (tgt := 23) d_L_law_2324 (by decide) ?_
              refine pv_unset (i := 5) (L1 := [(3000, 0), (9, 0), (10, 0), (15, 0), (0, (a4 + 5)), (1, 0), (0, r457)]) rfl ?_
              refine pv_unset (i := 6) (L1 := [(3000, 0), (9, 0), (10, 0), (15, 0), (0, (a4 + 5)), (1, 0), (1, 0)]) rfl ?_
              exact ih _ _ h
            · replace h := h.2 c461
              refine pv_aload_n (n := 2239) d_L_law_2238 rfl rfl rfl ?_
              refine pv_iconst (v := 0) (n := 2240) d_L_law_2239 (by decide) rfl ?_
              obtain ⟨g462, h⟩ := h
              refine pv_lald (n := 2241) (f := 13) (by decide) rfl d_L_law_2240 (by decide) g462 rfl ?_
              refine pv_iload (n := 2243) d_L_law_2241 rfl rfl ?_
              refine pv_i2l (n := 2244) d_L_law_2243 rfl ?_
              refine pv_lcmp (n := 2245) d_L_law_2244 rfl (fun r463 hr => ?_)
              replace h := h r463 hr
              refine pv_if_eq (n := 2248) (tgt := 2250) d_L_law_2245 (by decide) rfl (fun c464 => ?_) (fun c464 => ?_)
              · replace h := h.1 c464
                refine pv_goto (tgt := 2321) d_L_law_2250 (by decide) ?_
                refine pv_iinc (v := (a4 + 5)) (n := 2324) (L1 := [(3000, 0), (9, 0), (10, 0), (15, 0), (0, (a4 + 5)), (0, r454), (0, r457)]) d_L_law_2321 rfl rfl rfl (by decide) rfl ?_
                refine pv_goto (tgt := 23) d_L_law_2324 (by decide) ?_
                refine pv_unset (i := 5) (L1 := [(3000, 0), (9, 0), (10, 0), (15, 0), (0, (a4 + 5)), (1, 0), (0, r457)]) rfl ?_
                refine pv_unset (i := 6) (L1 := [(3000, 0), (9, 0), (10, 0), (15, 0), (0, (a4 + 5)), (1, 0), (1, 0)]) rfl ?_
                exact ih _ _ h
              · replace h := h.2 c464
                refine pv_iconst (v := 0) (n := 2249) d_L_law_2248 (by decide) rfl ?_
                exact pv_zret rfl rfl d_L_law_2249 (by decide) h
          · replace h := h.2 c460
            refine pv_iconst (v := 0) (n := 2232) d_L_law_2231 (by decide) rfl ?_
            exact pv_zret rfl rfl d_L_law_2232 (by decide) h
        · replace hce : v39 = 32 := hce
          replace h := h.2.2.2.2.2.2.2.2.2.2.2.2.2.2.2.2.2.2.2.2.2.2.2.2.2.2.2.2.2.2.2.2 hce
          refine pv_tableIn (tgt := 2253) (off := 2214) d_L_law_39 (by rw [hce]; decide) (by rw [hce]; decide) (by rw [hce]; rfl) (by decide) ?_
          refine pv_aload_n (n := 2254) d_L_law_2253 rfl rfl rfl ?_
          refine pv_aload_n (n := 2255) d_L_law_2254 rfl rfl rfl ?_
          refine pv_iload (n := 2257) d_L_law_2255 rfl rfl ?_
          refine pv_iconst (v := 1) (n := 2258) d_L_law_2257 (by decide) rfl ?_
          refine pv_iadd (n := 2259) d_L_law_2258 rfl ?_
          obtain ⟨g465, h⟩ := h
          refine pv_sld (n := 2260) hsc d_L_law_2259 g465 rfl ?_
          refine pv_aload_n (n := 2261) d_L_law_2260 rfl rfl rfl ?_
          refine pv_iload (n := 2263) d_L_law_2261 rfl rfl ?_
          refine pv_iconst (v := 2) (n := 2264) d_L_law_2263 (by decide) rfl ?_
          refine pv_iadd (n := 2265) d_L_law_2264 rfl ?_
          obtain ⟨g466, h⟩ := h
          refine pv_sld (n := 2266) hsc d_L_law_2265 g466 rfl ?_
          refine pv_aload_n (n := 2267) d_L_law_2266 rfl rfl rfl ?_
          refine pv_callSH (n := 2270) [(9, 0), (0, (xs (pw_i (a4 + 1)))), (0, (xs (pw_i (a4 + 2)))), (15, 0)] [] (con_L_sheep hl0 h) q_1022 q_1023 q_795 q_1021 pyo_L_sheep (by decide) rfl rfl d_L_law_2267 rfl (fun w467 r468 h _ => ?_) (fun _ _ h => h.elim)
          show pw_V l g cx_L_law Q X 2270 [(3000, 0), (9, 0), (10, 0), (15, 0), (0, a4), (1, 0), (1, 0)] [(0, r468)] w467
          refine pv_istore (n := 2272) (L' := [(3000, 0), (9, 0), (10, 0), (15, 0), (0, a4), (0, r468), (1, 0)]) d_L_law_2270 (by decide) rfl rfl ?_
          refine pv_aload_n (n := 2273) d_L_law_2272 rfl rfl rfl ?_
          refine pv_aload_n (n := 2274) d_L_law_2273 rfl rfl rfl ?_
          refine pv_iload (n := 2276) d_L_law_2274 rfl rfl ?_
          refine pv_iconst (v := 1) (n := 2277) d_L_law_2276 (by decide) rfl ?_
          refine pv_iadd (n := 2278) d_L_law_2277 rfl ?_
          obtain ⟨g469, h⟩ := h
          refine pv_sld (n := 2279) hsc d_L_law_2278 g469 rfl ?_
          refine pv_aload_n (n := 2280) d_L_law_2279 rfl rfl rfl ?_
          refine pv_iload (n := 2282) d_L_law_2280 rfl rfl ?_
          refine pv_iconst (v := 2) (n := 2283) d_L_law_2282 (by decide) rfl ?_
          refine pv_iadd (n := 2284) d_L_law_2283 rfl ?_
          obtain ⟨g470, h⟩ := h
          refine pv_sld (n := 2285) hsc d_L_law_2284 g470 rfl ?_
          refine pv_callV (n := 2288) (x := 0) [(0, (xs (pw_i (a4 + 1)))), (0, (xs (pw_i (a4 + 2))))] [] (con_M_sheep hl0 h) pw_cf8 rfl q_1018 q_1019 q_1020 q_458 q_1017 pyo_M_sheep (by decide) rfl rfl (by decide) d_L_law_2285 rfl (fun w471 r472 h _ => ?_) (fun _ _ h => h.elim)
          show pw_V l g cx_L_law Q X 2288 [(3000, 0), (9, 0), (10, 0), (15, 0), (0, a4), (0, r468), (1, 0)] [(0, r472)] w471
          refine pv_istore (n := 2290) (L' := [(3000, 0), (9, 0), (10, 0), (15, 0), (0, a4), (0, r468), (0, r472)]) d_L_law_2288 (by decide) rfl rfl ?_
          refine pv_aload_n (n := 2291) d_L_law_2290 rfl rfl rfl ?_
          refine pv_callV (n := 2294) (x := 0) [] [] (con_M_thrown hl0 h) pw_cf8 rfl q_787 q_788 q_789 q_458 q_786 pyo_M_thrown (by decide) rfl rfl (by decide) d_L_law_2291 rfl (fun w473 r474 h _ => ?_) (fun _ _ h => h.elim)
          show pw_V l g cx_L_law Q X 2294 [(3000, 0), (9, 0), (10, 0), (15, 0), (0, a4), (0, r468), (0, r472)] [(0, r474)] w473
          refine pv_iload (n := 2296) d_L_law_2294 rfl rfl ?_
          refine pv_icmp_eq (n := 2299) (tgt := 2301) d_L_law_2296 (by decide) rfl (fun c475 => ?_) (fun c475 => ?_)
          · replace h := h.1 c475
            refine pv_iload (n := 2303) d_L_law_2301 rfl rfl ?_
            refine pv_if_ne (n := 2306) (tgt := 2318) d_L_law_2303 (by decide) rfl (fun c476 => ?_) (fun c476 => ?_)
            · replace h := h.1 c476
              refine pv_goto (tgt := 2321) d_L_law_2318 (by decide) ?_
              refine pv_iinc (v := (a4 + 5)) (n := 2324) (L1 := [(3000, 0), (9, 0), (10, 0), (15, 0), (0, (a4 + 5)), (0, r468), (0, r472)]) d_L_law_2321 rfl rfl rfl (by decide) rfl ?_
              refine pv_goto (tgt := 23) d_L_law_2324 (by decide) ?_
              refine pv_unset (i := 5) (L1 := [(3000, 0), (9, 0), (10, 0), (15, 0), (0, (a4 + 5)), (1, 0), (0, r472)]) rfl ?_
              refine pv_unset (i := 6) (L1 := [(3000, 0), (9, 0), (10, 0), (15, 0), (0, (a4 + 5)), (1, 0), (1, 0)]) rfl ?_
              exact ih _ _ h
            · replace h := h.2 c476
              refine pv_aload_n (n := 2307) d_L_law_2306 rfl rfl rfl ?_
              refine pv_iconst (v := 0) (n := 2308) d_L_law_2307 (by decide) rfl ?_
              obtain ⟨g477, h⟩ := h
              refine pv_lald (n := 2309) (f := 13) (by decide) rfl d_L_law_2308 (by decide) g477 rfl ?_
              refine pv_iload (n := 2311) d_L_law_2309 rfl rfl ?_
              refine pv_i2l (n := 2312) d_L_law_2311 rfl ?_
              refine pv_lcmp (n := 2313) d_L_law_2312 rfl (fun r478 hr => ?_)
              replace h := h r478 hr
              refine pv_if_eq (n := 2316) (tgt := 2318) d_L_law_2313 (by decide) rfl (fun c479 => ?_) (fun c479 => ?_)
              · replace h := h.1 c479
                refine pv_goto (tgt := 2321) d_L_law_2318 (by decide) ?_
                refine pv_iinc (v := (a4 + 5)) (n := 2324) (L1 := [(3000, 0), (9, 0), (10, 0), (15, 0), (0, (a4 + 5)), (0, r468), (0, r472)]) d_L_law_2321 rfl rfl rfl (by decide) rfl ?_
                refine pv_goto (tgt := 23) d_L_law_2324 (by decide) ?_
                refine pv_unset (i := 5) (L1 := [(3000, 0), (9, 0), (10, 0), (15, 0), (0, (a4 + 5)), (1, 0), (0, r472)]) rfl ?_
                refine pv_unset (i := 6) (L1 := [(3000, 0), (9, 0), (10, 0), (15, 0), (0, (a4 + 5)), (1, 0), (1, 0)]) rfl ?_
                exact ih _ _ h
              · replace h := h.2 c479
                refine pv_iconst (v := 0) (n := 2317) d_L_law_2316 (by decide) rfl ?_
                exact pv_zret rfl rfl d_L_law_2317 (by decide) h
          · replace h := h.2 c475
            refine pv_iconst (v := 0) (n := 2300) d_L_law_2299 (by decide) rfl ?_
            exact pv_zret rfl rfl d_L_law_2300 (by decide) h
set_option maxHeartbeats 4000000 in
set_option maxRecDepth 20000 in
def wp_L_law (Ln : Nat) (xs : Nat → Int32) (w : pw_W) (Q : pw_W → Int32 → Prop) (X : pw_W → Nat → Prop) : Prop := pw_nv w 7 = 0 ∧ pw_rm w 7 12 ∧ ∀ w482, w482 = pw_nw w 7 0 12 → wp_X_init w482  (fun w484 r485 => pw_nv w484 8 = 0 ∧ pw_rm w484 8 46 ∧ ∀ w488, w488 = pw_nw w484 8 0 46 → wp_M_init w488  (fun w490 r491 => pw_nv w490 13 = 0 ∧ pw_rm w490 13 (pw_i 1) ∧ ∀ w494, w494 = pw_nw w490 13 (pw_i 1) (pw_i 1) → ∃ k496, lp_L_law_23 Ln xs Q X k496 0 w494) (fun _ _ => False)) (fun _ _ => False)
set_option maxHeartbeats 4000000 in
set_option maxRecDepth 20000 in
theorem vw_L_law {l : Launch} {g : pw_G} {Q : pw_W → Int32 → Prop} {X : pw_W → Nat → Prop} {Ln : Nat} {xs : Nat → Int32} (hl0 : l.stackTraces = false) (hsc : pw_sc g Ln xs) {w : pw_W} (h : wp_L_law Ln xs w Q X) : pw_V l g cx_L_law Q X 0 [(3000, 0), (1, 0), (1, 0), (1, 0), (1, 0), (1, 0), (1, 0)] [] w := by
  unfold wp_L_law at h
  obtain ⟨g480, h⟩ := h
  obtain ⟨g481, h⟩ := h
  refine nw0_7 (n := 3) g480 q_1024 d_L_law_0 g481 rfl (fun w482 e483 => ?_)
  replace h := h w482 e483
  refine pv_dup (n := 4) d_L_law_3 (by decide) rfl ?_
  refine pv_callI (n := 7) (x := 0) (f := 7) [] [(9, 0)] (con_X_init hl0 h) rfl rfl q_1031 q_1032 q_62 q_1030 pyo_X_init (by decide) rfl rfl (by decide) d_L_law_4 rfl (fun w484 r485 h _ => ?_) (fun _ _ h => h.elim)
  show pw_V l g cx_L_law Q X 7 [(3000, 0), (1, 0), (1, 0), (1, 0), (1, 0), (1, 0), (1, 0)] [(9, 0)] w484
  refine pv_astore_n (n := 8) (L' := [(3000, 0), (9, 0), (1, 0), (1, 0), (1, 0), (1, 0), (1, 0)]) d_L_law_7 rfl (by decide) rfl rfl ?_
  obtain ⟨g486, h⟩ := h
  obtain ⟨g487, h⟩ := h
  refine nw0_8 (n := 11) g486 q_1025 d_L_law_8 g487 rfl (fun w488 e489 => ?_)
  replace h := h w488 e489
  refine pv_dup (n := 12) d_L_law_11 (by decide) rfl ?_
  refine pv_callI (n := 15) (x := 0) (f := 8) [] [(10, 0)] (con_M_init hl0 h) rfl rfl q_1028 q_1029 q_458 q_1027 pyo_M_init (by decide) rfl rfl (by decide) d_L_law_12 rfl (fun w490 r491 h _ => ?_) (fun _ _ h => h.elim)
  show pw_V l g cx_L_law Q X 15 [(3000, 0), (9, 0), (1, 0), (1, 0), (1, 0), (1, 0), (1, 0)] [(10, 0)] w490
  refine pv_astore_n (n := 16) (L' := [(3000, 0), (9, 0), (10, 0), (1, 0), (1, 0), (1, 0), (1, 0)]) d_L_law_15 rfl (by decide) rfl rfl ?_
  refine pv_iconst (v := 1) (n := 17) d_L_law_16 (by decide) rfl ?_
  obtain ⟨g492, h⟩ := h
  obtain ⟨g493, h⟩ := h
  refine pv_nwa0_long (n := 19) (f := 13) g492 (by decide) (by decide) rfl (by intro k; rfl) q_1026 d_L_law_17 (by decide) (by decide) g493 rfl (fun w494 e495 => ?_)
  replace h := h w494 e495
  refine pv_astore_n (n := 20) (L' := [(3000, 0), (9, 0), (10, 0), (15, 0), (1, 0), (1, 0), (1, 0)]) d_L_law_19 rfl (by decide) rfl rfl ?_
  refine pv_iconst (v := 0) (n := 21) d_L_law_20 (by decide) rfl ?_
  refine pv_istore (n := 23) (L' := [(3000, 0), (9, 0), (10, 0), (15, 0), (0, 0), (1, 0), (1, 0)]) d_L_law_21 (by decide) rfl rfl ?_
  obtain ⟨k496, h⟩ := h
  exact vlp_L_law_23 hl0 hsc _ _ _ h
