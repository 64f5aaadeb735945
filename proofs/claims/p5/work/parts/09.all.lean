/-! ===== the law's own instructions ===== -/
theorem wtL_law_0 : dwcj cL_law 0 [(0, .new 8, 3), (3, .dup, 1), (4, .invokespecial 166, 3), (7, .astore_n 1, 1), (8, .new 167, 3), (11, .dup, 1), (12, .invokespecial 169, 3), (15, .astore_n 2, 1), (16, .new 14, 3), (19, .dup, 1), (20, .invokespecial 170, 3), (23, .astore_n 3, 1)] := dw_all (l := [187, 0, 8, 89, 183, 0, 166, 76, 187, 0, 167, 89, 183, 0, 169, 77, 187, 0, 14, 89, 183, 0, 170, 78]) (by decide +kernel)
theorem dL_law_0 : decode cL_law 0 = .ok (.new 8, 3) := wtL_law_0.1
theorem dL_law_3 : decode cL_law 3 = .ok (.dup, 1) := wtL_law_0.2.1
theorem dL_law_4 : decode cL_law 4 = .ok (.invokespecial 166, 3) := wtL_law_0.2.2.1
theorem dL_law_7 : decode cL_law 7 = .ok (.astore_n 1, 1) := wtL_law_0.2.2.2.1
theorem dL_law_8 : decode cL_law 8 = .ok (.new 167, 3) := wtL_law_0.2.2.2.2.1
theorem dL_law_11 : decode cL_law 11 = .ok (.dup, 1) := wtL_law_0.2.2.2.2.2.1
theorem dL_law_12 : decode cL_law 12 = .ok (.invokespecial 169, 3) := wtL_law_0.2.2.2.2.2.2.1
theorem dL_law_15 : decode cL_law 15 = .ok (.astore_n 2, 1) := wtL_law_0.2.2.2.2.2.2.2.1
theorem dL_law_16 : decode cL_law 16 = .ok (.new 14, 3) := wtL_law_0.2.2.2.2.2.2.2.2.1
theorem dL_law_19 : decode cL_law 19 = .ok (.dup, 1) := wtL_law_0.2.2.2.2.2.2.2.2.2.1
theorem dL_law_20 : decode cL_law 20 = .ok (.invokespecial 170, 3) := wtL_law_0.2.2.2.2.2.2.2.2.2.2.1
theorem dL_law_23 : decode cL_law 23 = .ok (.astore_n 3, 1) := wtL_law_0.2.2.2.2.2.2.2.2.2.2.2.1
theorem wtL_law_24 : dwcj cL_law 24 [(0, .iconst 0, 1), (1, .istore 4, 2), (3, .iload 4, 2), (5, .aload_n 0, 1), (6, .arraylength, 1), (7, .iconst 5, 1), (8, .isub, 1), (9, .if_icmp .gt 2180, 3), (12, .aload_n 0, 1), (13, .iload 4, 2), (15, .iaload, 1), (16, .bipush 63, 2), (18, .iand, 1)] := dw_all (l := [3, 54, 4, 21, 4, 42, 190, 8, 100, 163, 8, 132, 42, 21, 4, 46, 16, 63, 126]) (by decide +kernel)
theorem dL_law_24 : decode cL_law 24 = .ok (.iconst 0, 1) := wtL_law_24.1
theorem dL_law_25 : decode cL_law 25 = .ok (.istore 4, 2) := wtL_law_24.2.1
theorem dL_law_27 : decode cL_law 27 = .ok (.iload 4, 2) := wtL_law_24.2.2.1
theorem dL_law_29 : decode cL_law 29 = .ok (.aload_n 0, 1) := wtL_law_24.2.2.2.1
theorem dL_law_30 : decode cL_law 30 = .ok (.arraylength, 1) := wtL_law_24.2.2.2.2.1
theorem dL_law_31 : decode cL_law 31 = .ok (.iconst 5, 1) := wtL_law_24.2.2.2.2.2.1
theorem dL_law_32 : decode cL_law 32 = .ok (.isub, 1) := wtL_law_24.2.2.2.2.2.2.1
theorem dL_law_33 : decode cL_law 33 = .ok (.if_icmp .gt 2180, 3) := wtL_law_24.2.2.2.2.2.2.2.1
theorem dL_law_36 : decode cL_law 36 = .ok (.aload_n 0, 1) := wtL_law_24.2.2.2.2.2.2.2.2.1
theorem dL_law_37 : decode cL_law 37 = .ok (.iload 4, 2) := wtL_law_24.2.2.2.2.2.2.2.2.2.1
theorem dL_law_39 : decode cL_law 39 = .ok (.iaload, 1) := wtL_law_24.2.2.2.2.2.2.2.2.2.2.1
theorem dL_law_40 : decode cL_law 40 = .ok (.bipush 63, 2) := wtL_law_24.2.2.2.2.2.2.2.2.2.2.2.1
theorem dL_law_42 : decode cL_law 42 = .ok (.iand, 1) := wtL_law_24.2.2.2.2.2.2.2.2.2.2.2.2.1
theorem dL_law_43 : decode cL_law 43 = .ok (.tableswitch 2164 0 46 #[201, 241, 281, 349, 425, 465, 505, 585, 649, 701, 741, 793, 845, 897, 949, 1001, 1081, 1121, 1161, 1201, 1241, 1305, 1357, 1397, 1449, 1477, 1505, 1533, 1573, 1601, 1629, 1669, 1709, 1749, 1805, 1845, 1873, 1901, 1929, 1957, 1985, 2013, 2041, 2097, 2125, 2138, 2151], 201) := by decide +kernel
theorem wtL_law_244 : dwcj cL_law 244 [(0, .aload_n 1, 1), (1, .aload_n 0, 1), (2, .iload 4, 2), (4, .iconst 1, 1), (5, .iadd, 1), (6, .iaload, 1), (7, .aload_n 0, 1), (8, .iload 4, 2), (10, .iconst 2, 1), (11, .iadd, 1), (12, .iaload, 1), (13, .aload_n 3, 1), (14, .invokestatic 171, 3), (17, .istore 5, 2), (19, .aload_n 2, 1), (20, .aload_n 0, 1), (21, .iload 4, 2), (23, .iconst 1, 1)] := dw_all (l := [43, 42, 21, 4, 4, 96, 46, 42, 21, 4, 5, 96, 46, 45, 184, 0, 171, 54, 5, 44, 42, 21, 4, 4]) (by decide +kernel)
theorem dL_law_244 : decode cL_law 244 = .ok (.aload_n 1, 1) := wtL_law_244.1
theorem dL_law_245 : decode cL_law 245 = .ok (.aload_n 0, 1) := wtL_law_244.2.1
theorem dL_law_246 : decode cL_law 246 = .ok (.iload 4, 2) := wtL_law_244.2.2.1
theorem dL_law_248 : decode cL_law 248 = .ok (.iconst 1, 1) := wtL_law_244.2.2.2.1
theorem dL_law_249 : decode cL_law 249 = .ok (.iadd, 1) := wtL_law_244.2.2.2.2.1
theorem dL_law_250 : decode cL_law 250 = .ok (.iaload, 1) := wtL_law_244.2.2.2.2.2.1
theorem dL_law_251 : decode cL_law 251 = .ok (.aload_n 0, 1) := wtL_law_244.2.2.2.2.2.2.1
theorem dL_law_252 : decode cL_law 252 = .ok (.iload 4, 2) := wtL_law_244.2.2.2.2.2.2.2.1
theorem dL_law_254 : decode cL_law 254 = .ok (.iconst 2, 1) := wtL_law_244.2.2.2.2.2.2.2.2.1
theorem dL_law_255 : decode cL_law 255 = .ok (.iadd, 1) := wtL_law_244.2.2.2.2.2.2.2.2.2.1
theorem dL_law_256 : decode cL_law 256 = .ok (.iaload, 1) := wtL_law_244.2.2.2.2.2.2.2.2.2.2.1
theorem dL_law_257 : decode cL_law 257 = .ok (.aload_n 3, 1) := wtL_law_244.2.2.2.2.2.2.2.2.2.2.2.1
theorem dL_law_258 : decode cL_law 258 = .ok (.invokestatic 171, 3) := wtL_law_244.2.2.2.2.2.2.2.2.2.2.2.2.1
theorem dL_law_261 : decode cL_law 261 = .ok (.istore 5, 2) := wtL_law_244.2.2.2.2.2.2.2.2.2.2.2.2.2.1
theorem dL_law_263 : decode cL_law 263 = .ok (.aload_n 2, 1) := wtL_law_244.2.2.2.2.2.2.2.2.2.2.2.2.2.2.1
theorem dL_law_264 : decode cL_law 264 = .ok (.aload_n 0, 1) := wtL_law_244.2.2.2.2.2.2.2.2.2.2.2.2.2.2.2.1
theorem dL_law_265 : decode cL_law 265 = .ok (.iload 4, 2) := wtL_law_244.2.2.2.2.2.2.2.2.2.2.2.2.2.2.2.2.1
theorem dL_law_267 : decode cL_law 267 = .ok (.iconst 1, 1) := wtL_law_244.2.2.2.2.2.2.2.2.2.2.2.2.2.2.2.2.2.1
theorem wtL_law_268 : dwcj cL_law 268 [(0, .iadd, 1), (1, .iaload, 1), (2, .aload_n 0, 1), (3, .iload 4, 2), (5, .iconst 2, 1), (6, .iadd, 1), (7, .iaload, 1), (8, .invokevirtual 176, 3), (11, .istore 6, 2), (13, .goto 1926, 3), (16, .aload_n 1, 1), (17, .aload_n 0, 1), (18, .iload 4, 2), (20, .iconst 1, 1), (21, .iadd, 1), (22, .iaload, 1), (23, .aload_n 0, 1)] := dw_all (l := [96, 46, 42, 21, 4, 5, 96, 46, 182, 0, 176, 54, 6, 167, 7, 134, 43, 42, 21, 4, 4, 96, 46, 42]) (by decide +kernel)
theorem dL_law_268 : decode cL_law 268 = .ok (.iadd, 1) := wtL_law_268.1
theorem dL_law_269 : decode cL_law 269 = .ok (.iaload, 1) := wtL_law_268.2.1
theorem dL_law_270 : decode cL_law 270 = .ok (.aload_n 0, 1) := wtL_law_268.2.2.1
theorem dL_law_271 : decode cL_law 271 = .ok (.iload 4, 2) := wtL_law_268.2.2.2.1
theorem dL_law_273 : decode cL_law 273 = .ok (.iconst 2, 1) := wtL_law_268.2.2.2.2.1
theorem dL_law_274 : decode cL_law 274 = .ok (.iadd, 1) := wtL_law_268.2.2.2.2.2.1
theorem dL_law_275 : decode cL_law 275 = .ok (.iaload, 1) := wtL_law_268.2.2.2.2.2.2.1
theorem dL_law_276 : decode cL_law 276 = .ok (.invokevirtual 176, 3) := wtL_law_268.2.2.2.2.2.2.2.1
theorem dL_law_279 : decode cL_law 279 = .ok (.istore 6, 2) := wtL_law_268.2.2.2.2.2.2.2.2.1
theorem dL_law_281 : decode cL_law 281 = .ok (.goto 1926, 3) := wtL_law_268.2.2.2.2.2.2.2.2.2.1
theorem dL_law_284 : decode cL_law 284 = .ok (.aload_n 1, 1) := wtL_law_268.2.2.2.2.2.2.2.2.2.2.1
theorem dL_law_285 : decode cL_law 285 = .ok (.aload_n 0, 1) := wtL_law_268.2.2.2.2.2.2.2.2.2.2.2.1
theorem dL_law_286 : decode cL_law 286 = .ok (.iload 4, 2) := wtL_law_268.2.2.2.2.2.2.2.2.2.2.2.2.1
theorem dL_law_288 : decode cL_law 288 = .ok (.iconst 1, 1) := wtL_law_268.2.2.2.2.2.2.2.2.2.2.2.2.2.1
theorem dL_law_289 : decode cL_law 289 = .ok (.iadd, 1) := wtL_law_268.2.2.2.2.2.2.2.2.2.2.2.2.2.2.1
theorem dL_law_290 : decode cL_law 290 = .ok (.iaload, 1) := wtL_law_268.2.2.2.2.2.2.2.2.2.2.2.2.2.2.2.1
theorem dL_law_291 : decode cL_law 291 = .ok (.aload_n 0, 1) := wtL_law_268.2.2.2.2.2.2.2.2.2.2.2.2.2.2.2.2.1
theorem wtL_law_292 : dwcj cL_law 292 [(0, .iload 4, 2), (2, .iconst 2, 1), (3, .iadd, 1), (4, .iaload, 1), (5, .aload_n 3, 1), (6, .invokestatic 177, 3), (9, .istore 5, 2), (11, .aload_n 2, 1), (12, .aload_n 0, 1), (13, .iload 4, 2), (15, .iconst 1, 1), (16, .iadd, 1), (17, .iaload, 1), (18, .aload_n 0, 1), (19, .iload 4, 2), (21, .iconst 2, 1), (22, .iadd, 1), (23, .iaload, 1)] := dw_all (l := [21, 4, 5, 96, 46, 45, 184, 0, 177, 54, 5, 44, 42, 21, 4, 4, 96, 46, 42, 21, 4, 5, 96, 46]) (by decide +kernel)
theorem dL_law_292 : decode cL_law 292 = .ok (.iload 4, 2) := wtL_law_292.1
theorem dL_law_294 : decode cL_law 294 = .ok (.iconst 2, 1) := wtL_law_292.2.1
theorem dL_law_295 : decode cL_law 295 = .ok (.iadd, 1) := wtL_law_292.2.2.1
theorem dL_law_296 : decode cL_law 296 = .ok (.iaload, 1) := wtL_law_292.2.2.2.1
theorem dL_law_297 : decode cL_law 297 = .ok (.aload_n 3, 1) := wtL_law_292.2.2.2.2.1
theorem dL_law_298 : decode cL_law 298 = .ok (.invokestatic 177, 3) := wtL_law_292.2.2.2.2.2.1
theorem dL_law_301 : decode cL_law 301 = .ok (.istore 5, 2) := wtL_law_292.2.2.2.2.2.2.1
theorem dL_law_303 : decode cL_law 303 = .ok (.aload_n 2, 1) := wtL_law_292.2.2.2.2.2.2.2.1
theorem dL_law_304 : decode cL_law 304 = .ok (.aload_n 0, 1) := wtL_law_292.2.2.2.2.2.2.2.2.1
theorem dL_law_305 : decode cL_law 305 = .ok (.iload 4, 2) := wtL_law_292.2.2.2.2.2.2.2.2.2.1
theorem dL_law_307 : decode cL_law 307 = .ok (.iconst 1, 1) := wtL_law_292.2.2.2.2.2.2.2.2.2.2.1
theorem dL_law_308 : decode cL_law 308 = .ok (.iadd, 1) := wtL_law_292.2.2.2.2.2.2.2.2.2.2.2.1
theorem dL_law_309 : decode cL_law 309 = .ok (.iaload, 1) := wtL_law_292.2.2.2.2.2.2.2.2.2.2.2.2.1
theorem dL_law_310 : decode cL_law 310 = .ok (.aload_n 0, 1) := wtL_law_292.2.2.2.2.2.2.2.2.2.2.2.2.2.1
theorem dL_law_311 : decode cL_law 311 = .ok (.iload 4, 2) := wtL_law_292.2.2.2.2.2.2.2.2.2.2.2.2.2.2.1
theorem dL_law_313 : decode cL_law 313 = .ok (.iconst 2, 1) := wtL_law_292.2.2.2.2.2.2.2.2.2.2.2.2.2.2.2.1
theorem dL_law_314 : decode cL_law 314 = .ok (.iadd, 1) := wtL_law_292.2.2.2.2.2.2.2.2.2.2.2.2.2.2.2.2.1
theorem dL_law_315 : decode cL_law 315 = .ok (.iaload, 1) := wtL_law_292.2.2.2.2.2.2.2.2.2.2.2.2.2.2.2.2.2.1
theorem wtL_law_316 : dwcj cL_law 316 [(0, .invokevirtual 179, 3), (3, .istore 6, 2), (5, .goto 1886, 3), (8, .aload_n 1, 1), (9, .aload_n 0, 1), (10, .iload 4, 2), (12, .iconst 1, 1), (13, .iadd, 1), (14, .iaload, 1), (15, .aload_n 0, 1), (16, .iload 4, 2), (18, .iconst 2, 1), (19, .iadd, 1), (20, .iaload, 1), (21, .aload_n 0, 1), (22, .iload 4, 2)] := dw_all (l := [182, 0, 179, 54, 6, 167, 7, 94, 43, 42, 21, 4, 4, 96, 46, 42, 21, 4, 5, 96, 46, 42, 21, 4]) (by decide +kernel)
theorem dL_law_316 : decode cL_law 316 = .ok (.invokevirtual 179, 3) := wtL_law_316.1
theorem dL_law_319 : decode cL_law 319 = .ok (.istore 6, 2) := wtL_law_316.2.1
theorem dL_law_321 : decode cL_law 321 = .ok (.goto 1886, 3) := wtL_law_316.2.2.1
theorem dL_law_324 : decode cL_law 324 = .ok (.aload_n 1, 1) := wtL_law_316.2.2.2.1
theorem dL_law_325 : decode cL_law 325 = .ok (.aload_n 0, 1) := wtL_law_316.2.2.2.2.1
theorem dL_law_326 : decode cL_law 326 = .ok (.iload 4, 2) := wtL_law_316.2.2.2.2.2.1
theorem dL_law_328 : decode cL_law 328 = .ok (.iconst 1, 1) := wtL_law_316.2.2.2.2.2.2.1
theorem dL_law_329 : decode cL_law 329 = .ok (.iadd, 1) := wtL_law_316.2.2.2.2.2.2.2.1
theorem dL_law_330 : decode cL_law 330 = .ok (.iaload, 1) := wtL_law_316.2.2.2.2.2.2.2.2.1
theorem dL_law_331 : decode cL_law 331 = .ok (.aload_n 0, 1) := wtL_law_316.2.2.2.2.2.2.2.2.2.1
theorem dL_law_332 : decode cL_law 332 = .ok (.iload 4, 2) := wtL_law_316.2.2.2.2.2.2.2.2.2.2.1
theorem dL_law_334 : decode cL_law 334 = .ok (.iconst 2, 1) := wtL_law_316.2.2.2.2.2.2.2.2.2.2.2.1
theorem dL_law_335 : decode cL_law 335 = .ok (.iadd, 1) := wtL_law_316.2.2.2.2.2.2.2.2.2.2.2.2.1
theorem dL_law_336 : decode cL_law 336 = .ok (.iaload, 1) := wtL_law_316.2.2.2.2.2.2.2.2.2.2.2.2.2.1
theorem dL_law_337 : decode cL_law 337 = .ok (.aload_n 0, 1) := wtL_law_316.2.2.2.2.2.2.2.2.2.2.2.2.2.2.1
theorem dL_law_338 : decode cL_law 338 = .ok (.iload 4, 2) := wtL_law_316.2.2.2.2.2.2.2.2.2.2.2.2.2.2.2.1
theorem wtL_law_340 : dwcj cL_law 340 [(0, .iconst 3, 1), (1, .iadd, 1), (2, .iaload, 1), (3, .ifCond .eq 7, 3), (6, .iconst 1, 1), (7, .goto 4, 3), (10, .iconst 0, 1), (11, .aload_n 3, 1), (12, .invokestatic 180, 3), (15, .istore 5, 2), (17, .aload_n 2, 1), (18, .aload_n 0, 1), (19, .iload 4, 2), (21, .iconst 1, 1), (22, .iadd, 1), (23, .iaload, 1)] := dw_all (l := [6, 96, 46, 153, 0, 7, 4, 167, 0, 4, 3, 45, 184, 0, 180, 54, 5, 44, 42, 21, 4, 4, 96, 46]) (by decide +kernel)
theorem dL_law_340 : decode cL_law 340 = .ok (.iconst 3, 1) := wtL_law_340.1
theorem dL_law_341 : decode cL_law 341 = .ok (.iadd, 1) := wtL_law_340.2.1
theorem dL_law_342 : decode cL_law 342 = .ok (.iaload, 1) := wtL_law_340.2.2.1
theorem dL_law_343 : decode cL_law 343 = .ok (.ifCond .eq 7, 3) := wtL_law_340.2.2.2.1
theorem dL_law_346 : decode cL_law 346 = .ok (.iconst 1, 1) := wtL_law_340.2.2.2.2.1
theorem dL_law_347 : decode cL_law 347 = .ok (.goto 4, 3) := wtL_law_340.2.2.2.2.2.1
theorem dL_law_350 : decode cL_law 350 = .ok (.iconst 0, 1) := wtL_law_340.2.2.2.2.2.2.1
theorem dL_law_351 : decode cL_law 351 = .ok (.aload_n 3, 1) := wtL_law_340.2.2.2.2.2.2.2.1
theorem dL_law_352 : decode cL_law 352 = .ok (.invokestatic 180, 3) := wtL_law_340.2.2.2.2.2.2.2.2.1
theorem dL_law_355 : decode cL_law 355 = .ok (.istore 5, 2) := wtL_law_340.2.2.2.2.2.2.2.2.2.1
theorem dL_law_357 : decode cL_law 357 = .ok (.aload_n 2, 1) := wtL_law_340.2.2.2.2.2.2.2.2.2.2.1
theorem dL_law_358 : decode cL_law 358 = .ok (.aload_n 0, 1) := wtL_law_340.2.2.2.2.2.2.2.2.2.2.2.1
theorem dL_law_359 : decode cL_law 359 = .ok (.iload 4, 2) := wtL_law_340.2.2.2.2.2.2.2.2.2.2.2.2.1
theorem dL_law_361 : decode cL_law 361 = .ok (.iconst 1, 1) := wtL_law_340.2.2.2.2.2.2.2.2.2.2.2.2.2.1
theorem dL_law_362 : decode cL_law 362 = .ok (.iadd, 1) := wtL_law_340.2.2.2.2.2.2.2.2.2.2.2.2.2.2.1
theorem dL_law_363 : decode cL_law 363 = .ok (.iaload, 1) := wtL_law_340.2.2.2.2.2.2.2.2.2.2.2.2.2.2.2.1
theorem wtL_law_364 : dwcj cL_law 364 [(0, .aload_n 0, 1), (1, .iload 4, 2), (3, .iconst 2, 1), (4, .iadd, 1), (5, .iaload, 1), (6, .aload_n 0, 1), (7, .iload 4, 2), (9, .iconst 3, 1), (10, .iadd, 1), (11, .iaload, 1), (12, .ifCond .eq 7, 3), (15, .iconst 1, 1), (16, .goto 4, 3), (19, .iconst 0, 1), (20, .invokevirtual 183, 3), (23, .istore 6, 2)] := dw_all (l := [42, 21, 4, 5, 96, 46, 42, 21, 4, 6, 96, 46, 153, 0, 7, 4, 167, 0, 4, 3, 182, 0, 183, 54, 6]) (by decide +kernel)
theorem dL_law_364 : decode cL_law 364 = .ok (.aload_n 0, 1) := wtL_law_364.1
theorem dL_law_365 : decode cL_law 365 = .ok (.iload 4, 2) := wtL_law_364.2.1
theorem dL_law_367 : decode cL_law 367 = .ok (.iconst 2, 1) := wtL_law_364.2.2.1
theorem dL_law_368 : decode cL_law 368 = .ok (.iadd, 1) := wtL_law_364.2.2.2.1
theorem dL_law_369 : decode cL_law 369 = .ok (.iaload, 1) := wtL_law_364.2.2.2.2.1
theorem dL_law_370 : decode cL_law 370 = .ok (.aload_n 0, 1) := wtL_law_364.2.2.2.2.2.1
theorem dL_law_371 : decode cL_law 371 = .ok (.iload 4, 2) := wtL_law_364.2.2.2.2.2.2.1
theorem dL_law_373 : decode cL_law 373 = .ok (.iconst 3, 1) := wtL_law_364.2.2.2.2.2.2.2.1
theorem dL_law_374 : decode cL_law 374 = .ok (.iadd, 1) := wtL_law_364.2.2.2.2.2.2.2.2.1
theorem dL_law_375 : decode cL_law 375 = .ok (.iaload, 1) := wtL_law_364.2.2.2.2.2.2.2.2.2.1
theorem dL_law_376 : decode cL_law 376 = .ok (.ifCond .eq 7, 3) := wtL_law_364.2.2.2.2.2.2.2.2.2.2.1
theorem dL_law_379 : decode cL_law 379 = .ok (.iconst 1, 1) := wtL_law_364.2.2.2.2.2.2.2.2.2.2.2.1
theorem dL_law_380 : decode cL_law 380 = .ok (.goto 4, 3) := wtL_law_364.2.2.2.2.2.2.2.2.2.2.2.2.1
theorem dL_law_383 : decode cL_law 383 = .ok (.iconst 0, 1) := wtL_law_364.2.2.2.2.2.2.2.2.2.2.2.2.2.1
theorem dL_law_384 : decode cL_law 384 = .ok (.invokevirtual 183, 3) := wtL_law_364.2.2.2.2.2.2.2.2.2.2.2.2.2.2.1
theorem dL_law_387 : decode cL_law 387 = .ok (.istore 6, 2) := wtL_law_364.2.2.2.2.2.2.2.2.2.2.2.2.2.2.2.1
theorem wtL_law_389 : dwcj cL_law 389 [(0, .goto 1818, 3), (3, .aload_n 1, 1), (4, .aload_n 0, 1), (5, .iload 4, 2), (7, .iconst 1, 1), (8, .iadd, 1), (9, .iaload, 1), (10, .aload_n 0, 1), (11, .iload 4, 2), (13, .iconst 2, 1), (14, .iadd, 1), (15, .iaload, 1), (16, .aload_n 3, 1), (17, .invokestatic 184, 3), (20, .istore 5, 2), (22, .aload_n 2, 1), (23, .aload_n 0, 1)] := dw_all (l := [167, 7, 26, 43, 42, 21, 4, 4, 96, 46, 42, 21, 4, 5, 96, 46, 45, 184, 0, 184, 54, 5, 44, 42]) (by decide +kernel)
theorem dL_law_389 : decode cL_law 389 = .ok (.goto 1818, 3) := wtL_law_389.1
theorem dL_law_392 : decode cL_law 392 = .ok (.aload_n 1, 1) := wtL_law_389.2.1
theorem dL_law_393 : decode cL_law 393 = .ok (.aload_n 0, 1) := wtL_law_389.2.2.1
theorem dL_law_394 : decode cL_law 394 = .ok (.iload 4, 2) := wtL_law_389.2.2.2.1
theorem dL_law_396 : decode cL_law 396 = .ok (.iconst 1, 1) := wtL_law_389.2.2.2.2.1
theorem dL_law_397 : decode cL_law 397 = .ok (.iadd, 1) := wtL_law_389.2.2.2.2.2.1
theorem dL_law_398 : decode cL_law 398 = .ok (.iaload, 1) := wtL_law_389.2.2.2.2.2.2.1
theorem dL_law_399 : decode cL_law 399 = .ok (.aload_n 0, 1) := wtL_law_389.2.2.2.2.2.2.2.1
theorem dL_law_400 : decode cL_law 400 = .ok (.iload 4, 2) := wtL_law_389.2.2.2.2.2.2.2.2.1
theorem dL_law_402 : decode cL_law 402 = .ok (.iconst 2, 1) := wtL_law_389.2.2.2.2.2.2.2.2.2.1
theorem dL_law_403 : decode cL_law 403 = .ok (.iadd, 1) := wtL_law_389.2.2.2.2.2.2.2.2.2.2.1
theorem dL_law_404 : decode cL_law 404 = .ok (.iaload, 1) := wtL_law_389.2.2.2.2.2.2.2.2.2.2.2.1
theorem dL_law_405 : decode cL_law 405 = .ok (.aload_n 3, 1) := wtL_law_389.2.2.2.2.2.2.2.2.2.2.2.2.1
theorem dL_law_406 : decode cL_law 406 = .ok (.invokestatic 184, 3) := wtL_law_389.2.2.2.2.2.2.2.2.2.2.2.2.2.1
theorem dL_law_409 : decode cL_law 409 = .ok (.istore 5, 2) := wtL_law_389.2.2.2.2.2.2.2.2.2.2.2.2.2.2.1
theorem dL_law_411 : decode cL_law 411 = .ok (.aload_n 2, 1) := wtL_law_389.2.2.2.2.2.2.2.2.2.2.2.2.2.2.2.1
theorem dL_law_412 : decode cL_law 412 = .ok (.aload_n 0, 1) := wtL_law_389.2.2.2.2.2.2.2.2.2.2.2.2.2.2.2.2.1
theorem wtL_law_413 : dwcj cL_law 413 [(0, .iload 4, 2), (2, .iconst 1, 1), (3, .iadd, 1), (4, .iaload, 1), (5, .aload_n 0, 1), (6, .iload 4, 2), (8, .iconst 2, 1), (9, .iadd, 1), (10, .iaload, 1), (11, .invokevirtual 186, 3), (14, .istore 6, 2), (16, .aload_n 2, 1), (17, .invokevirtual 187, 3), (20, .iload 5, 2), (22, .if_icmp .eq 5, 3)] := dw_all (l := [21, 4, 4, 96, 46, 42, 21, 4, 5, 96, 46, 182, 0, 186, 54, 6, 44, 182, 0, 187, 21, 5, 159, 0, 5]) (by decide +kernel)
theorem dL_law_413 : decode cL_law 413 = .ok (.iload 4, 2) := wtL_law_413.1
theorem dL_law_415 : decode cL_law 415 = .ok (.iconst 1, 1) := wtL_law_413.2.1
theorem dL_law_416 : decode cL_law 416 = .ok (.iadd, 1) := wtL_law_413.2.2.1
theorem dL_law_417 : decode cL_law 417 = .ok (.iaload, 1) := wtL_law_413.2.2.2.1
theorem dL_law_418 : decode cL_law 418 = .ok (.aload_n 0, 1) := wtL_law_413.2.2.2.2.1
theorem dL_law_419 : decode cL_law 419 = .ok (.iload 4, 2) := wtL_law_413.2.2.2.2.2.1
theorem dL_law_421 : decode cL_law 421 = .ok (.iconst 2, 1) := wtL_law_413.2.2.2.2.2.2.1
theorem dL_law_422 : decode cL_law 422 = .ok (.iadd, 1) := wtL_law_413.2.2.2.2.2.2.2.1
theorem dL_law_423 : decode cL_law 423 = .ok (.iaload, 1) := wtL_law_413.2.2.2.2.2.2.2.2.1
theorem dL_law_424 : decode cL_law 424 = .ok (.invokevirtual 186, 3) := wtL_law_413.2.2.2.2.2.2.2.2.2.1
theorem dL_law_427 : decode cL_law 427 = .ok (.istore 6, 2) := wtL_law_413.2.2.2.2.2.2.2.2.2.2.1
theorem dL_law_429 : decode cL_law 429 = .ok (.aload_n 2, 1) := wtL_law_413.2.2.2.2.2.2.2.2.2.2.2.1
theorem dL_law_430 : decode cL_law 430 = .ok (.invokevirtual 187, 3) := wtL_law_413.2.2.2.2.2.2.2.2.2.2.2.2.1
theorem dL_law_433 : decode cL_law 433 = .ok (.iload 5, 2) := wtL_law_413.2.2.2.2.2.2.2.2.2.2.2.2.2.1
theorem dL_law_435 : decode cL_law 435 = .ok (.if_icmp .eq 5, 3) := wtL_law_413.2.2.2.2.2.2.2.2.2.2.2.2.2.2.1
theorem wtL_law_438 : dwcj cL_law 438 [(0, .iconst 0, 1), (1, .ireturn, 1), (2, .iload 5, 2), (4, .ifCond .ne 23, 3), (7, .aload_n 3, 1), (8, .getfield 13, 3), (11, .iload 6, 2), (13, .ifCond .eq 7, 3), (16, .lconst 1, 1), (17, .goto 4, 3), (20, .lconst 0, 1), (21, .lcmp, 1), (22, .ifCond .eq 5, 3)] := dw_all (l := [3, 172, 21, 5, 154, 0, 23, 45, 180, 0, 13, 21, 6, 153, 0, 7, 10, 167, 0, 4, 9, 148, 153, 0, 5]) (by decide +kernel)
theorem dL_law_438 : decode cL_law 438 = .ok (.iconst 0, 1) := wtL_law_438.1
theorem dL_law_439 : decode cL_law 439 = .ok (.ireturn, 1) := wtL_law_438.2.1
theorem dL_law_440 : decode cL_law 440 = .ok (.iload 5, 2) := wtL_law_438.2.2.1
theorem dL_law_442 : decode cL_law 442 = .ok (.ifCond .ne 23, 3) := wtL_law_438.2.2.2.1
theorem dL_law_445 : decode cL_law 445 = .ok (.aload_n 3, 1) := wtL_law_438.2.2.2.2.1
theorem dL_law_446 : decode cL_law 446 = .ok (.getfield 13, 3) := wtL_law_438.2.2.2.2.2.1
theorem dL_law_449 : decode cL_law 449 = .ok (.iload 6, 2) := wtL_law_438.2.2.2.2.2.2.1
theorem dL_law_451 : decode cL_law 451 = .ok (.ifCond .eq 7, 3) := wtL_law_438.2.2.2.2.2.2.2.1
theorem dL_law_454 : decode cL_law 454 = .ok (.lconst 1, 1) := wtL_law_438.2.2.2.2.2.2.2.2.1
theorem dL_law_455 : decode cL_law 455 = .ok (.goto 4, 3) := wtL_law_438.2.2.2.2.2.2.2.2.2.1
theorem dL_law_458 : decode cL_law 458 = .ok (.lconst 0, 1) := wtL_law_438.2.2.2.2.2.2.2.2.2.2.1
theorem dL_law_459 : decode cL_law 459 = .ok (.lcmp, 1) := wtL_law_438.2.2.2.2.2.2.2.2.2.2.2.1
theorem dL_law_460 : decode cL_law 460 = .ok (.ifCond .eq 5, 3) := wtL_law_438.2.2.2.2.2.2.2.2.2.2.2.2.1
theorem wtL_law_463 : dwcj cL_law 463 [(0, .iconst 0, 1), (1, .ireturn, 1), (2, .goto 1742, 3), (5, .aload_n 1, 1), (6, .aload_n 0, 1), (7, .iload 4, 2), (9, .iconst 1, 1), (10, .iadd, 1), (11, .iaload, 1), (12, .aload_n 0, 1), (13, .iload 4, 2), (15, .iconst 2, 1), (16, .iadd, 1), (17, .iaload, 1), (18, .aload_n 3, 1), (19, .invokestatic 191, 3), (22, .istore 5, 2)] := dw_all (l := [3, 172, 167, 6, 206, 43, 42, 21, 4, 4, 96, 46, 42, 21, 4, 5, 96, 46, 45, 184, 0, 191, 54, 5]) (by decide +kernel)
theorem dL_law_463 : decode cL_law 463 = .ok (.iconst 0, 1) := wtL_law_463.1
theorem dL_law_464 : decode cL_law 464 = .ok (.ireturn, 1) := wtL_law_463.2.1
theorem dL_law_465 : decode cL_law 465 = .ok (.goto 1742, 3) := wtL_law_463.2.2.1
theorem dL_law_468 : decode cL_law 468 = .ok (.aload_n 1, 1) := wtL_law_463.2.2.2.1
theorem dL_law_469 : decode cL_law 469 = .ok (.aload_n 0, 1) := wtL_law_463.2.2.2.2.1
theorem dL_law_470 : decode cL_law 470 = .ok (.iload 4, 2) := wtL_law_463.2.2.2.2.2.1
theorem dL_law_472 : decode cL_law 472 = .ok (.iconst 1, 1) := wtL_law_463.2.2.2.2.2.2.1
theorem dL_law_473 : decode cL_law 473 = .ok (.iadd, 1) := wtL_law_463.2.2.2.2.2.2.2.1
theorem dL_law_474 : decode cL_law 474 = .ok (.iaload, 1) := wtL_law_463.2.2.2.2.2.2.2.2.1
theorem dL_law_475 : decode cL_law 475 = .ok (.aload_n 0, 1) := wtL_law_463.2.2.2.2.2.2.2.2.2.1
theorem dL_law_476 : decode cL_law 476 = .ok (.iload 4, 2) := wtL_law_463.2.2.2.2.2.2.2.2.2.2.1
theorem dL_law_478 : decode cL_law 478 = .ok (.iconst 2, 1) := wtL_law_463.2.2.2.2.2.2.2.2.2.2.2.1
theorem dL_law_479 : decode cL_law 479 = .ok (.iadd, 1) := wtL_law_463.2.2.2.2.2.2.2.2.2.2.2.2.1
theorem dL_law_480 : decode cL_law 480 = .ok (.iaload, 1) := wtL_law_463.2.2.2.2.2.2.2.2.2.2.2.2.2.1
theorem dL_law_481 : decode cL_law 481 = .ok (.aload_n 3, 1) := wtL_law_463.2.2.2.2.2.2.2.2.2.2.2.2.2.2.1
theorem dL_law_482 : decode cL_law 482 = .ok (.invokestatic 191, 3) := wtL_law_463.2.2.2.2.2.2.2.2.2.2.2.2.2.2.2.1
theorem dL_law_485 : decode cL_law 485 = .ok (.istore 5, 2) := wtL_law_463.2.2.2.2.2.2.2.2.2.2.2.2.2.2.2.2.1
theorem wtL_law_487 : dwcj cL_law 487 [(0, .aload_n 2, 1), (1, .aload_n 0, 1), (2, .iload 4, 2), (4, .iconst 1, 1), (5, .iadd, 1), (6, .iaload, 1), (7, .aload_n 0, 1), (8, .iload 4, 2), (10, .iconst 2, 1), (11, .iadd, 1), (12, .iaload, 1), (13, .invokevirtual 193, 3), (16, .istore 6, 2), (18, .goto 1702, 3), (21, .aload_n 1, 1), (22, .aload_n 0, 1), (23, .iload 4, 2)] := dw_all (l := [44, 42, 21, 4, 4, 96, 46, 42, 21, 4, 5, 96, 46, 182, 0, 193, 54, 6, 167, 6, 166, 43, 42, 21, 4]) (by decide +kernel)
theorem dL_law_487 : decode cL_law 487 = .ok (.aload_n 2, 1) := wtL_law_487.1
theorem dL_law_488 : decode cL_law 488 = .ok (.aload_n 0, 1) := wtL_law_487.2.1
theorem dL_law_489 : decode cL_law 489 = .ok (.iload 4, 2) := wtL_law_487.2.2.1
theorem dL_law_491 : decode cL_law 491 = .ok (.iconst 1, 1) := wtL_law_487.2.2.2.1
theorem dL_law_492 : decode cL_law 492 = .ok (.iadd, 1) := wtL_law_487.2.2.2.2.1
theorem dL_law_493 : decode cL_law 493 = .ok (.iaload, 1) := wtL_law_487.2.2.2.2.2.1
theorem dL_law_494 : decode cL_law 494 = .ok (.aload_n 0, 1) := wtL_law_487.2.2.2.2.2.2.1
theorem dL_law_495 : decode cL_law 495 = .ok (.iload 4, 2) := wtL_law_487.2.2.2.2.2.2.2.1
theorem dL_law_497 : decode cL_law 497 = .ok (.iconst 2, 1) := wtL_law_487.2.2.2.2.2.2.2.2.1
theorem dL_law_498 : decode cL_law 498 = .ok (.iadd, 1) := wtL_law_487.2.2.2.2.2.2.2.2.2.1
theorem dL_law_499 : decode cL_law 499 = .ok (.iaload, 1) := wtL_law_487.2.2.2.2.2.2.2.2.2.2.1
theorem dL_law_500 : decode cL_law 500 = .ok (.invokevirtual 193, 3) := wtL_law_487.2.2.2.2.2.2.2.2.2.2.2.1
theorem dL_law_503 : decode cL_law 503 = .ok (.istore 6, 2) := wtL_law_487.2.2.2.2.2.2.2.2.2.2.2.2.1
theorem dL_law_505 : decode cL_law 505 = .ok (.goto 1702, 3) := wtL_law_487.2.2.2.2.2.2.2.2.2.2.2.2.2.1
theorem dL_law_508 : decode cL_law 508 = .ok (.aload_n 1, 1) := wtL_law_487.2.2.2.2.2.2.2.2.2.2.2.2.2.2.1
theorem dL_law_509 : decode cL_law 509 = .ok (.aload_n 0, 1) := wtL_law_487.2.2.2.2.2.2.2.2.2.2.2.2.2.2.2.1
theorem dL_law_510 : decode cL_law 510 = .ok (.iload 4, 2) := wtL_law_487.2.2.2.2.2.2.2.2.2.2.2.2.2.2.2.2.1
theorem wtL_law_512 : dwcj cL_law 512 [(0, .iconst 1, 1), (1, .iadd, 1), (2, .iaload, 1), (3, .aload_n 0, 1), (4, .iload 4, 2), (6, .iconst 2, 1), (7, .iadd, 1), (8, .iaload, 1), (9, .aload_n 3, 1), (10, .invokestatic 194, 3), (13, .istore 5, 2), (15, .aload_n 2, 1), (16, .aload_n 0, 1), (17, .iload 4, 2), (19, .iconst 1, 1), (20, .iadd, 1), (21, .iaload, 1), (22, .aload_n 0, 1), (23, .iload 4, 2)] := dw_all (l := [4, 96, 46, 42, 21, 4, 5, 96, 46, 45, 184, 0, 194, 54, 5, 44, 42, 21, 4, 4, 96, 46, 42, 21, 4]) (by decide +kernel)
theorem dL_law_512 : decode cL_law 512 = .ok (.iconst 1, 1) := wtL_law_512.1
theorem dL_law_513 : decode cL_law 513 = .ok (.iadd, 1) := wtL_law_512.2.1
theorem dL_law_514 : decode cL_law 514 = .ok (.iaload, 1) := wtL_law_512.2.2.1
theorem dL_law_515 : decode cL_law 515 = .ok (.aload_n 0, 1) := wtL_law_512.2.2.2.1
theorem dL_law_516 : decode cL_law 516 = .ok (.iload 4, 2) := wtL_law_512.2.2.2.2.1
theorem dL_law_518 : decode cL_law 518 = .ok (.iconst 2, 1) := wtL_law_512.2.2.2.2.2.1
theorem dL_law_519 : decode cL_law 519 = .ok (.iadd, 1) := wtL_law_512.2.2.2.2.2.2.1
theorem dL_law_520 : decode cL_law 520 = .ok (.iaload, 1) := wtL_law_512.2.2.2.2.2.2.2.1
theorem dL_law_521 : decode cL_law 521 = .ok (.aload_n 3, 1) := wtL_law_512.2.2.2.2.2.2.2.2.1
theorem dL_law_522 : decode cL_law 522 = .ok (.invokestatic 194, 3) := wtL_law_512.2.2.2.2.2.2.2.2.2.1
theorem dL_law_525 : decode cL_law 525 = .ok (.istore 5, 2) := wtL_law_512.2.2.2.2.2.2.2.2.2.2.1
theorem dL_law_527 : decode cL_law 527 = .ok (.aload_n 2, 1) := wtL_law_512.2.2.2.2.2.2.2.2.2.2.2.1
theorem dL_law_528 : decode cL_law 528 = .ok (.aload_n 0, 1) := wtL_law_512.2.2.2.2.2.2.2.2.2.2.2.2.1
theorem dL_law_529 : decode cL_law 529 = .ok (.iload 4, 2) := wtL_law_512.2.2.2.2.2.2.2.2.2.2.2.2.2.1
theorem dL_law_531 : decode cL_law 531 = .ok (.iconst 1, 1) := wtL_law_512.2.2.2.2.2.2.2.2.2.2.2.2.2.2.1
theorem dL_law_532 : decode cL_law 532 = .ok (.iadd, 1) := wtL_law_512.2.2.2.2.2.2.2.2.2.2.2.2.2.2.2.1
theorem dL_law_533 : decode cL_law 533 = .ok (.iaload, 1) := wtL_law_512.2.2.2.2.2.2.2.2.2.2.2.2.2.2.2.2.1
theorem dL_law_534 : decode cL_law 534 = .ok (.aload_n 0, 1) := wtL_law_512.2.2.2.2.2.2.2.2.2.2.2.2.2.2.2.2.2.1
theorem dL_law_535 : decode cL_law 535 = .ok (.iload 4, 2) := wtL_law_512.2.2.2.2.2.2.2.2.2.2.2.2.2.2.2.2.2.2.1
theorem wtL_law_537 : dwcj cL_law 537 [(0, .iconst 2, 1), (1, .iadd, 1), (2, .iaload, 1), (3, .invokevirtual 196, 3), (6, .istore 6, 2), (8, .goto 1662, 3), (11, .aload_n 1, 1), (12, .aload_n 0, 1), (13, .iload 4, 2), (15, .iconst 1, 1), (16, .iadd, 1), (17, .iaload, 1), (18, .aload_n 0, 1), (19, .iload 4, 2), (21, .iconst 2, 1), (22, .iadd, 1), (23, .iaload, 1)] := dw_all (l := [5, 96, 46, 182, 0, 196, 54, 6, 167, 6, 126, 43, 42, 21, 4, 4, 96, 46, 42, 21, 4, 5, 96, 46]) (by decide +kernel)
theorem dL_law_537 : decode cL_law 537 = .ok (.iconst 2, 1) := wtL_law_537.1
theorem dL_law_538 : decode cL_law 538 = .ok (.iadd, 1) := wtL_law_537.2.1
theorem dL_law_539 : decode cL_law 539 = .ok (.iaload, 1) := wtL_law_537.2.2.1
theorem dL_law_540 : decode cL_law 540 = .ok (.invokevirtual 196, 3) := wtL_law_537.2.2.2.1
theorem dL_law_543 : decode cL_law 543 = .ok (.istore 6, 2) := wtL_law_537.2.2.2.2.1
theorem dL_law_545 : decode cL_law 545 = .ok (.goto 1662, 3) := wtL_law_537.2.2.2.2.2.1
theorem dL_law_548 : decode cL_law 548 = .ok (.aload_n 1, 1) := wtL_law_537.2.2.2.2.2.2.1
theorem dL_law_549 : decode cL_law 549 = .ok (.aload_n 0, 1) := wtL_law_537.2.2.2.2.2.2.2.1
theorem dL_law_550 : decode cL_law 550 = .ok (.iload 4, 2) := wtL_law_537.2.2.2.2.2.2.2.2.1
theorem dL_law_552 : decode cL_law 552 = .ok (.iconst 1, 1) := wtL_law_537.2.2.2.2.2.2.2.2.2.1
theorem dL_law_553 : decode cL_law 553 = .ok (.iadd, 1) := wtL_law_537.2.2.2.2.2.2.2.2.2.2.1
theorem dL_law_554 : decode cL_law 554 = .ok (.iaload, 1) := wtL_law_537.2.2.2.2.2.2.2.2.2.2.2.1
theorem dL_law_555 : decode cL_law 555 = .ok (.aload_n 0, 1) := wtL_law_537.2.2.2.2.2.2.2.2.2.2.2.2.1
theorem dL_law_556 : decode cL_law 556 = .ok (.iload 4, 2) := wtL_law_537.2.2.2.2.2.2.2.2.2.2.2.2.2.1
theorem dL_law_558 : decode cL_law 558 = .ok (.iconst 2, 1) := wtL_law_537.2.2.2.2.2.2.2.2.2.2.2.2.2.2.1
theorem dL_law_559 : decode cL_law 559 = .ok (.iadd, 1) := wtL_law_537.2.2.2.2.2.2.2.2.2.2.2.2.2.2.2.1
theorem dL_law_560 : decode cL_law 560 = .ok (.iaload, 1) := wtL_law_537.2.2.2.2.2.2.2.2.2.2.2.2.2.2.2.2.1
theorem wtL_law_561 : dwcj cL_law 561 [(0, .aload_n 0, 1), (1, .iload 4, 2), (3, .iconst 3, 1), (4, .iadd, 1), (5, .iaload, 1), (6, .ifCond .eq 7, 3), (9, .iconst 1, 1), (10, .goto 4, 3), (13, .iconst 0, 1), (14, .aload_n 0, 1), (15, .iload 4, 2), (17, .iconst 4, 1), (18, .iadd, 1), (19, .iaload, 1), (20, .aload_n 3, 1), (21, .invokestatic 197, 3)] := dw_all (l := [42, 21, 4, 6, 96, 46, 153, 0, 7, 4, 167, 0, 4, 3, 42, 21, 4, 7, 96, 46, 45, 184, 0, 197]) (by decide +kernel)
theorem dL_law_561 : decode cL_law 561 = .ok (.aload_n 0, 1) := wtL_law_561.1
theorem dL_law_562 : decode cL_law 562 = .ok (.iload 4, 2) := wtL_law_561.2.1
theorem dL_law_564 : decode cL_law 564 = .ok (.iconst 3, 1) := wtL_law_561.2.2.1
theorem dL_law_565 : decode cL_law 565 = .ok (.iadd, 1) := wtL_law_561.2.2.2.1
theorem dL_law_566 : decode cL_law 566 = .ok (.iaload, 1) := wtL_law_561.2.2.2.2.1
theorem dL_law_567 : decode cL_law 567 = .ok (.ifCond .eq 7, 3) := wtL_law_561.2.2.2.2.2.1
theorem dL_law_570 : decode cL_law 570 = .ok (.iconst 1, 1) := wtL_law_561.2.2.2.2.2.2.1
theorem dL_law_571 : decode cL_law 571 = .ok (.goto 4, 3) := wtL_law_561.2.2.2.2.2.2.2.1
theorem dL_law_574 : decode cL_law 574 = .ok (.iconst 0, 1) := wtL_law_561.2.2.2.2.2.2.2.2.1
theorem dL_law_575 : decode cL_law 575 = .ok (.aload_n 0, 1) := wtL_law_561.2.2.2.2.2.2.2.2.2.1
theorem dL_law_576 : decode cL_law 576 = .ok (.iload 4, 2) := wtL_law_561.2.2.2.2.2.2.2.2.2.2.1
theorem dL_law_578 : decode cL_law 578 = .ok (.iconst 4, 1) := wtL_law_561.2.2.2.2.2.2.2.2.2.2.2.1
theorem dL_law_579 : decode cL_law 579 = .ok (.iadd, 1) := wtL_law_561.2.2.2.2.2.2.2.2.2.2.2.2.1
theorem dL_law_580 : decode cL_law 580 = .ok (.iaload, 1) := wtL_law_561.2.2.2.2.2.2.2.2.2.2.2.2.2.1
theorem dL_law_581 : decode cL_law 581 = .ok (.aload_n 3, 1) := wtL_law_561.2.2.2.2.2.2.2.2.2.2.2.2.2.2.1
theorem dL_law_582 : decode cL_law 582 = .ok (.invokestatic 197, 3) := wtL_law_561.2.2.2.2.2.2.2.2.2.2.2.2.2.2.2.1
theorem wtL_law_585 : dwcj cL_law 585 [(0, .istore 5, 2), (2, .aload_n 2, 1), (3, .aload_n 0, 1), (4, .iload 4, 2), (6, .iconst 1, 1), (7, .iadd, 1), (8, .iaload, 1), (9, .aload_n 0, 1), (10, .iload 4, 2), (12, .iconst 2, 1), (13, .iadd, 1), (14, .iaload, 1), (15, .aload_n 0, 1), (16, .iload 4, 2), (18, .iconst 3, 1), (19, .iadd, 1), (20, .iaload, 1), (21, .ifCond .eq 7, 3)] := dw_all (l := [54, 5, 44, 42, 21, 4, 4, 96, 46, 42, 21, 4, 5, 96, 46, 42, 21, 4, 6, 96, 46, 153, 0, 7]) (by decide +kernel)
theorem dL_law_585 : decode cL_law 585 = .ok (.istore 5, 2) := wtL_law_585.1
theorem dL_law_587 : decode cL_law 587 = .ok (.aload_n 2, 1) := wtL_law_585.2.1
theorem dL_law_588 : decode cL_law 588 = .ok (.aload_n 0, 1) := wtL_law_585.2.2.1
theorem dL_law_589 : decode cL_law 589 = .ok (.iload 4, 2) := wtL_law_585.2.2.2.1
theorem dL_law_591 : decode cL_law 591 = .ok (.iconst 1, 1) := wtL_law_585.2.2.2.2.1
theorem dL_law_592 : decode cL_law 592 = .ok (.iadd, 1) := wtL_law_585.2.2.2.2.2.1
theorem dL_law_593 : decode cL_law 593 = .ok (.iaload, 1) := wtL_law_585.2.2.2.2.2.2.1
theorem dL_law_594 : decode cL_law 594 = .ok (.aload_n 0, 1) := wtL_law_585.2.2.2.2.2.2.2.1
theorem dL_law_595 : decode cL_law 595 = .ok (.iload 4, 2) := wtL_law_585.2.2.2.2.2.2.2.2.1
theorem dL_law_597 : decode cL_law 597 = .ok (.iconst 2, 1) := wtL_law_585.2.2.2.2.2.2.2.2.2.1
theorem dL_law_598 : decode cL_law 598 = .ok (.iadd, 1) := wtL_law_585.2.2.2.2.2.2.2.2.2.2.1
theorem dL_law_599 : decode cL_law 599 = .ok (.iaload, 1) := wtL_law_585.2.2.2.2.2.2.2.2.2.2.2.1
theorem dL_law_600 : decode cL_law 600 = .ok (.aload_n 0, 1) := wtL_law_585.2.2.2.2.2.2.2.2.2.2.2.2.1
theorem dL_law_601 : decode cL_law 601 = .ok (.iload 4, 2) := wtL_law_585.2.2.2.2.2.2.2.2.2.2.2.2.2.1
theorem dL_law_603 : decode cL_law 603 = .ok (.iconst 3, 1) := wtL_law_585.2.2.2.2.2.2.2.2.2.2.2.2.2.2.1
theorem dL_law_604 : decode cL_law 604 = .ok (.iadd, 1) := wtL_law_585.2.2.2.2.2.2.2.2.2.2.2.2.2.2.2.1
theorem dL_law_605 : decode cL_law 605 = .ok (.iaload, 1) := wtL_law_585.2.2.2.2.2.2.2.2.2.2.2.2.2.2.2.2.1
theorem dL_law_606 : decode cL_law 606 = .ok (.ifCond .eq 7, 3) := wtL_law_585.2.2.2.2.2.2.2.2.2.2.2.2.2.2.2.2.2.1
theorem wtL_law_609 : dwcj cL_law 609 [(0, .iconst 1, 1), (1, .goto 4, 3), (4, .iconst 0, 1), (5, .aload_n 0, 1), (6, .iload 4, 2), (8, .iconst 4, 1), (9, .iadd, 1), (10, .iaload, 1), (11, .invokevirtual 200, 3), (14, .istore 6, 2), (16, .goto 1582, 3), (19, .aload_n 1, 1), (20, .aload_n 0, 1), (21, .iload 4, 2), (23, .iconst 1, 1)] := dw_all (l := [4, 167, 0, 4, 3, 42, 21, 4, 7, 96, 46, 182, 0, 200, 54, 6, 167, 6, 46, 43, 42, 21, 4, 4]) (by decide +kernel)
theorem dL_law_609 : decode cL_law 609 = .ok (.iconst 1, 1) := wtL_law_609.1
theorem dL_law_610 : decode cL_law 610 = .ok (.goto 4, 3) := wtL_law_609.2.1
theorem dL_law_613 : decode cL_law 613 = .ok (.iconst 0, 1) := wtL_law_609.2.2.1
theorem dL_law_614 : decode cL_law 614 = .ok (.aload_n 0, 1) := wtL_law_609.2.2.2.1
theorem dL_law_615 : decode cL_law 615 = .ok (.iload 4, 2) := wtL_law_609.2.2.2.2.1
theorem dL_law_617 : decode cL_law 617 = .ok (.iconst 4, 1) := wtL_law_609.2.2.2.2.2.1
theorem dL_law_618 : decode cL_law 618 = .ok (.iadd, 1) := wtL_law_609.2.2.2.2.2.2.1
theorem dL_law_619 : decode cL_law 619 = .ok (.iaload, 1) := wtL_law_609.2.2.2.2.2.2.2.1
theorem dL_law_620 : decode cL_law 620 = .ok (.invokevirtual 200, 3) := wtL_law_609.2.2.2.2.2.2.2.2.1
theorem dL_law_623 : decode cL_law 623 = .ok (.istore 6, 2) := wtL_law_609.2.2.2.2.2.2.2.2.2.1
theorem dL_law_625 : decode cL_law 625 = .ok (.goto 1582, 3) := wtL_law_609.2.2.2.2.2.2.2.2.2.2.1
theorem dL_law_628 : decode cL_law 628 = .ok (.aload_n 1, 1) := wtL_law_609.2.2.2.2.2.2.2.2.2.2.2.1
theorem dL_law_629 : decode cL_law 629 = .ok (.aload_n 0, 1) := wtL_law_609.2.2.2.2.2.2.2.2.2.2.2.2.1
theorem dL_law_630 : decode cL_law 630 = .ok (.iload 4, 2) := wtL_law_609.2.2.2.2.2.2.2.2.2.2.2.2.2.1
theorem dL_law_632 : decode cL_law 632 = .ok (.iconst 1, 1) := wtL_law_609.2.2.2.2.2.2.2.2.2.2.2.2.2.2.1
theorem wtL_law_633 : dwcj cL_law 633 [(0, .iadd, 1), (1, .iaload, 1), (2, .aload_n 0, 1), (3, .iload 4, 2), (5, .iconst 2, 1), (6, .iadd, 1), (7, .iaload, 1), (8, .aload_n 0, 1), (9, .iload 4, 2), (11, .iconst 3, 1), (12, .iadd, 1), (13, .iaload, 1), (14, .aload_n 0, 1), (15, .iload 4, 2), (17, .iconst 4, 1), (18, .iadd, 1), (19, .iaload, 1), (20, .aload_n 3, 1), (21, .invokestatic 201, 3)] := dw_all (l := [96, 46, 42, 21, 4, 5, 96, 46, 42, 21, 4, 6, 96, 46, 42, 21, 4, 7, 96, 46, 45, 184, 0, 201]) (by decide +kernel)
theorem dL_law_633 : decode cL_law 633 = .ok (.iadd, 1) := wtL_law_633.1
theorem dL_law_634 : decode cL_law 634 = .ok (.iaload, 1) := wtL_law_633.2.1
theorem dL_law_635 : decode cL_law 635 = .ok (.aload_n 0, 1) := wtL_law_633.2.2.1
theorem dL_law_636 : decode cL_law 636 = .ok (.iload 4, 2) := wtL_law_633.2.2.2.1
theorem dL_law_638 : decode cL_law 638 = .ok (.iconst 2, 1) := wtL_law_633.2.2.2.2.1
theorem dL_law_639 : decode cL_law 639 = .ok (.iadd, 1) := wtL_law_633.2.2.2.2.2.1
theorem dL_law_640 : decode cL_law 640 = .ok (.iaload, 1) := wtL_law_633.2.2.2.2.2.2.1
theorem dL_law_641 : decode cL_law 641 = .ok (.aload_n 0, 1) := wtL_law_633.2.2.2.2.2.2.2.1
theorem dL_law_642 : decode cL_law 642 = .ok (.iload 4, 2) := wtL_law_633.2.2.2.2.2.2.2.2.1
theorem dL_law_644 : decode cL_law 644 = .ok (.iconst 3, 1) := wtL_law_633.2.2.2.2.2.2.2.2.2.1
theorem dL_law_645 : decode cL_law 645 = .ok (.iadd, 1) := wtL_law_633.2.2.2.2.2.2.2.2.2.2.1
theorem dL_law_646 : decode cL_law 646 = .ok (.iaload, 1) := wtL_law_633.2.2.2.2.2.2.2.2.2.2.2.1
theorem dL_law_647 : decode cL_law 647 = .ok (.aload_n 0, 1) := wtL_law_633.2.2.2.2.2.2.2.2.2.2.2.2.1
theorem dL_law_648 : decode cL_law 648 = .ok (.iload 4, 2) := wtL_law_633.2.2.2.2.2.2.2.2.2.2.2.2.2.1
theorem dL_law_650 : decode cL_law 650 = .ok (.iconst 4, 1) := wtL_law_633.2.2.2.2.2.2.2.2.2.2.2.2.2.2.1
theorem dL_law_651 : decode cL_law 651 = .ok (.iadd, 1) := wtL_law_633.2.2.2.2.2.2.2.2.2.2.2.2.2.2.2.1
theorem dL_law_652 : decode cL_law 652 = .ok (.iaload, 1) := wtL_law_633.2.2.2.2.2.2.2.2.2.2.2.2.2.2.2.2.1
theorem dL_law_653 : decode cL_law 653 = .ok (.aload_n 3, 1) := wtL_law_633.2.2.2.2.2.2.2.2.2.2.2.2.2.2.2.2.2.1
theorem dL_law_654 : decode cL_law 654 = .ok (.invokestatic 201, 3) := wtL_law_633.2.2.2.2.2.2.2.2.2.2.2.2.2.2.2.2.2.2.1
theorem wtL_law_657 : dwcj cL_law 657 [(0, .istore 5, 2), (2, .aload_n 2, 1), (3, .aload_n 0, 1), (4, .iload 4, 2), (6, .iconst 1, 1), (7, .iadd, 1), (8, .iaload, 1), (9, .aload_n 0, 1), (10, .iload 4, 2), (12, .iconst 2, 1), (13, .iadd, 1), (14, .iaload, 1), (15, .aload_n 0, 1), (16, .iload 4, 2), (18, .iconst 3, 1), (19, .iadd, 1), (20, .iaload, 1), (21, .aload_n 0, 1), (22, .iload 4, 2)] := dw_all (l := [54, 5, 44, 42, 21, 4, 4, 96, 46, 42, 21, 4, 5, 96, 46, 42, 21, 4, 6, 96, 46, 42, 21, 4]) (by decide +kernel)
theorem dL_law_657 : decode cL_law 657 = .ok (.istore 5, 2) := wtL_law_657.1
theorem dL_law_659 : decode cL_law 659 = .ok (.aload_n 2, 1) := wtL_law_657.2.1
theorem dL_law_660 : decode cL_law 660 = .ok (.aload_n 0, 1) := wtL_law_657.2.2.1
theorem dL_law_661 : decode cL_law 661 = .ok (.iload 4, 2) := wtL_law_657.2.2.2.1
theorem dL_law_663 : decode cL_law 663 = .ok (.iconst 1, 1) := wtL_law_657.2.2.2.2.1
theorem dL_law_664 : decode cL_law 664 = .ok (.iadd, 1) := wtL_law_657.2.2.2.2.2.1
theorem dL_law_665 : decode cL_law 665 = .ok (.iaload, 1) := wtL_law_657.2.2.2.2.2.2.1
theorem dL_law_666 : decode cL_law 666 = .ok (.aload_n 0, 1) := wtL_law_657.2.2.2.2.2.2.2.1
theorem dL_law_667 : decode cL_law 667 = .ok (.iload 4, 2) := wtL_law_657.2.2.2.2.2.2.2.2.1
theorem dL_law_669 : decode cL_law 669 = .ok (.iconst 2, 1) := wtL_law_657.2.2.2.2.2.2.2.2.2.1
theorem dL_law_670 : decode cL_law 670 = .ok (.iadd, 1) := wtL_law_657.2.2.2.2.2.2.2.2.2.2.1
theorem dL_law_671 : decode cL_law 671 = .ok (.iaload, 1) := wtL_law_657.2.2.2.2.2.2.2.2.2.2.2.1
theorem dL_law_672 : decode cL_law 672 = .ok (.aload_n 0, 1) := wtL_law_657.2.2.2.2.2.2.2.2.2.2.2.2.1
theorem dL_law_673 : decode cL_law 673 = .ok (.iload 4, 2) := wtL_law_657.2.2.2.2.2.2.2.2.2.2.2.2.2.1
theorem dL_law_675 : decode cL_law 675 = .ok (.iconst 3, 1) := wtL_law_657.2.2.2.2.2.2.2.2.2.2.2.2.2.2.1
theorem dL_law_676 : decode cL_law 676 = .ok (.iadd, 1) := wtL_law_657.2.2.2.2.2.2.2.2.2.2.2.2.2.2.2.1
theorem dL_law_677 : decode cL_law 677 = .ok (.iaload, 1) := wtL_law_657.2.2.2.2.2.2.2.2.2.2.2.2.2.2.2.2.1
theorem dL_law_678 : decode cL_law 678 = .ok (.aload_n 0, 1) := wtL_law_657.2.2.2.2.2.2.2.2.2.2.2.2.2.2.2.2.2.1
theorem dL_law_679 : decode cL_law 679 = .ok (.iload 4, 2) := wtL_law_657.2.2.2.2.2.2.2.2.2.2.2.2.2.2.2.2.2.2.1
theorem wtL_law_681 : dwcj cL_law 681 [(0, .iconst 4, 1), (1, .iadd, 1), (2, .iaload, 1), (3, .invokevirtual 204, 3), (6, .istore 6, 2), (8, .goto 1518, 3), (11, .aload_n 1, 1), (12, .aload_n 0, 1), (13, .iload 4, 2), (15, .iconst 1, 1), (16, .iadd, 1), (17, .iaload, 1), (18, .aload_n 0, 1), (19, .iload 4, 2), (21, .iconst 2, 1), (22, .iadd, 1), (23, .iaload, 1)] := dw_all (l := [7, 96, 46, 182, 0, 204, 54, 6, 167, 5, 238, 43, 42, 21, 4, 4, 96, 46, 42, 21, 4, 5, 96, 46]) (by decide +kernel)
theorem dL_law_681 : decode cL_law 681 = .ok (.iconst 4, 1) := wtL_law_681.1
theorem dL_law_682 : decode cL_law 682 = .ok (.iadd, 1) := wtL_law_681.2.1
theorem dL_law_683 : decode cL_law 683 = .ok (.iaload, 1) := wtL_law_681.2.2.1
theorem dL_law_684 : decode cL_law 684 = .ok (.invokevirtual 204, 3) := wtL_law_681.2.2.2.1
theorem dL_law_687 : decode cL_law 687 = .ok (.istore 6, 2) := wtL_law_681.2.2.2.2.1
theorem dL_law_689 : decode cL_law 689 = .ok (.goto 1518, 3) := wtL_law_681.2.2.2.2.2.1
theorem dL_law_692 : decode cL_law 692 = .ok (.aload_n 1, 1) := wtL_law_681.2.2.2.2.2.2.1
theorem dL_law_693 : decode cL_law 693 = .ok (.aload_n 0, 1) := wtL_law_681.2.2.2.2.2.2.2.1
theorem dL_law_694 : decode cL_law 694 = .ok (.iload 4, 2) := wtL_law_681.2.2.2.2.2.2.2.2.1
theorem dL_law_696 : decode cL_law 696 = .ok (.iconst 1, 1) := wtL_law_681.2.2.2.2.2.2.2.2.2.1
theorem dL_law_697 : decode cL_law 697 = .ok (.iadd, 1) := wtL_law_681.2.2.2.2.2.2.2.2.2.2.1
theorem dL_law_698 : decode cL_law 698 = .ok (.iaload, 1) := wtL_law_681.2.2.2.2.2.2.2.2.2.2.2.1
theorem dL_law_699 : decode cL_law 699 = .ok (.aload_n 0, 1) := wtL_law_681.2.2.2.2.2.2.2.2.2.2.2.2.1
theorem dL_law_700 : decode cL_law 700 = .ok (.iload 4, 2) := wtL_law_681.2.2.2.2.2.2.2.2.2.2.2.2.2.1
theorem dL_law_702 : decode cL_law 702 = .ok (.iconst 2, 1) := wtL_law_681.2.2.2.2.2.2.2.2.2.2.2.2.2.2.1
theorem dL_law_703 : decode cL_law 703 = .ok (.iadd, 1) := wtL_law_681.2.2.2.2.2.2.2.2.2.2.2.2.2.2.2.1
theorem dL_law_704 : decode cL_law 704 = .ok (.iaload, 1) := wtL_law_681.2.2.2.2.2.2.2.2.2.2.2.2.2.2.2.2.1
theorem wtL_law_705 : dwcj cL_law 705 [(0, .aload_n 0, 1), (1, .iload 4, 2), (3, .iconst 3, 1), (4, .iadd, 1), (5, .iaload, 1), (6, .aload_n 3, 1), (7, .invokestatic 205, 3), (10, .istore 5, 2), (12, .aload_n 2, 1), (13, .aload_n 0, 1), (14, .iload 4, 2), (16, .iconst 1, 1), (17, .iadd, 1), (18, .iaload, 1), (19, .aload_n 0, 1), (20, .iload 4, 2), (22, .iconst 2, 1), (23, .iadd, 1)] := dw_all (l := [42, 21, 4, 6, 96, 46, 45, 184, 0, 205, 54, 5, 44, 42, 21, 4, 4, 96, 46, 42, 21, 4, 5, 96]) (by decide +kernel)
theorem dL_law_705 : decode cL_law 705 = .ok (.aload_n 0, 1) := wtL_law_705.1
theorem dL_law_706 : decode cL_law 706 = .ok (.iload 4, 2) := wtL_law_705.2.1
theorem dL_law_708 : decode cL_law 708 = .ok (.iconst 3, 1) := wtL_law_705.2.2.1
theorem dL_law_709 : decode cL_law 709 = .ok (.iadd, 1) := wtL_law_705.2.2.2.1
theorem dL_law_710 : decode cL_law 710 = .ok (.iaload, 1) := wtL_law_705.2.2.2.2.1
theorem dL_law_711 : decode cL_law 711 = .ok (.aload_n 3, 1) := wtL_law_705.2.2.2.2.2.1
theorem dL_law_712 : decode cL_law 712 = .ok (.invokestatic 205, 3) := wtL_law_705.2.2.2.2.2.2.1
theorem dL_law_715 : decode cL_law 715 = .ok (.istore 5, 2) := wtL_law_705.2.2.2.2.2.2.2.1
theorem dL_law_717 : decode cL_law 717 = .ok (.aload_n 2, 1) := wtL_law_705.2.2.2.2.2.2.2.2.1
theorem dL_law_718 : decode cL_law 718 = .ok (.aload_n 0, 1) := wtL_law_705.2.2.2.2.2.2.2.2.2.1
theorem dL_law_719 : decode cL_law 719 = .ok (.iload 4, 2) := wtL_law_705.2.2.2.2.2.2.2.2.2.2.1
theorem dL_law_721 : decode cL_law 721 = .ok (.iconst 1, 1) := wtL_law_705.2.2.2.2.2.2.2.2.2.2.2.1
theorem dL_law_722 : decode cL_law 722 = .ok (.iadd, 1) := wtL_law_705.2.2.2.2.2.2.2.2.2.2.2.2.1
theorem dL_law_723 : decode cL_law 723 = .ok (.iaload, 1) := wtL_law_705.2.2.2.2.2.2.2.2.2.2.2.2.2.1
theorem dL_law_724 : decode cL_law 724 = .ok (.aload_n 0, 1) := wtL_law_705.2.2.2.2.2.2.2.2.2.2.2.2.2.2.1
theorem dL_law_725 : decode cL_law 725 = .ok (.iload 4, 2) := wtL_law_705.2.2.2.2.2.2.2.2.2.2.2.2.2.2.2.1
theorem dL_law_727 : decode cL_law 727 = .ok (.iconst 2, 1) := wtL_law_705.2.2.2.2.2.2.2.2.2.2.2.2.2.2.2.2.1
theorem dL_law_728 : decode cL_law 728 = .ok (.iadd, 1) := wtL_law_705.2.2.2.2.2.2.2.2.2.2.2.2.2.2.2.2.2.1
theorem wtL_law_729 : dwcj cL_law 729 [(0, .iaload, 1), (1, .aload_n 0, 1), (2, .iload 4, 2), (4, .iconst 3, 1), (5, .iadd, 1), (6, .iaload, 1), (7, .invokevirtual 208, 3), (10, .istore 6, 2), (12, .goto 1466, 3), (15, .aload_n 1, 1), (16, .aload_n 0, 1), (17, .iload 4, 2), (19, .iconst 1, 1), (20, .iadd, 1), (21, .iaload, 1), (22, .aload_n 0, 1), (23, .iload 4, 2)] := dw_all (l := [46, 42, 21, 4, 6, 96, 46, 182, 0, 208, 54, 6, 167, 5, 186, 43, 42, 21, 4, 4, 96, 46, 42, 21, 4]) (by decide +kernel)
theorem dL_law_729 : decode cL_law 729 = .ok (.iaload, 1) := wtL_law_729.1
theorem dL_law_730 : decode cL_law 730 = .ok (.aload_n 0, 1) := wtL_law_729.2.1
theorem dL_law_731 : decode cL_law 731 = .ok (.iload 4, 2) := wtL_law_729.2.2.1
theorem dL_law_733 : decode cL_law 733 = .ok (.iconst 3, 1) := wtL_law_729.2.2.2.1
theorem dL_law_734 : decode cL_law 734 = .ok (.iadd, 1) := wtL_law_729.2.2.2.2.1
theorem dL_law_735 : decode cL_law 735 = .ok (.iaload, 1) := wtL_law_729.2.2.2.2.2.1
theorem dL_law_736 : decode cL_law 736 = .ok (.invokevirtual 208, 3) := wtL_law_729.2.2.2.2.2.2.1
theorem dL_law_739 : decode cL_law 739 = .ok (.istore 6, 2) := wtL_law_729.2.2.2.2.2.2.2.1
theorem dL_law_741 : decode cL_law 741 = .ok (.goto 1466, 3) := wtL_law_729.2.2.2.2.2.2.2.2.1
theorem dL_law_744 : decode cL_law 744 = .ok (.aload_n 1, 1) := wtL_law_729.2.2.2.2.2.2.2.2.2.1
theorem dL_law_745 : decode cL_law 745 = .ok (.aload_n 0, 1) := wtL_law_729.2.2.2.2.2.2.2.2.2.2.1
theorem dL_law_746 : decode cL_law 746 = .ok (.iload 4, 2) := wtL_law_729.2.2.2.2.2.2.2.2.2.2.2.1
theorem dL_law_748 : decode cL_law 748 = .ok (.iconst 1, 1) := wtL_law_729.2.2.2.2.2.2.2.2.2.2.2.2.1
theorem dL_law_749 : decode cL_law 749 = .ok (.iadd, 1) := wtL_law_729.2.2.2.2.2.2.2.2.2.2.2.2.2.1
theorem dL_law_750 : decode cL_law 750 = .ok (.iaload, 1) := wtL_law_729.2.2.2.2.2.2.2.2.2.2.2.2.2.2.1
theorem dL_law_751 : decode cL_law 751 = .ok (.aload_n 0, 1) := wtL_law_729.2.2.2.2.2.2.2.2.2.2.2.2.2.2.2.1
theorem dL_law_752 : decode cL_law 752 = .ok (.iload 4, 2) := wtL_law_729.2.2.2.2.2.2.2.2.2.2.2.2.2.2.2.2.1
theorem wtL_law_754 : dwcj cL_law 754 [(0, .iconst 2, 1), (1, .iadd, 1), (2, .iaload, 1), (3, .aload_n 3, 1), (4, .invokestatic 209, 3), (7, .istore 5, 2), (9, .aload_n 2, 1), (10, .aload_n 0, 1), (11, .iload 4, 2), (13, .iconst 1, 1), (14, .iadd, 1), (15, .iaload, 1), (16, .aload_n 0, 1), (17, .iload 4, 2), (19, .iconst 2, 1), (20, .iadd, 1), (21, .iaload, 1), (22, .invokevirtual 211, 3)] := dw_all (l := [5, 96, 46, 45, 184, 0, 209, 54, 5, 44, 42, 21, 4, 4, 96, 46, 42, 21, 4, 5, 96, 46, 182, 0, 211]) (by decide +kernel)
theorem dL_law_754 : decode cL_law 754 = .ok (.iconst 2, 1) := wtL_law_754.1
theorem dL_law_755 : decode cL_law 755 = .ok (.iadd, 1) := wtL_law_754.2.1
theorem dL_law_756 : decode cL_law 756 = .ok (.iaload, 1) := wtL_law_754.2.2.1
theorem dL_law_757 : decode cL_law 757 = .ok (.aload_n 3, 1) := wtL_law_754.2.2.2.1
theorem dL_law_758 : decode cL_law 758 = .ok (.invokestatic 209, 3) := wtL_law_754.2.2.2.2.1
theorem dL_law_761 : decode cL_law 761 = .ok (.istore 5, 2) := wtL_law_754.2.2.2.2.2.1
theorem dL_law_763 : decode cL_law 763 = .ok (.aload_n 2, 1) := wtL_law_754.2.2.2.2.2.2.1
theorem dL_law_764 : decode cL_law 764 = .ok (.aload_n 0, 1) := wtL_law_754.2.2.2.2.2.2.2.1
theorem dL_law_765 : decode cL_law 765 = .ok (.iload 4, 2) := wtL_law_754.2.2.2.2.2.2.2.2.1
theorem dL_law_767 : decode cL_law 767 = .ok (.iconst 1, 1) := wtL_law_754.2.2.2.2.2.2.2.2.2.1
theorem dL_law_768 : decode cL_law 768 = .ok (.iadd, 1) := wtL_law_754.2.2.2.2.2.2.2.2.2.2.1
theorem dL_law_769 : decode cL_law 769 = .ok (.iaload, 1) := wtL_law_754.2.2.2.2.2.2.2.2.2.2.2.1
theorem dL_law_770 : decode cL_law 770 = .ok (.aload_n 0, 1) := wtL_law_754.2.2.2.2.2.2.2.2.2.2.2.2.1
theorem dL_law_771 : decode cL_law 771 = .ok (.iload 4, 2) := wtL_law_754.2.2.2.2.2.2.2.2.2.2.2.2.2.1
theorem dL_law_773 : decode cL_law 773 = .ok (.iconst 2, 1) := wtL_law_754.2.2.2.2.2.2.2.2.2.2.2.2.2.2.1
theorem dL_law_774 : decode cL_law 774 = .ok (.iadd, 1) := wtL_law_754.2.2.2.2.2.2.2.2.2.2.2.2.2.2.2.1
theorem dL_law_775 : decode cL_law 775 = .ok (.iaload, 1) := wtL_law_754.2.2.2.2.2.2.2.2.2.2.2.2.2.2.2.2.1
theorem dL_law_776 : decode cL_law 776 = .ok (.invokevirtual 211, 3) := wtL_law_754.2.2.2.2.2.2.2.2.2.2.2.2.2.2.2.2.2.1
theorem wtL_law_779 : dwcj cL_law 779 [(0, .istore 6, 2), (2, .goto 1426, 3), (5, .aload_n 1, 1), (6, .aload_n 0, 1), (7, .iload 4, 2), (9, .iconst 1, 1), (10, .iadd, 1), (11, .iaload, 1), (12, .aload_n 0, 1), (13, .iload 4, 2), (15, .iconst 2, 1), (16, .iadd, 1), (17, .iaload, 1), (18, .aload_n 0, 1), (19, .iload 4, 2), (21, .iconst 3, 1), (22, .iadd, 1), (23, .iaload, 1)] := dw_all (l := [54, 6, 167, 5, 146, 43, 42, 21, 4, 4, 96, 46, 42, 21, 4, 5, 96, 46, 42, 21, 4, 6, 96, 46]) (by decide +kernel)
theorem dL_law_779 : decode cL_law 779 = .ok (.istore 6, 2) := wtL_law_779.1
theorem dL_law_781 : decode cL_law 781 = .ok (.goto 1426, 3) := wtL_law_779.2.1
theorem dL_law_784 : decode cL_law 784 = .ok (.aload_n 1, 1) := wtL_law_779.2.2.1
theorem dL_law_785 : decode cL_law 785 = .ok (.aload_n 0, 1) := wtL_law_779.2.2.2.1
theorem dL_law_786 : decode cL_law 786 = .ok (.iload 4, 2) := wtL_law_779.2.2.2.2.1
theorem dL_law_788 : decode cL_law 788 = .ok (.iconst 1, 1) := wtL_law_779.2.2.2.2.2.1
theorem dL_law_789 : decode cL_law 789 = .ok (.iadd, 1) := wtL_law_779.2.2.2.2.2.2.1
theorem dL_law_790 : decode cL_law 790 = .ok (.iaload, 1) := wtL_law_779.2.2.2.2.2.2.2.1
theorem dL_law_791 : decode cL_law 791 = .ok (.aload_n 0, 1) := wtL_law_779.2.2.2.2.2.2.2.2.1
theorem dL_law_792 : decode cL_law 792 = .ok (.iload 4, 2) := wtL_law_779.2.2.2.2.2.2.2.2.2.1
theorem dL_law_794 : decode cL_law 794 = .ok (.iconst 2, 1) := wtL_law_779.2.2.2.2.2.2.2.2.2.2.1
theorem dL_law_795 : decode cL_law 795 = .ok (.iadd, 1) := wtL_law_779.2.2.2.2.2.2.2.2.2.2.2.1
theorem dL_law_796 : decode cL_law 796 = .ok (.iaload, 1) := wtL_law_779.2.2.2.2.2.2.2.2.2.2.2.2.1
theorem dL_law_797 : decode cL_law 797 = .ok (.aload_n 0, 1) := wtL_law_779.2.2.2.2.2.2.2.2.2.2.2.2.2.1
theorem dL_law_798 : decode cL_law 798 = .ok (.iload 4, 2) := wtL_law_779.2.2.2.2.2.2.2.2.2.2.2.2.2.2.1
theorem dL_law_800 : decode cL_law 800 = .ok (.iconst 3, 1) := wtL_law_779.2.2.2.2.2.2.2.2.2.2.2.2.2.2.2.1
theorem dL_law_801 : decode cL_law 801 = .ok (.iadd, 1) := wtL_law_779.2.2.2.2.2.2.2.2.2.2.2.2.2.2.2.2.1
theorem dL_law_802 : decode cL_law 802 = .ok (.iaload, 1) := wtL_law_779.2.2.2.2.2.2.2.2.2.2.2.2.2.2.2.2.2.1
theorem wtL_law_803 : dwcj cL_law 803 [(0, .aload_n 3, 1), (1, .invokestatic 212, 3), (4, .istore 5, 2), (6, .aload_n 2, 1), (7, .aload_n 0, 1), (8, .iload 4, 2), (10, .iconst 1, 1), (11, .iadd, 1), (12, .iaload, 1), (13, .aload_n 0, 1), (14, .iload 4, 2), (16, .iconst 2, 1), (17, .iadd, 1), (18, .iaload, 1), (19, .aload_n 0, 1), (20, .iload 4, 2), (22, .iconst 3, 1), (23, .iadd, 1)] := dw_all (l := [45, 184, 0, 212, 54, 5, 44, 42, 21, 4, 4, 96, 46, 42, 21, 4, 5, 96, 46, 42, 21, 4, 6, 96]) (by decide +kernel)
theorem dL_law_803 : decode cL_law 803 = .ok (.aload_n 3, 1) := wtL_law_803.1
theorem dL_law_804 : decode cL_law 804 = .ok (.invokestatic 212, 3) := wtL_law_803.2.1
theorem dL_law_807 : decode cL_law 807 = .ok (.istore 5, 2) := wtL_law_803.2.2.1
theorem dL_law_809 : decode cL_law 809 = .ok (.aload_n 2, 1) := wtL_law_803.2.2.2.1
theorem dL_law_810 : decode cL_law 810 = .ok (.aload_n 0, 1) := wtL_law_803.2.2.2.2.1
theorem dL_law_811 : decode cL_law 811 = .ok (.iload 4, 2) := wtL_law_803.2.2.2.2.2.1
theorem dL_law_813 : decode cL_law 813 = .ok (.iconst 1, 1) := wtL_law_803.2.2.2.2.2.2.1
theorem dL_law_814 : decode cL_law 814 = .ok (.iadd, 1) := wtL_law_803.2.2.2.2.2.2.2.1
theorem dL_law_815 : decode cL_law 815 = .ok (.iaload, 1) := wtL_law_803.2.2.2.2.2.2.2.2.1
theorem dL_law_816 : decode cL_law 816 = .ok (.aload_n 0, 1) := wtL_law_803.2.2.2.2.2.2.2.2.2.1
theorem dL_law_817 : decode cL_law 817 = .ok (.iload 4, 2) := wtL_law_803.2.2.2.2.2.2.2.2.2.2.1
theorem dL_law_819 : decode cL_law 819 = .ok (.iconst 2, 1) := wtL_law_803.2.2.2.2.2.2.2.2.2.2.2.1
theorem dL_law_820 : decode cL_law 820 = .ok (.iadd, 1) := wtL_law_803.2.2.2.2.2.2.2.2.2.2.2.2.1
theorem dL_law_821 : decode cL_law 821 = .ok (.iaload, 1) := wtL_law_803.2.2.2.2.2.2.2.2.2.2.2.2.2.1
theorem dL_law_822 : decode cL_law 822 = .ok (.aload_n 0, 1) := wtL_law_803.2.2.2.2.2.2.2.2.2.2.2.2.2.2.1
theorem dL_law_823 : decode cL_law 823 = .ok (.iload 4, 2) := wtL_law_803.2.2.2.2.2.2.2.2.2.2.2.2.2.2.2.1
theorem dL_law_825 : decode cL_law 825 = .ok (.iconst 3, 1) := wtL_law_803.2.2.2.2.2.2.2.2.2.2.2.2.2.2.2.2.1
theorem dL_law_826 : decode cL_law 826 = .ok (.iadd, 1) := wtL_law_803.2.2.2.2.2.2.2.2.2.2.2.2.2.2.2.2.2.1
theorem wtL_law_827 : dwcj cL_law 827 [(0, .iaload, 1), (1, .invokevirtual 214, 3), (4, .istore 6, 2), (6, .goto 1374, 3), (9, .aload_n 1, 1), (10, .aload_n 0, 1), (11, .iload 4, 2), (13, .iconst 1, 1), (14, .iadd, 1), (15, .iaload, 1), (16, .aload_n 0, 1), (17, .iload 4, 2), (19, .iconst 2, 1), (20, .iadd, 1), (21, .iaload, 1), (22, .aload_n 0, 1), (23, .iload 4, 2)] := dw_all (l := [46, 182, 0, 214, 54, 6, 167, 5, 94, 43, 42, 21, 4, 4, 96, 46, 42, 21, 4, 5, 96, 46, 42, 21, 4]) (by decide +kernel)
theorem dL_law_827 : decode cL_law 827 = .ok (.iaload, 1) := wtL_law_827.1
theorem dL_law_828 : decode cL_law 828 = .ok (.invokevirtual 214, 3) := wtL_law_827.2.1
theorem dL_law_831 : decode cL_law 831 = .ok (.istore 6, 2) := wtL_law_827.2.2.1
theorem dL_law_833 : decode cL_law 833 = .ok (.goto 1374, 3) := wtL_law_827.2.2.2.1
theorem dL_law_836 : decode cL_law 836 = .ok (.aload_n 1, 1) := wtL_law_827.2.2.2.2.1
theorem dL_law_837 : decode cL_law 837 = .ok (.aload_n 0, 1) := wtL_law_827.2.2.2.2.2.1
theorem dL_law_838 : decode cL_law 838 = .ok (.iload 4, 2) := wtL_law_827.2.2.2.2.2.2.1
theorem dL_law_840 : decode cL_law 840 = .ok (.iconst 1, 1) := wtL_law_827.2.2.2.2.2.2.2.1
theorem dL_law_841 : decode cL_law 841 = .ok (.iadd, 1) := wtL_law_827.2.2.2.2.2.2.2.2.1
theorem dL_law_842 : decode cL_law 842 = .ok (.iaload, 1) := wtL_law_827.2.2.2.2.2.2.2.2.2.1
theorem dL_law_843 : decode cL_law 843 = .ok (.aload_n 0, 1) := wtL_law_827.2.2.2.2.2.2.2.2.2.2.1
theorem dL_law_844 : decode cL_law 844 = .ok (.iload 4, 2) := wtL_law_827.2.2.2.2.2.2.2.2.2.2.2.1
theorem dL_law_846 : decode cL_law 846 = .ok (.iconst 2, 1) := wtL_law_827.2.2.2.2.2.2.2.2.2.2.2.2.1
theorem dL_law_847 : decode cL_law 847 = .ok (.iadd, 1) := wtL_law_827.2.2.2.2.2.2.2.2.2.2.2.2.2.1
theorem dL_law_848 : decode cL_law 848 = .ok (.iaload, 1) := wtL_law_827.2.2.2.2.2.2.2.2.2.2.2.2.2.2.1
theorem dL_law_849 : decode cL_law 849 = .ok (.aload_n 0, 1) := wtL_law_827.2.2.2.2.2.2.2.2.2.2.2.2.2.2.2.1
theorem dL_law_850 : decode cL_law 850 = .ok (.iload 4, 2) := wtL_law_827.2.2.2.2.2.2.2.2.2.2.2.2.2.2.2.2.1
theorem wtL_law_852 : dwcj cL_law 852 [(0, .iconst 3, 1), (1, .iadd, 1), (2, .iaload, 1), (3, .aload_n 3, 1), (4, .invokestatic 215, 3), (7, .istore 5, 2), (9, .aload_n 2, 1), (10, .aload_n 0, 1), (11, .iload 4, 2), (13, .iconst 1, 1), (14, .iadd, 1), (15, .iaload, 1), (16, .aload_n 0, 1), (17, .iload 4, 2), (19, .iconst 2, 1), (20, .iadd, 1), (21, .iaload, 1), (22, .aload_n 0, 1), (23, .iload 4, 2)] := dw_all (l := [6, 96, 46, 45, 184, 0, 215, 54, 5, 44, 42, 21, 4, 4, 96, 46, 42, 21, 4, 5, 96, 46, 42, 21, 4]) (by decide +kernel)
theorem dL_law_852 : decode cL_law 852 = .ok (.iconst 3, 1) := wtL_law_852.1
theorem dL_law_853 : decode cL_law 853 = .ok (.iadd, 1) := wtL_law_852.2.1
theorem dL_law_854 : decode cL_law 854 = .ok (.iaload, 1) := wtL_law_852.2.2.1
theorem dL_law_855 : decode cL_law 855 = .ok (.aload_n 3, 1) := wtL_law_852.2.2.2.1
theorem dL_law_856 : decode cL_law 856 = .ok (.invokestatic 215, 3) := wtL_law_852.2.2.2.2.1
theorem dL_law_859 : decode cL_law 859 = .ok (.istore 5, 2) := wtL_law_852.2.2.2.2.2.1
theorem dL_law_861 : decode cL_law 861 = .ok (.aload_n 2, 1) := wtL_law_852.2.2.2.2.2.2.1
theorem dL_law_862 : decode cL_law 862 = .ok (.aload_n 0, 1) := wtL_law_852.2.2.2.2.2.2.2.1
theorem dL_law_863 : decode cL_law 863 = .ok (.iload 4, 2) := wtL_law_852.2.2.2.2.2.2.2.2.1
theorem dL_law_865 : decode cL_law 865 = .ok (.iconst 1, 1) := wtL_law_852.2.2.2.2.2.2.2.2.2.1
theorem dL_law_866 : decode cL_law 866 = .ok (.iadd, 1) := wtL_law_852.2.2.2.2.2.2.2.2.2.2.1
theorem dL_law_867 : decode cL_law 867 = .ok (.iaload, 1) := wtL_law_852.2.2.2.2.2.2.2.2.2.2.2.1
theorem dL_law_868 : decode cL_law 868 = .ok (.aload_n 0, 1) := wtL_law_852.2.2.2.2.2.2.2.2.2.2.2.2.1
theorem dL_law_869 : decode cL_law 869 = .ok (.iload 4, 2) := wtL_law_852.2.2.2.2.2.2.2.2.2.2.2.2.2.1
theorem dL_law_871 : decode cL_law 871 = .ok (.iconst 2, 1) := wtL_law_852.2.2.2.2.2.2.2.2.2.2.2.2.2.2.1
theorem dL_law_872 : decode cL_law 872 = .ok (.iadd, 1) := wtL_law_852.2.2.2.2.2.2.2.2.2.2.2.2.2.2.2.1
theorem dL_law_873 : decode cL_law 873 = .ok (.iaload, 1) := wtL_law_852.2.2.2.2.2.2.2.2.2.2.2.2.2.2.2.2.1
theorem dL_law_874 : decode cL_law 874 = .ok (.aload_n 0, 1) := wtL_law_852.2.2.2.2.2.2.2.2.2.2.2.2.2.2.2.2.2.1
theorem dL_law_875 : decode cL_law 875 = .ok (.iload 4, 2) := wtL_law_852.2.2.2.2.2.2.2.2.2.2.2.2.2.2.2.2.2.2.1
theorem wtL_law_877 : dwcj cL_law 877 [(0, .iconst 3, 1), (1, .iadd, 1), (2, .iaload, 1), (3, .invokevirtual 217, 3), (6, .istore 6, 2), (8, .goto 1322, 3), (11, .aload_n 1, 1), (12, .aload_n 0, 1), (13, .iload 4, 2), (15, .iconst 1, 1), (16, .iadd, 1), (17, .iaload, 1), (18, .aload_n 0, 1), (19, .iload 4, 2), (21, .iconst 2, 1), (22, .iadd, 1), (23, .iaload, 1)] := dw_all (l := [6, 96, 46, 182, 0, 217, 54, 6, 167, 5, 42, 43, 42, 21, 4, 4, 96, 46, 42, 21, 4, 5, 96, 46]) (by decide +kernel)
theorem dL_law_877 : decode cL_law 877 = .ok (.iconst 3, 1) := wtL_law_877.1
theorem dL_law_878 : decode cL_law 878 = .ok (.iadd, 1) := wtL_law_877.2.1
theorem dL_law_879 : decode cL_law 879 = .ok (.iaload, 1) := wtL_law_877.2.2.1
theorem dL_law_880 : decode cL_law 880 = .ok (.invokevirtual 217, 3) := wtL_law_877.2.2.2.1
theorem dL_law_883 : decode cL_law 883 = .ok (.istore 6, 2) := wtL_law_877.2.2.2.2.1
theorem dL_law_885 : decode cL_law 885 = .ok (.goto 1322, 3) := wtL_law_877.2.2.2.2.2.1
theorem dL_law_888 : decode cL_law 888 = .ok (.aload_n 1, 1) := wtL_law_877.2.2.2.2.2.2.1
theorem dL_law_889 : decode cL_law 889 = .ok (.aload_n 0, 1) := wtL_law_877.2.2.2.2.2.2.2.1
theorem dL_law_890 : decode cL_law 890 = .ok (.iload 4, 2) := wtL_law_877.2.2.2.2.2.2.2.2.1
theorem dL_law_892 : decode cL_law 892 = .ok (.iconst 1, 1) := wtL_law_877.2.2.2.2.2.2.2.2.2.1
theorem dL_law_893 : decode cL_law 893 = .ok (.iadd, 1) := wtL_law_877.2.2.2.2.2.2.2.2.2.2.1
theorem dL_law_894 : decode cL_law 894 = .ok (.iaload, 1) := wtL_law_877.2.2.2.2.2.2.2.2.2.2.2.1
theorem dL_law_895 : decode cL_law 895 = .ok (.aload_n 0, 1) := wtL_law_877.2.2.2.2.2.2.2.2.2.2.2.2.1
theorem dL_law_896 : decode cL_law 896 = .ok (.iload 4, 2) := wtL_law_877.2.2.2.2.2.2.2.2.2.2.2.2.2.1
theorem dL_law_898 : decode cL_law 898 = .ok (.iconst 2, 1) := wtL_law_877.2.2.2.2.2.2.2.2.2.2.2.2.2.2.1
theorem dL_law_899 : decode cL_law 899 = .ok (.iadd, 1) := wtL_law_877.2.2.2.2.2.2.2.2.2.2.2.2.2.2.2.1
theorem dL_law_900 : decode cL_law 900 = .ok (.iaload, 1) := wtL_law_877.2.2.2.2.2.2.2.2.2.2.2.2.2.2.2.2.1
theorem wtL_law_901 : dwcj cL_law 901 [(0, .aload_n 0, 1), (1, .iload 4, 2), (3, .iconst 3, 1), (4, .iadd, 1), (5, .iaload, 1), (6, .aload_n 3, 1), (7, .invokestatic 218, 3), (10, .istore 5, 2), (12, .aload_n 2, 1), (13, .aload_n 0, 1), (14, .iload 4, 2), (16, .iconst 1, 1), (17, .iadd, 1), (18, .iaload, 1), (19, .aload_n 0, 1), (20, .iload 4, 2), (22, .iconst 2, 1), (23, .iadd, 1)] := dw_all (l := [42, 21, 4, 6, 96, 46, 45, 184, 0, 218, 54, 5, 44, 42, 21, 4, 4, 96, 46, 42, 21, 4, 5, 96]) (by decide +kernel)
theorem dL_law_901 : decode cL_law 901 = .ok (.aload_n 0, 1) := wtL_law_901.1
theorem dL_law_902 : decode cL_law 902 = .ok (.iload 4, 2) := wtL_law_901.2.1
theorem dL_law_904 : decode cL_law 904 = .ok (.iconst 3, 1) := wtL_law_901.2.2.1
theorem dL_law_905 : decode cL_law 905 = .ok (.iadd, 1) := wtL_law_901.2.2.2.1
theorem dL_law_906 : decode cL_law 906 = .ok (.iaload, 1) := wtL_law_901.2.2.2.2.1
theorem dL_law_907 : decode cL_law 907 = .ok (.aload_n 3, 1) := wtL_law_901.2.2.2.2.2.1
theorem dL_law_908 : decode cL_law 908 = .ok (.invokestatic 218, 3) := wtL_law_901.2.2.2.2.2.2.1
theorem dL_law_911 : decode cL_law 911 = .ok (.istore 5, 2) := wtL_law_901.2.2.2.2.2.2.2.1
theorem dL_law_913 : decode cL_law 913 = .ok (.aload_n 2, 1) := wtL_law_901.2.2.2.2.2.2.2.2.1
theorem dL_law_914 : decode cL_law 914 = .ok (.aload_n 0, 1) := wtL_law_901.2.2.2.2.2.2.2.2.2.1
theorem dL_law_915 : decode cL_law 915 = .ok (.iload 4, 2) := wtL_law_901.2.2.2.2.2.2.2.2.2.2.1
theorem dL_law_917 : decode cL_law 917 = .ok (.iconst 1, 1) := wtL_law_901.2.2.2.2.2.2.2.2.2.2.2.1
theorem dL_law_918 : decode cL_law 918 = .ok (.iadd, 1) := wtL_law_901.2.2.2.2.2.2.2.2.2.2.2.2.1
theorem dL_law_919 : decode cL_law 919 = .ok (.iaload, 1) := wtL_law_901.2.2.2.2.2.2.2.2.2.2.2.2.2.1
theorem dL_law_920 : decode cL_law 920 = .ok (.aload_n 0, 1) := wtL_law_901.2.2.2.2.2.2.2.2.2.2.2.2.2.2.1
theorem dL_law_921 : decode cL_law 921 = .ok (.iload 4, 2) := wtL_law_901.2.2.2.2.2.2.2.2.2.2.2.2.2.2.2.1
theorem dL_law_923 : decode cL_law 923 = .ok (.iconst 2, 1) := wtL_law_901.2.2.2.2.2.2.2.2.2.2.2.2.2.2.2.2.1
theorem dL_law_924 : decode cL_law 924 = .ok (.iadd, 1) := wtL_law_901.2.2.2.2.2.2.2.2.2.2.2.2.2.2.2.2.2.1
theorem wtL_law_925 : dwcj cL_law 925 [(0, .iaload, 1), (1, .aload_n 0, 1), (2, .iload 4, 2), (4, .iconst 3, 1), (5, .iadd, 1), (6, .iaload, 1), (7, .invokevirtual 220, 3), (10, .istore 6, 2), (12, .goto 1270, 3), (15, .aload_n 1, 1), (16, .aload_n 0, 1), (17, .iload 4, 2), (19, .iconst 1, 1), (20, .iadd, 1), (21, .iaload, 1), (22, .aload_n 0, 1), (23, .iload 4, 2)] := dw_all (l := [46, 42, 21, 4, 6, 96, 46, 182, 0, 220, 54, 6, 167, 4, 246, 43, 42, 21, 4, 4, 96, 46, 42, 21, 4]) (by decide +kernel)
theorem dL_law_925 : decode cL_law 925 = .ok (.iaload, 1) := wtL_law_925.1
theorem dL_law_926 : decode cL_law 926 = .ok (.aload_n 0, 1) := wtL_law_925.2.1
theorem dL_law_927 : decode cL_law 927 = .ok (.iload 4, 2) := wtL_law_925.2.2.1
theorem dL_law_929 : decode cL_law 929 = .ok (.iconst 3, 1) := wtL_law_925.2.2.2.1
theorem dL_law_930 : decode cL_law 930 = .ok (.iadd, 1) := wtL_law_925.2.2.2.2.1
theorem dL_law_931 : decode cL_law 931 = .ok (.iaload, 1) := wtL_law_925.2.2.2.2.2.1
theorem dL_law_932 : decode cL_law 932 = .ok (.invokevirtual 220, 3) := wtL_law_925.2.2.2.2.2.2.1
theorem dL_law_935 : decode cL_law 935 = .ok (.istore 6, 2) := wtL_law_925.2.2.2.2.2.2.2.1
theorem dL_law_937 : decode cL_law 937 = .ok (.goto 1270, 3) := wtL_law_925.2.2.2.2.2.2.2.2.1
theorem dL_law_940 : decode cL_law 940 = .ok (.aload_n 1, 1) := wtL_law_925.2.2.2.2.2.2.2.2.2.1
theorem dL_law_941 : decode cL_law 941 = .ok (.aload_n 0, 1) := wtL_law_925.2.2.2.2.2.2.2.2.2.2.1
theorem dL_law_942 : decode cL_law 942 = .ok (.iload 4, 2) := wtL_law_925.2.2.2.2.2.2.2.2.2.2.2.1
theorem dL_law_944 : decode cL_law 944 = .ok (.iconst 1, 1) := wtL_law_925.2.2.2.2.2.2.2.2.2.2.2.2.1
theorem dL_law_945 : decode cL_law 945 = .ok (.iadd, 1) := wtL_law_925.2.2.2.2.2.2.2.2.2.2.2.2.2.1
theorem dL_law_946 : decode cL_law 946 = .ok (.iaload, 1) := wtL_law_925.2.2.2.2.2.2.2.2.2.2.2.2.2.2.1
theorem dL_law_947 : decode cL_law 947 = .ok (.aload_n 0, 1) := wtL_law_925.2.2.2.2.2.2.2.2.2.2.2.2.2.2.2.1
theorem dL_law_948 : decode cL_law 948 = .ok (.iload 4, 2) := wtL_law_925.2.2.2.2.2.2.2.2.2.2.2.2.2.2.2.2.1
theorem wtL_law_950 : dwcj cL_law 950 [(0, .iconst 2, 1), (1, .iadd, 1), (2, .iaload, 1), (3, .aload_n 0, 1), (4, .iload 4, 2), (6, .iconst 3, 1), (7, .iadd, 1), (8, .iaload, 1), (9, .aload_n 3, 1), (10, .invokestatic 221, 3), (13, .istore 5, 2), (15, .aload_n 2, 1), (16, .aload_n 0, 1), (17, .iload 4, 2), (19, .iconst 1, 1), (20, .iadd, 1), (21, .iaload, 1), (22, .aload_n 0, 1), (23, .iload 4, 2)] := dw_all (l := [5, 96, 46, 42, 21, 4, 6, 96, 46, 45, 184, 0, 221, 54, 5, 44, 42, 21, 4, 4, 96, 46, 42, 21, 4]) (by decide +kernel)
theorem dL_law_950 : decode cL_law 950 = .ok (.iconst 2, 1) := wtL_law_950.1
theorem dL_law_951 : decode cL_law 951 = .ok (.iadd, 1) := wtL_law_950.2.1
theorem dL_law_952 : decode cL_law 952 = .ok (.iaload, 1) := wtL_law_950.2.2.1
theorem dL_law_953 : decode cL_law 953 = .ok (.aload_n 0, 1) := wtL_law_950.2.2.2.1
theorem dL_law_954 : decode cL_law 954 = .ok (.iload 4, 2) := wtL_law_950.2.2.2.2.1
theorem dL_law_956 : decode cL_law 956 = .ok (.iconst 3, 1) := wtL_law_950.2.2.2.2.2.1
theorem dL_law_957 : decode cL_law 957 = .ok (.iadd, 1) := wtL_law_950.2.2.2.2.2.2.1
theorem dL_law_958 : decode cL_law 958 = .ok (.iaload, 1) := wtL_law_950.2.2.2.2.2.2.2.1
theorem dL_law_959 : decode cL_law 959 = .ok (.aload_n 3, 1) := wtL_law_950.2.2.2.2.2.2.2.2.1
theorem dL_law_960 : decode cL_law 960 = .ok (.invokestatic 221, 3) := wtL_law_950.2.2.2.2.2.2.2.2.2.1
theorem dL_law_963 : decode cL_law 963 = .ok (.istore 5, 2) := wtL_law_950.2.2.2.2.2.2.2.2.2.2.1
theorem dL_law_965 : decode cL_law 965 = .ok (.aload_n 2, 1) := wtL_law_950.2.2.2.2.2.2.2.2.2.2.2.1
theorem dL_law_966 : decode cL_law 966 = .ok (.aload_n 0, 1) := wtL_law_950.2.2.2.2.2.2.2.2.2.2.2.2.1
theorem dL_law_967 : decode cL_law 967 = .ok (.iload 4, 2) := wtL_law_950.2.2.2.2.2.2.2.2.2.2.2.2.2.1
theorem dL_law_969 : decode cL_law 969 = .ok (.iconst 1, 1) := wtL_law_950.2.2.2.2.2.2.2.2.2.2.2.2.2.2.1
theorem dL_law_970 : decode cL_law 970 = .ok (.iadd, 1) := wtL_law_950.2.2.2.2.2.2.2.2.2.2.2.2.2.2.2.1
theorem dL_law_971 : decode cL_law 971 = .ok (.iaload, 1) := wtL_law_950.2.2.2.2.2.2.2.2.2.2.2.2.2.2.2.2.1
theorem dL_law_972 : decode cL_law 972 = .ok (.aload_n 0, 1) := wtL_law_950.2.2.2.2.2.2.2.2.2.2.2.2.2.2.2.2.2.1
theorem dL_law_973 : decode cL_law 973 = .ok (.iload 4, 2) := wtL_law_950.2.2.2.2.2.2.2.2.2.2.2.2.2.2.2.2.2.2.1
theorem wtL_law_975 : dwcj cL_law 975 [(0, .iconst 2, 1), (1, .iadd, 1), (2, .iaload, 1), (3, .aload_n 0, 1), (4, .iload 4, 2), (6, .iconst 3, 1), (7, .iadd, 1), (8, .iaload, 1), (9, .invokevirtual 223, 3), (12, .istore 6, 2), (14, .goto 1218, 3), (17, .aload_n 1, 1), (18, .aload_n 0, 1), (19, .iload 4, 2), (21, .iconst 1, 1), (22, .iadd, 1), (23, .iaload, 1)] := dw_all (l := [5, 96, 46, 42, 21, 4, 6, 96, 46, 182, 0, 223, 54, 6, 167, 4, 194, 43, 42, 21, 4, 4, 96, 46]) (by decide +kernel)
theorem dL_law_975 : decode cL_law 975 = .ok (.iconst 2, 1) := wtL_law_975.1
theorem dL_law_976 : decode cL_law 976 = .ok (.iadd, 1) := wtL_law_975.2.1
theorem dL_law_977 : decode cL_law 977 = .ok (.iaload, 1) := wtL_law_975.2.2.1
theorem dL_law_978 : decode cL_law 978 = .ok (.aload_n 0, 1) := wtL_law_975.2.2.2.1
theorem dL_law_979 : decode cL_law 979 = .ok (.iload 4, 2) := wtL_law_975.2.2.2.2.1
theorem dL_law_981 : decode cL_law 981 = .ok (.iconst 3, 1) := wtL_law_975.2.2.2.2.2.1
theorem dL_law_982 : decode cL_law 982 = .ok (.iadd, 1) := wtL_law_975.2.2.2.2.2.2.1
theorem dL_law_983 : decode cL_law 983 = .ok (.iaload, 1) := wtL_law_975.2.2.2.2.2.2.2.1
theorem dL_law_984 : decode cL_law 984 = .ok (.invokevirtual 223, 3) := wtL_law_975.2.2.2.2.2.2.2.2.1
theorem dL_law_987 : decode cL_law 987 = .ok (.istore 6, 2) := wtL_law_975.2.2.2.2.2.2.2.2.2.1
theorem dL_law_989 : decode cL_law 989 = .ok (.goto 1218, 3) := wtL_law_975.2.2.2.2.2.2.2.2.2.2.1
theorem dL_law_992 : decode cL_law 992 = .ok (.aload_n 1, 1) := wtL_law_975.2.2.2.2.2.2.2.2.2.2.2.1
theorem dL_law_993 : decode cL_law 993 = .ok (.aload_n 0, 1) := wtL_law_975.2.2.2.2.2.2.2.2.2.2.2.2.1
theorem dL_law_994 : decode cL_law 994 = .ok (.iload 4, 2) := wtL_law_975.2.2.2.2.2.2.2.2.2.2.2.2.2.1
theorem dL_law_996 : decode cL_law 996 = .ok (.iconst 1, 1) := wtL_law_975.2.2.2.2.2.2.2.2.2.2.2.2.2.2.1
theorem dL_law_997 : decode cL_law 997 = .ok (.iadd, 1) := wtL_law_975.2.2.2.2.2.2.2.2.2.2.2.2.2.2.2.1
theorem dL_law_998 : decode cL_law 998 = .ok (.iaload, 1) := wtL_law_975.2.2.2.2.2.2.2.2.2.2.2.2.2.2.2.2.1
theorem wtL_law_999 : dwcj cL_law 999 [(0, .aload_n 0, 1), (1, .iload 4, 2), (3, .iconst 2, 1), (4, .iadd, 1), (5, .iaload, 1), (6, .aload_n 0, 1), (7, .iload 4, 2), (9, .iconst 3, 1), (10, .iadd, 1), (11, .iaload, 1), (12, .aload_n 3, 1), (13, .invokestatic 224, 3), (16, .istore 5, 2), (18, .aload_n 2, 1), (19, .aload_n 0, 1), (20, .iload 4, 2), (22, .iconst 1, 1), (23, .iadd, 1)] := dw_all (l := [42, 21, 4, 5, 96, 46, 42, 21, 4, 6, 96, 46, 45, 184, 0, 224, 54, 5, 44, 42, 21, 4, 4, 96]) (by decide +kernel)
theorem dL_law_999 : decode cL_law 999 = .ok (.aload_n 0, 1) := wtL_law_999.1
theorem dL_law_1000 : decode cL_law 1000 = .ok (.iload 4, 2) := wtL_law_999.2.1
theorem dL_law_1002 : decode cL_law 1002 = .ok (.iconst 2, 1) := wtL_law_999.2.2.1
theorem dL_law_1003 : decode cL_law 1003 = .ok (.iadd, 1) := wtL_law_999.2.2.2.1
theorem dL_law_1004 : decode cL_law 1004 = .ok (.iaload, 1) := wtL_law_999.2.2.2.2.1
theorem dL_law_1005 : decode cL_law 1005 = .ok (.aload_n 0, 1) := wtL_law_999.2.2.2.2.2.1
theorem dL_law_1006 : decode cL_law 1006 = .ok (.iload 4, 2) := wtL_law_999.2.2.2.2.2.2.1
theorem dL_law_1008 : decode cL_law 1008 = .ok (.iconst 3, 1) := wtL_law_999.2.2.2.2.2.2.2.1
theorem dL_law_1009 : decode cL_law 1009 = .ok (.iadd, 1) := wtL_law_999.2.2.2.2.2.2.2.2.1
theorem dL_law_1010 : decode cL_law 1010 = .ok (.iaload, 1) := wtL_law_999.2.2.2.2.2.2.2.2.2.1
theorem dL_law_1011 : decode cL_law 1011 = .ok (.aload_n 3, 1) := wtL_law_999.2.2.2.2.2.2.2.2.2.2.1
theorem dL_law_1012 : decode cL_law 1012 = .ok (.invokestatic 224, 3) := wtL_law_999.2.2.2.2.2.2.2.2.2.2.2.1
theorem dL_law_1015 : decode cL_law 1015 = .ok (.istore 5, 2) := wtL_law_999.2.2.2.2.2.2.2.2.2.2.2.2.1
theorem dL_law_1017 : decode cL_law 1017 = .ok (.aload_n 2, 1) := wtL_law_999.2.2.2.2.2.2.2.2.2.2.2.2.2.1
theorem dL_law_1018 : decode cL_law 1018 = .ok (.aload_n 0, 1) := wtL_law_999.2.2.2.2.2.2.2.2.2.2.2.2.2.2.1
theorem dL_law_1019 : decode cL_law 1019 = .ok (.iload 4, 2) := wtL_law_999.2.2.2.2.2.2.2.2.2.2.2.2.2.2.2.1
theorem dL_law_1021 : decode cL_law 1021 = .ok (.iconst 1, 1) := wtL_law_999.2.2.2.2.2.2.2.2.2.2.2.2.2.2.2.2.1
theorem dL_law_1022 : decode cL_law 1022 = .ok (.iadd, 1) := wtL_law_999.2.2.2.2.2.2.2.2.2.2.2.2.2.2.2.2.2.1
theorem wtL_law_1023 : dwcj cL_law 1023 [(0, .iaload, 1), (1, .aload_n 0, 1), (2, .iload 4, 2), (4, .iconst 2, 1), (5, .iadd, 1), (6, .iaload, 1), (7, .aload_n 0, 1), (8, .iload 4, 2), (10, .iconst 3, 1), (11, .iadd, 1), (12, .iaload, 1), (13, .invokevirtual 226, 3), (16, .istore 6, 2), (18, .goto 1166, 3), (21, .aload_n 1, 1), (22, .aload_n 0, 1), (23, .iload 4, 2)] := dw_all (l := [46, 42, 21, 4, 5, 96, 46, 42, 21, 4, 6, 96, 46, 182, 0, 226, 54, 6, 167, 4, 142, 43, 42, 21, 4]) (by decide +kernel)
theorem dL_law_1023 : decode cL_law 1023 = .ok (.iaload, 1) := wtL_law_1023.1
theorem dL_law_1024 : decode cL_law 1024 = .ok (.aload_n 0, 1) := wtL_law_1023.2.1
theorem dL_law_1025 : decode cL_law 1025 = .ok (.iload 4, 2) := wtL_law_1023.2.2.1
theorem dL_law_1027 : decode cL_law 1027 = .ok (.iconst 2, 1) := wtL_law_1023.2.2.2.1
theorem dL_law_1028 : decode cL_law 1028 = .ok (.iadd, 1) := wtL_law_1023.2.2.2.2.1
theorem dL_law_1029 : decode cL_law 1029 = .ok (.iaload, 1) := wtL_law_1023.2.2.2.2.2.1
theorem dL_law_1030 : decode cL_law 1030 = .ok (.aload_n 0, 1) := wtL_law_1023.2.2.2.2.2.2.1
theorem dL_law_1031 : decode cL_law 1031 = .ok (.iload 4, 2) := wtL_law_1023.2.2.2.2.2.2.2.1
theorem dL_law_1033 : decode cL_law 1033 = .ok (.iconst 3, 1) := wtL_law_1023.2.2.2.2.2.2.2.2.1
theorem dL_law_1034 : decode cL_law 1034 = .ok (.iadd, 1) := wtL_law_1023.2.2.2.2.2.2.2.2.2.1
theorem dL_law_1035 : decode cL_law 1035 = .ok (.iaload, 1) := wtL_law_1023.2.2.2.2.2.2.2.2.2.2.1
theorem dL_law_1036 : decode cL_law 1036 = .ok (.invokevirtual 226, 3) := wtL_law_1023.2.2.2.2.2.2.2.2.2.2.2.1
theorem dL_law_1039 : decode cL_law 1039 = .ok (.istore 6, 2) := wtL_law_1023.2.2.2.2.2.2.2.2.2.2.2.2.1
theorem dL_law_1041 : decode cL_law 1041 = .ok (.goto 1166, 3) := wtL_law_1023.2.2.2.2.2.2.2.2.2.2.2.2.2.1
theorem dL_law_1044 : decode cL_law 1044 = .ok (.aload_n 1, 1) := wtL_law_1023.2.2.2.2.2.2.2.2.2.2.2.2.2.2.1
theorem dL_law_1045 : decode cL_law 1045 = .ok (.aload_n 0, 1) := wtL_law_1023.2.2.2.2.2.2.2.2.2.2.2.2.2.2.2.1
theorem dL_law_1046 : decode cL_law 1046 = .ok (.iload 4, 2) := wtL_law_1023.2.2.2.2.2.2.2.2.2.2.2.2.2.2.2.2.1
theorem wtL_law_1048 : dwcj cL_law 1048 [(0, .iconst 1, 1), (1, .iadd, 1), (2, .iaload, 1), (3, .aload_n 0, 1), (4, .iload 4, 2), (6, .iconst 2, 1), (7, .iadd, 1), (8, .iaload, 1), (9, .aload_n 0, 1), (10, .iload 4, 2), (12, .iconst 3, 1), (13, .iadd, 1), (14, .iaload, 1), (15, .ifCond .eq 7, 3), (18, .iconst 1, 1), (19, .goto 4, 3), (22, .iconst 0, 1), (23, .aload_n 0, 1)] := dw_all (l := [4, 96, 46, 42, 21, 4, 5, 96, 46, 42, 21, 4, 6, 96, 46, 153, 0, 7, 4, 167, 0, 4, 3, 42]) (by decide +kernel)
theorem dL_law_1048 : decode cL_law 1048 = .ok (.iconst 1, 1) := wtL_law_1048.1
theorem dL_law_1049 : decode cL_law 1049 = .ok (.iadd, 1) := wtL_law_1048.2.1
theorem dL_law_1050 : decode cL_law 1050 = .ok (.iaload, 1) := wtL_law_1048.2.2.1
theorem dL_law_1051 : decode cL_law 1051 = .ok (.aload_n 0, 1) := wtL_law_1048.2.2.2.1
theorem dL_law_1052 : decode cL_law 1052 = .ok (.iload 4, 2) := wtL_law_1048.2.2.2.2.1
theorem dL_law_1054 : decode cL_law 1054 = .ok (.iconst 2, 1) := wtL_law_1048.2.2.2.2.2.1
theorem dL_law_1055 : decode cL_law 1055 = .ok (.iadd, 1) := wtL_law_1048.2.2.2.2.2.2.1
theorem dL_law_1056 : decode cL_law 1056 = .ok (.iaload, 1) := wtL_law_1048.2.2.2.2.2.2.2.1
theorem dL_law_1057 : decode cL_law 1057 = .ok (.aload_n 0, 1) := wtL_law_1048.2.2.2.2.2.2.2.2.1
theorem dL_law_1058 : decode cL_law 1058 = .ok (.iload 4, 2) := wtL_law_1048.2.2.2.2.2.2.2.2.2.1
theorem dL_law_1060 : decode cL_law 1060 = .ok (.iconst 3, 1) := wtL_law_1048.2.2.2.2.2.2.2.2.2.2.1
theorem dL_law_1061 : decode cL_law 1061 = .ok (.iadd, 1) := wtL_law_1048.2.2.2.2.2.2.2.2.2.2.2.1
theorem dL_law_1062 : decode cL_law 1062 = .ok (.iaload, 1) := wtL_law_1048.2.2.2.2.2.2.2.2.2.2.2.2.1
theorem dL_law_1063 : decode cL_law 1063 = .ok (.ifCond .eq 7, 3) := wtL_law_1048.2.2.2.2.2.2.2.2.2.2.2.2.2.1
theorem dL_law_1066 : decode cL_law 1066 = .ok (.iconst 1, 1) := wtL_law_1048.2.2.2.2.2.2.2.2.2.2.2.2.2.2.1
theorem dL_law_1067 : decode cL_law 1067 = .ok (.goto 4, 3) := wtL_law_1048.2.2.2.2.2.2.2.2.2.2.2.2.2.2.2.1
theorem dL_law_1070 : decode cL_law 1070 = .ok (.iconst 0, 1) := wtL_law_1048.2.2.2.2.2.2.2.2.2.2.2.2.2.2.2.2.1
theorem dL_law_1071 : decode cL_law 1071 = .ok (.aload_n 0, 1) := wtL_law_1048.2.2.2.2.2.2.2.2.2.2.2.2.2.2.2.2.2.1
theorem wtL_law_1072 : dwcj cL_law 1072 [(0, .iload 4, 2), (2, .iconst 4, 1), (3, .iadd, 1), (4, .iaload, 1), (5, .aload_n 3, 1), (6, .invokestatic 227, 3), (9, .istore 5, 2), (11, .aload_n 2, 1), (12, .aload_n 0, 1), (13, .iload 4, 2), (15, .iconst 1, 1), (16, .iadd, 1), (17, .iaload, 1), (18, .aload_n 0, 1), (19, .iload 4, 2), (21, .iconst 2, 1), (22, .iadd, 1), (23, .iaload, 1)] := dw_all (l := [21, 4, 7, 96, 46, 45, 184, 0, 227, 54, 5, 44, 42, 21, 4, 4, 96, 46, 42, 21, 4, 5, 96, 46]) (by decide +kernel)
theorem dL_law_1072 : decode cL_law 1072 = .ok (.iload 4, 2) := wtL_law_1072.1
theorem dL_law_1074 : decode cL_law 1074 = .ok (.iconst 4, 1) := wtL_law_1072.2.1
theorem dL_law_1075 : decode cL_law 1075 = .ok (.iadd, 1) := wtL_law_1072.2.2.1
theorem dL_law_1076 : decode cL_law 1076 = .ok (.iaload, 1) := wtL_law_1072.2.2.2.1
theorem dL_law_1077 : decode cL_law 1077 = .ok (.aload_n 3, 1) := wtL_law_1072.2.2.2.2.1
theorem dL_law_1078 : decode cL_law 1078 = .ok (.invokestatic 227, 3) := wtL_law_1072.2.2.2.2.2.1
theorem dL_law_1081 : decode cL_law 1081 = .ok (.istore 5, 2) := wtL_law_1072.2.2.2.2.2.2.1
theorem dL_law_1083 : decode cL_law 1083 = .ok (.aload_n 2, 1) := wtL_law_1072.2.2.2.2.2.2.2.1
theorem dL_law_1084 : decode cL_law 1084 = .ok (.aload_n 0, 1) := wtL_law_1072.2.2.2.2.2.2.2.2.1
theorem dL_law_1085 : decode cL_law 1085 = .ok (.iload 4, 2) := wtL_law_1072.2.2.2.2.2.2.2.2.2.1
theorem dL_law_1087 : decode cL_law 1087 = .ok (.iconst 1, 1) := wtL_law_1072.2.2.2.2.2.2.2.2.2.2.1
theorem dL_law_1088 : decode cL_law 1088 = .ok (.iadd, 1) := wtL_law_1072.2.2.2.2.2.2.2.2.2.2.2.1
theorem dL_law_1089 : decode cL_law 1089 = .ok (.iaload, 1) := wtL_law_1072.2.2.2.2.2.2.2.2.2.2.2.2.1
theorem dL_law_1090 : decode cL_law 1090 = .ok (.aload_n 0, 1) := wtL_law_1072.2.2.2.2.2.2.2.2.2.2.2.2.2.1
theorem dL_law_1091 : decode cL_law 1091 = .ok (.iload 4, 2) := wtL_law_1072.2.2.2.2.2.2.2.2.2.2.2.2.2.2.1
theorem dL_law_1093 : decode cL_law 1093 = .ok (.iconst 2, 1) := wtL_law_1072.2.2.2.2.2.2.2.2.2.2.2.2.2.2.2.1
theorem dL_law_1094 : decode cL_law 1094 = .ok (.iadd, 1) := wtL_law_1072.2.2.2.2.2.2.2.2.2.2.2.2.2.2.2.2.1
theorem dL_law_1095 : decode cL_law 1095 = .ok (.iaload, 1) := wtL_law_1072.2.2.2.2.2.2.2.2.2.2.2.2.2.2.2.2.2.1
theorem wtL_law_1096 : dwcj cL_law 1096 [(0, .aload_n 0, 1), (1, .iload 4, 2), (3, .iconst 3, 1), (4, .iadd, 1), (5, .iaload, 1), (6, .ifCond .eq 7, 3), (9, .iconst 1, 1), (10, .goto 4, 3), (13, .iconst 0, 1), (14, .aload_n 0, 1), (15, .iload 4, 2), (17, .iconst 4, 1), (18, .iadd, 1), (19, .iaload, 1), (20, .invokevirtual 229, 3), (23, .istore 6, 2)] := dw_all (l := [42, 21, 4, 6, 96, 46, 153, 0, 7, 4, 167, 0, 4, 3, 42, 21, 4, 7, 96, 46, 182, 0, 229, 54, 6]) (by decide +kernel)
theorem dL_law_1096 : decode cL_law 1096 = .ok (.aload_n 0, 1) := wtL_law_1096.1
theorem dL_law_1097 : decode cL_law 1097 = .ok (.iload 4, 2) := wtL_law_1096.2.1
theorem dL_law_1099 : decode cL_law 1099 = .ok (.iconst 3, 1) := wtL_law_1096.2.2.1
theorem dL_law_1100 : decode cL_law 1100 = .ok (.iadd, 1) := wtL_law_1096.2.2.2.1
theorem dL_law_1101 : decode cL_law 1101 = .ok (.iaload, 1) := wtL_law_1096.2.2.2.2.1
theorem dL_law_1102 : decode cL_law 1102 = .ok (.ifCond .eq 7, 3) := wtL_law_1096.2.2.2.2.2.1
theorem dL_law_1105 : decode cL_law 1105 = .ok (.iconst 1, 1) := wtL_law_1096.2.2.2.2.2.2.1
theorem dL_law_1106 : decode cL_law 1106 = .ok (.goto 4, 3) := wtL_law_1096.2.2.2.2.2.2.2.1
theorem dL_law_1109 : decode cL_law 1109 = .ok (.iconst 0, 1) := wtL_law_1096.2.2.2.2.2.2.2.2.1
theorem dL_law_1110 : decode cL_law 1110 = .ok (.aload_n 0, 1) := wtL_law_1096.2.2.2.2.2.2.2.2.2.1
theorem dL_law_1111 : decode cL_law 1111 = .ok (.iload 4, 2) := wtL_law_1096.2.2.2.2.2.2.2.2.2.2.1
theorem dL_law_1113 : decode cL_law 1113 = .ok (.iconst 4, 1) := wtL_law_1096.2.2.2.2.2.2.2.2.2.2.2.1
theorem dL_law_1114 : decode cL_law 1114 = .ok (.iadd, 1) := wtL_law_1096.2.2.2.2.2.2.2.2.2.2.2.2.1
theorem dL_law_1115 : decode cL_law 1115 = .ok (.iaload, 1) := wtL_law_1096.2.2.2.2.2.2.2.2.2.2.2.2.2.1
theorem dL_law_1116 : decode cL_law 1116 = .ok (.invokevirtual 229, 3) := wtL_law_1096.2.2.2.2.2.2.2.2.2.2.2.2.2.2.1
theorem dL_law_1119 : decode cL_law 1119 = .ok (.istore 6, 2) := wtL_law_1096.2.2.2.2.2.2.2.2.2.2.2.2.2.2.2.1
theorem wtL_law_1121 : dwcj cL_law 1121 [(0, .goto 1086, 3), (3, .aload_n 1, 1), (4, .aload_n 0, 1), (5, .iload 4, 2), (7, .iconst 1, 1), (8, .iadd, 1), (9, .iaload, 1), (10, .aload_n 0, 1), (11, .iload 4, 2), (13, .iconst 2, 1), (14, .iadd, 1), (15, .iaload, 1), (16, .aload_n 3, 1), (17, .invokestatic 230, 3), (20, .istore 5, 2), (22, .aload_n 2, 1), (23, .aload_n 0, 1)] := dw_all (l := [167, 4, 62, 43, 42, 21, 4, 4, 96, 46, 42, 21, 4, 5, 96, 46, 45, 184, 0, 230, 54, 5, 44, 42]) (by decide +kernel)
theorem dL_law_1121 : decode cL_law 1121 = .ok (.goto 1086, 3) := wtL_law_1121.1
theorem dL_law_1124 : decode cL_law 1124 = .ok (.aload_n 1, 1) := wtL_law_1121.2.1
theorem dL_law_1125 : decode cL_law 1125 = .ok (.aload_n 0, 1) := wtL_law_1121.2.2.1
theorem dL_law_1126 : decode cL_law 1126 = .ok (.iload 4, 2) := wtL_law_1121.2.2.2.1
theorem dL_law_1128 : decode cL_law 1128 = .ok (.iconst 1, 1) := wtL_law_1121.2.2.2.2.1
theorem dL_law_1129 : decode cL_law 1129 = .ok (.iadd, 1) := wtL_law_1121.2.2.2.2.2.1
theorem dL_law_1130 : decode cL_law 1130 = .ok (.iaload, 1) := wtL_law_1121.2.2.2.2.2.2.1
theorem dL_law_1131 : decode cL_law 1131 = .ok (.aload_n 0, 1) := wtL_law_1121.2.2.2.2.2.2.2.1
theorem dL_law_1132 : decode cL_law 1132 = .ok (.iload 4, 2) := wtL_law_1121.2.2.2.2.2.2.2.2.1
theorem dL_law_1134 : decode cL_law 1134 = .ok (.iconst 2, 1) := wtL_law_1121.2.2.2.2.2.2.2.2.2.1
theorem dL_law_1135 : decode cL_law 1135 = .ok (.iadd, 1) := wtL_law_1121.2.2.2.2.2.2.2.2.2.2.1
theorem dL_law_1136 : decode cL_law 1136 = .ok (.iaload, 1) := wtL_law_1121.2.2.2.2.2.2.2.2.2.2.2.1
theorem dL_law_1137 : decode cL_law 1137 = .ok (.aload_n 3, 1) := wtL_law_1121.2.2.2.2.2.2.2.2.2.2.2.2.1
theorem dL_law_1138 : decode cL_law 1138 = .ok (.invokestatic 230, 3) := wtL_law_1121.2.2.2.2.2.2.2.2.2.2.2.2.2.1
theorem dL_law_1141 : decode cL_law 1141 = .ok (.istore 5, 2) := wtL_law_1121.2.2.2.2.2.2.2.2.2.2.2.2.2.2.1
theorem dL_law_1143 : decode cL_law 1143 = .ok (.aload_n 2, 1) := wtL_law_1121.2.2.2.2.2.2.2.2.2.2.2.2.2.2.2.1
theorem dL_law_1144 : decode cL_law 1144 = .ok (.aload_n 0, 1) := wtL_law_1121.2.2.2.2.2.2.2.2.2.2.2.2.2.2.2.2.1
theorem wtL_law_1145 : dwcj cL_law 1145 [(0, .iload 4, 2), (2, .iconst 1, 1), (3, .iadd, 1), (4, .iaload, 1), (5, .aload_n 0, 1), (6, .iload 4, 2), (8, .iconst 2, 1), (9, .iadd, 1), (10, .iaload, 1), (11, .invokevirtual 232, 3), (14, .istore 6, 2), (16, .goto 1046, 3), (19, .aload_n 1, 1), (20, .aload_n 0, 1), (21, .iload 4, 2), (23, .iconst 1, 1)] := dw_all (l := [21, 4, 4, 96, 46, 42, 21, 4, 5, 96, 46, 182, 0, 232, 54, 6, 167, 4, 22, 43, 42, 21, 4, 4]) (by decide +kernel)
theorem dL_law_1145 : decode cL_law 1145 = .ok (.iload 4, 2) := wtL_law_1145.1
theorem dL_law_1147 : decode cL_law 1147 = .ok (.iconst 1, 1) := wtL_law_1145.2.1
theorem dL_law_1148 : decode cL_law 1148 = .ok (.iadd, 1) := wtL_law_1145.2.2.1
theorem dL_law_1149 : decode cL_law 1149 = .ok (.iaload, 1) := wtL_law_1145.2.2.2.1
theorem dL_law_1150 : decode cL_law 1150 = .ok (.aload_n 0, 1) := wtL_law_1145.2.2.2.2.1
theorem dL_law_1151 : decode cL_law 1151 = .ok (.iload 4, 2) := wtL_law_1145.2.2.2.2.2.1
theorem dL_law_1153 : decode cL_law 1153 = .ok (.iconst 2, 1) := wtL_law_1145.2.2.2.2.2.2.1
theorem dL_law_1154 : decode cL_law 1154 = .ok (.iadd, 1) := wtL_law_1145.2.2.2.2.2.2.2.1
theorem dL_law_1155 : decode cL_law 1155 = .ok (.iaload, 1) := wtL_law_1145.2.2.2.2.2.2.2.2.1
theorem dL_law_1156 : decode cL_law 1156 = .ok (.invokevirtual 232, 3) := wtL_law_1145.2.2.2.2.2.2.2.2.2.1
theorem dL_law_1159 : decode cL_law 1159 = .ok (.istore 6, 2) := wtL_law_1145.2.2.2.2.2.2.2.2.2.2.1
theorem dL_law_1161 : decode cL_law 1161 = .ok (.goto 1046, 3) := wtL_law_1145.2.2.2.2.2.2.2.2.2.2.2.1
theorem dL_law_1164 : decode cL_law 1164 = .ok (.aload_n 1, 1) := wtL_law_1145.2.2.2.2.2.2.2.2.2.2.2.2.1
theorem dL_law_1165 : decode cL_law 1165 = .ok (.aload_n 0, 1) := wtL_law_1145.2.2.2.2.2.2.2.2.2.2.2.2.2.1
theorem dL_law_1166 : decode cL_law 1166 = .ok (.iload 4, 2) := wtL_law_1145.2.2.2.2.2.2.2.2.2.2.2.2.2.2.1
theorem dL_law_1168 : decode cL_law 1168 = .ok (.iconst 1, 1) := wtL_law_1145.2.2.2.2.2.2.2.2.2.2.2.2.2.2.2.1
theorem wtL_law_1169 : dwcj cL_law 1169 [(0, .iadd, 1), (1, .iaload, 1), (2, .aload_n 0, 1), (3, .iload 4, 2), (5, .iconst 2, 1), (6, .iadd, 1), (7, .iaload, 1), (8, .aload_n 3, 1), (9, .invokestatic 233, 3), (12, .istore 5, 2), (14, .aload_n 2, 1), (15, .aload_n 0, 1), (16, .iload 4, 2), (18, .iconst 1, 1), (19, .iadd, 1), (20, .iaload, 1), (21, .aload_n 0, 1), (22, .iload 4, 2)] := dw_all (l := [96, 46, 42, 21, 4, 5, 96, 46, 45, 184, 0, 233, 54, 5, 44, 42, 21, 4, 4, 96, 46, 42, 21, 4]) (by decide +kernel)
theorem dL_law_1169 : decode cL_law 1169 = .ok (.iadd, 1) := wtL_law_1169.1
theorem dL_law_1170 : decode cL_law 1170 = .ok (.iaload, 1) := wtL_law_1169.2.1
theorem dL_law_1171 : decode cL_law 1171 = .ok (.aload_n 0, 1) := wtL_law_1169.2.2.1
theorem dL_law_1172 : decode cL_law 1172 = .ok (.iload 4, 2) := wtL_law_1169.2.2.2.1
theorem dL_law_1174 : decode cL_law 1174 = .ok (.iconst 2, 1) := wtL_law_1169.2.2.2.2.1
theorem dL_law_1175 : decode cL_law 1175 = .ok (.iadd, 1) := wtL_law_1169.2.2.2.2.2.1
theorem dL_law_1176 : decode cL_law 1176 = .ok (.iaload, 1) := wtL_law_1169.2.2.2.2.2.2.1
theorem dL_law_1177 : decode cL_law 1177 = .ok (.aload_n 3, 1) := wtL_law_1169.2.2.2.2.2.2.2.1
theorem dL_law_1178 : decode cL_law 1178 = .ok (.invokestatic 233, 3) := wtL_law_1169.2.2.2.2.2.2.2.2.1
theorem dL_law_1181 : decode cL_law 1181 = .ok (.istore 5, 2) := wtL_law_1169.2.2.2.2.2.2.2.2.2.1
theorem dL_law_1183 : decode cL_law 1183 = .ok (.aload_n 2, 1) := wtL_law_1169.2.2.2.2.2.2.2.2.2.2.1
theorem dL_law_1184 : decode cL_law 1184 = .ok (.aload_n 0, 1) := wtL_law_1169.2.2.2.2.2.2.2.2.2.2.2.1
theorem dL_law_1185 : decode cL_law 1185 = .ok (.iload 4, 2) := wtL_law_1169.2.2.2.2.2.2.2.2.2.2.2.2.1
theorem dL_law_1187 : decode cL_law 1187 = .ok (.iconst 1, 1) := wtL_law_1169.2.2.2.2.2.2.2.2.2.2.2.2.2.1
theorem dL_law_1188 : decode cL_law 1188 = .ok (.iadd, 1) := wtL_law_1169.2.2.2.2.2.2.2.2.2.2.2.2.2.2.1
theorem dL_law_1189 : decode cL_law 1189 = .ok (.iaload, 1) := wtL_law_1169.2.2.2.2.2.2.2.2.2.2.2.2.2.2.2.1
theorem dL_law_1190 : decode cL_law 1190 = .ok (.aload_n 0, 1) := wtL_law_1169.2.2.2.2.2.2.2.2.2.2.2.2.2.2.2.2.1
theorem dL_law_1191 : decode cL_law 1191 = .ok (.iload 4, 2) := wtL_law_1169.2.2.2.2.2.2.2.2.2.2.2.2.2.2.2.2.2.1
theorem wtL_law_1193 : dwcj cL_law 1193 [(0, .iconst 2, 1), (1, .iadd, 1), (2, .iaload, 1), (3, .invokevirtual 235, 3), (6, .istore 6, 2), (8, .goto 1006, 3), (11, .aload_n 1, 1), (12, .aload_n 0, 1), (13, .iload 4, 2), (15, .iconst 1, 1), (16, .iadd, 1), (17, .iaload, 1), (18, .aload_n 0, 1), (19, .iload 4, 2), (21, .iconst 2, 1), (22, .iadd, 1), (23, .iaload, 1)] := dw_all (l := [5, 96, 46, 182, 0, 235, 54, 6, 167, 3, 238, 43, 42, 21, 4, 4, 96, 46, 42, 21, 4, 5, 96, 46]) (by decide +kernel)
theorem dL_law_1193 : decode cL_law 1193 = .ok (.iconst 2, 1) := wtL_law_1193.1
theorem dL_law_1194 : decode cL_law 1194 = .ok (.iadd, 1) := wtL_law_1193.2.1
theorem dL_law_1195 : decode cL_law 1195 = .ok (.iaload, 1) := wtL_law_1193.2.2.1
theorem dL_law_1196 : decode cL_law 1196 = .ok (.invokevirtual 235, 3) := wtL_law_1193.2.2.2.1
theorem dL_law_1199 : decode cL_law 1199 = .ok (.istore 6, 2) := wtL_law_1193.2.2.2.2.1
theorem dL_law_1201 : decode cL_law 1201 = .ok (.goto 1006, 3) := wtL_law_1193.2.2.2.2.2.1
theorem dL_law_1204 : decode cL_law 1204 = .ok (.aload_n 1, 1) := wtL_law_1193.2.2.2.2.2.2.1
theorem dL_law_1205 : decode cL_law 1205 = .ok (.aload_n 0, 1) := wtL_law_1193.2.2.2.2.2.2.2.1
theorem dL_law_1206 : decode cL_law 1206 = .ok (.iload 4, 2) := wtL_law_1193.2.2.2.2.2.2.2.2.1
theorem dL_law_1208 : decode cL_law 1208 = .ok (.iconst 1, 1) := wtL_law_1193.2.2.2.2.2.2.2.2.2.1
theorem dL_law_1209 : decode cL_law 1209 = .ok (.iadd, 1) := wtL_law_1193.2.2.2.2.2.2.2.2.2.2.1
theorem dL_law_1210 : decode cL_law 1210 = .ok (.iaload, 1) := wtL_law_1193.2.2.2.2.2.2.2.2.2.2.2.1
theorem dL_law_1211 : decode cL_law 1211 = .ok (.aload_n 0, 1) := wtL_law_1193.2.2.2.2.2.2.2.2.2.2.2.2.1
theorem dL_law_1212 : decode cL_law 1212 = .ok (.iload 4, 2) := wtL_law_1193.2.2.2.2.2.2.2.2.2.2.2.2.2.1
theorem dL_law_1214 : decode cL_law 1214 = .ok (.iconst 2, 1) := wtL_law_1193.2.2.2.2.2.2.2.2.2.2.2.2.2.2.1
theorem dL_law_1215 : decode cL_law 1215 = .ok (.iadd, 1) := wtL_law_1193.2.2.2.2.2.2.2.2.2.2.2.2.2.2.2.1
theorem dL_law_1216 : decode cL_law 1216 = .ok (.iaload, 1) := wtL_law_1193.2.2.2.2.2.2.2.2.2.2.2.2.2.2.2.2.1
theorem wtL_law_1217 : dwcj cL_law 1217 [(0, .aload_n 3, 1), (1, .invokestatic 236, 3), (4, .istore 5, 2), (6, .aload_n 2, 1), (7, .aload_n 0, 1), (8, .iload 4, 2), (10, .iconst 1, 1), (11, .iadd, 1), (12, .iaload, 1), (13, .aload_n 0, 1), (14, .iload 4, 2), (16, .iconst 2, 1), (17, .iadd, 1), (18, .iaload, 1), (19, .invokevirtual 238, 3), (22, .istore 6, 2)] := dw_all (l := [45, 184, 0, 236, 54, 5, 44, 42, 21, 4, 4, 96, 46, 42, 21, 4, 5, 96, 46, 182, 0, 238, 54, 6]) (by decide +kernel)
theorem dL_law_1217 : decode cL_law 1217 = .ok (.aload_n 3, 1) := wtL_law_1217.1
theorem dL_law_1218 : decode cL_law 1218 = .ok (.invokestatic 236, 3) := wtL_law_1217.2.1
theorem dL_law_1221 : decode cL_law 1221 = .ok (.istore 5, 2) := wtL_law_1217.2.2.1
theorem dL_law_1223 : decode cL_law 1223 = .ok (.aload_n 2, 1) := wtL_law_1217.2.2.2.1
theorem dL_law_1224 : decode cL_law 1224 = .ok (.aload_n 0, 1) := wtL_law_1217.2.2.2.2.1
theorem dL_law_1225 : decode cL_law 1225 = .ok (.iload 4, 2) := wtL_law_1217.2.2.2.2.2.1
theorem dL_law_1227 : decode cL_law 1227 = .ok (.iconst 1, 1) := wtL_law_1217.2.2.2.2.2.2.1
theorem dL_law_1228 : decode cL_law 1228 = .ok (.iadd, 1) := wtL_law_1217.2.2.2.2.2.2.2.1
theorem dL_law_1229 : decode cL_law 1229 = .ok (.iaload, 1) := wtL_law_1217.2.2.2.2.2.2.2.2.1
theorem dL_law_1230 : decode cL_law 1230 = .ok (.aload_n 0, 1) := wtL_law_1217.2.2.2.2.2.2.2.2.2.1
theorem dL_law_1231 : decode cL_law 1231 = .ok (.iload 4, 2) := wtL_law_1217.2.2.2.2.2.2.2.2.2.2.1
theorem dL_law_1233 : decode cL_law 1233 = .ok (.iconst 2, 1) := wtL_law_1217.2.2.2.2.2.2.2.2.2.2.2.1
theorem dL_law_1234 : decode cL_law 1234 = .ok (.iadd, 1) := wtL_law_1217.2.2.2.2.2.2.2.2.2.2.2.2.1
theorem dL_law_1235 : decode cL_law 1235 = .ok (.iaload, 1) := wtL_law_1217.2.2.2.2.2.2.2.2.2.2.2.2.2.1
theorem dL_law_1236 : decode cL_law 1236 = .ok (.invokevirtual 238, 3) := wtL_law_1217.2.2.2.2.2.2.2.2.2.2.2.2.2.2.1
theorem dL_law_1239 : decode cL_law 1239 = .ok (.istore 6, 2) := wtL_law_1217.2.2.2.2.2.2.2.2.2.2.2.2.2.2.2.1
theorem wtL_law_1241 : dwcj cL_law 1241 [(0, .goto 966, 3), (3, .aload_n 1, 1), (4, .aload_n 0, 1), (5, .iload 4, 2), (7, .iconst 1, 1), (8, .iadd, 1), (9, .iaload, 1), (10, .aload_n 0, 1), (11, .iload 4, 2), (13, .iconst 2, 1), (14, .iadd, 1), (15, .iaload, 1), (16, .aload_n 3, 1), (17, .invokestatic 239, 3), (20, .istore 5, 2), (22, .aload_n 2, 1), (23, .aload_n 0, 1)] := dw_all (l := [167, 3, 198, 43, 42, 21, 4, 4, 96, 46, 42, 21, 4, 5, 96, 46, 45, 184, 0, 239, 54, 5, 44, 42]) (by decide +kernel)
theorem dL_law_1241 : decode cL_law 1241 = .ok (.goto 966, 3) := wtL_law_1241.1
theorem dL_law_1244 : decode cL_law 1244 = .ok (.aload_n 1, 1) := wtL_law_1241.2.1
theorem dL_law_1245 : decode cL_law 1245 = .ok (.aload_n 0, 1) := wtL_law_1241.2.2.1
theorem dL_law_1246 : decode cL_law 1246 = .ok (.iload 4, 2) := wtL_law_1241.2.2.2.1
theorem dL_law_1248 : decode cL_law 1248 = .ok (.iconst 1, 1) := wtL_law_1241.2.2.2.2.1
theorem dL_law_1249 : decode cL_law 1249 = .ok (.iadd, 1) := wtL_law_1241.2.2.2.2.2.1
theorem dL_law_1250 : decode cL_law 1250 = .ok (.iaload, 1) := wtL_law_1241.2.2.2.2.2.2.1
theorem dL_law_1251 : decode cL_law 1251 = .ok (.aload_n 0, 1) := wtL_law_1241.2.2.2.2.2.2.2.1
theorem dL_law_1252 : decode cL_law 1252 = .ok (.iload 4, 2) := wtL_law_1241.2.2.2.2.2.2.2.2.1
theorem dL_law_1254 : decode cL_law 1254 = .ok (.iconst 2, 1) := wtL_law_1241.2.2.2.2.2.2.2.2.2.1
theorem dL_law_1255 : decode cL_law 1255 = .ok (.iadd, 1) := wtL_law_1241.2.2.2.2.2.2.2.2.2.2.1
theorem dL_law_1256 : decode cL_law 1256 = .ok (.iaload, 1) := wtL_law_1241.2.2.2.2.2.2.2.2.2.2.2.1
theorem dL_law_1257 : decode cL_law 1257 = .ok (.aload_n 3, 1) := wtL_law_1241.2.2.2.2.2.2.2.2.2.2.2.2.1
theorem dL_law_1258 : decode cL_law 1258 = .ok (.invokestatic 239, 3) := wtL_law_1241.2.2.2.2.2.2.2.2.2.2.2.2.2.1
theorem dL_law_1261 : decode cL_law 1261 = .ok (.istore 5, 2) := wtL_law_1241.2.2.2.2.2.2.2.2.2.2.2.2.2.2.1
theorem dL_law_1263 : decode cL_law 1263 = .ok (.aload_n 2, 1) := wtL_law_1241.2.2.2.2.2.2.2.2.2.2.2.2.2.2.2.1
theorem dL_law_1264 : decode cL_law 1264 = .ok (.aload_n 0, 1) := wtL_law_1241.2.2.2.2.2.2.2.2.2.2.2.2.2.2.2.2.1
theorem wtL_law_1265 : dwcj cL_law 1265 [(0, .iload 4, 2), (2, .iconst 1, 1), (3, .iadd, 1), (4, .iaload, 1), (5, .aload_n 0, 1), (6, .iload 4, 2), (8, .iconst 2, 1), (9, .iadd, 1), (10, .iaload, 1), (11, .invokevirtual 241, 3), (14, .istore 6, 2), (16, .goto 926, 3), (19, .aload_n 1, 1), (20, .aload_n 0, 1), (21, .iload 4, 2), (23, .iconst 1, 1)] := dw_all (l := [21, 4, 4, 96, 46, 42, 21, 4, 5, 96, 46, 182, 0, 241, 54, 6, 167, 3, 158, 43, 42, 21, 4, 4]) (by decide +kernel)
theorem dL_law_1265 : decode cL_law 1265 = .ok (.iload 4, 2) := wtL_law_1265.1
theorem dL_law_1267 : decode cL_law 1267 = .ok (.iconst 1, 1) := wtL_law_1265.2.1
theorem dL_law_1268 : decode cL_law 1268 = .ok (.iadd, 1) := wtL_law_1265.2.2.1
theorem dL_law_1269 : decode cL_law 1269 = .ok (.iaload, 1) := wtL_law_1265.2.2.2.1
theorem dL_law_1270 : decode cL_law 1270 = .ok (.aload_n 0, 1) := wtL_law_1265.2.2.2.2.1
theorem dL_law_1271 : decode cL_law 1271 = .ok (.iload 4, 2) := wtL_law_1265.2.2.2.2.2.1
theorem dL_law_1273 : decode cL_law 1273 = .ok (.iconst 2, 1) := wtL_law_1265.2.2.2.2.2.2.1
theorem dL_law_1274 : decode cL_law 1274 = .ok (.iadd, 1) := wtL_law_1265.2.2.2.2.2.2.2.1
theorem dL_law_1275 : decode cL_law 1275 = .ok (.iaload, 1) := wtL_law_1265.2.2.2.2.2.2.2.2.1
theorem dL_law_1276 : decode cL_law 1276 = .ok (.invokevirtual 241, 3) := wtL_law_1265.2.2.2.2.2.2.2.2.2.1
theorem dL_law_1279 : decode cL_law 1279 = .ok (.istore 6, 2) := wtL_law_1265.2.2.2.2.2.2.2.2.2.2.1
theorem dL_law_1281 : decode cL_law 1281 = .ok (.goto 926, 3) := wtL_law_1265.2.2.2.2.2.2.2.2.2.2.2.1
theorem dL_law_1284 : decode cL_law 1284 = .ok (.aload_n 1, 1) := wtL_law_1265.2.2.2.2.2.2.2.2.2.2.2.2.1
theorem dL_law_1285 : decode cL_law 1285 = .ok (.aload_n 0, 1) := wtL_law_1265.2.2.2.2.2.2.2.2.2.2.2.2.2.1
theorem dL_law_1286 : decode cL_law 1286 = .ok (.iload 4, 2) := wtL_law_1265.2.2.2.2.2.2.2.2.2.2.2.2.2.2.1
theorem dL_law_1288 : decode cL_law 1288 = .ok (.iconst 1, 1) := wtL_law_1265.2.2.2.2.2.2.2.2.2.2.2.2.2.2.2.1
theorem wtL_law_1289 : dwcj cL_law 1289 [(0, .iadd, 1), (1, .iaload, 1), (2, .aload_n 0, 1), (3, .iload 4, 2), (5, .iconst 2, 1), (6, .iadd, 1), (7, .iaload, 1), (8, .aload_n 0, 1), (9, .iload 4, 2), (11, .iconst 3, 1), (12, .iadd, 1), (13, .iaload, 1), (14, .aload_n 0, 1), (15, .iload 4, 2), (17, .iconst 4, 1), (18, .iadd, 1), (19, .iaload, 1), (20, .aload_n 3, 1), (21, .invokestatic 242, 3)] := dw_all (l := [96, 46, 42, 21, 4, 5, 96, 46, 42, 21, 4, 6, 96, 46, 42, 21, 4, 7, 96, 46, 45, 184, 0, 242]) (by decide +kernel)
theorem dL_law_1289 : decode cL_law 1289 = .ok (.iadd, 1) := wtL_law_1289.1
theorem dL_law_1290 : decode cL_law 1290 = .ok (.iaload, 1) := wtL_law_1289.2.1
theorem dL_law_1291 : decode cL_law 1291 = .ok (.aload_n 0, 1) := wtL_law_1289.2.2.1
theorem dL_law_1292 : decode cL_law 1292 = .ok (.iload 4, 2) := wtL_law_1289.2.2.2.1
theorem dL_law_1294 : decode cL_law 1294 = .ok (.iconst 2, 1) := wtL_law_1289.2.2.2.2.1
theorem dL_law_1295 : decode cL_law 1295 = .ok (.iadd, 1) := wtL_law_1289.2.2.2.2.2.1
theorem dL_law_1296 : decode cL_law 1296 = .ok (.iaload, 1) := wtL_law_1289.2.2.2.2.2.2.1
theorem dL_law_1297 : decode cL_law 1297 = .ok (.aload_n 0, 1) := wtL_law_1289.2.2.2.2.2.2.2.1
theorem dL_law_1298 : decode cL_law 1298 = .ok (.iload 4, 2) := wtL_law_1289.2.2.2.2.2.2.2.2.1
theorem dL_law_1300 : decode cL_law 1300 = .ok (.iconst 3, 1) := wtL_law_1289.2.2.2.2.2.2.2.2.2.1
theorem dL_law_1301 : decode cL_law 1301 = .ok (.iadd, 1) := wtL_law_1289.2.2.2.2.2.2.2.2.2.2.1
theorem dL_law_1302 : decode cL_law 1302 = .ok (.iaload, 1) := wtL_law_1289.2.2.2.2.2.2.2.2.2.2.2.1
theorem dL_law_1303 : decode cL_law 1303 = .ok (.aload_n 0, 1) := wtL_law_1289.2.2.2.2.2.2.2.2.2.2.2.2.1
theorem dL_law_1304 : decode cL_law 1304 = .ok (.iload 4, 2) := wtL_law_1289.2.2.2.2.2.2.2.2.2.2.2.2.2.1
theorem dL_law_1306 : decode cL_law 1306 = .ok (.iconst 4, 1) := wtL_law_1289.2.2.2.2.2.2.2.2.2.2.2.2.2.2.1
theorem dL_law_1307 : decode cL_law 1307 = .ok (.iadd, 1) := wtL_law_1289.2.2.2.2.2.2.2.2.2.2.2.2.2.2.2.1
theorem dL_law_1308 : decode cL_law 1308 = .ok (.iaload, 1) := wtL_law_1289.2.2.2.2.2.2.2.2.2.2.2.2.2.2.2.2.1
theorem dL_law_1309 : decode cL_law 1309 = .ok (.aload_n 3, 1) := wtL_law_1289.2.2.2.2.2.2.2.2.2.2.2.2.2.2.2.2.2.1
theorem dL_law_1310 : decode cL_law 1310 = .ok (.invokestatic 242, 3) := wtL_law_1289.2.2.2.2.2.2.2.2.2.2.2.2.2.2.2.2.2.2.1
theorem wtL_law_1313 : dwcj cL_law 1313 [(0, .istore 5, 2), (2, .aload_n 2, 1), (3, .aload_n 0, 1), (4, .iload 4, 2), (6, .iconst 1, 1), (7, .iadd, 1), (8, .iaload, 1), (9, .aload_n 0, 1), (10, .iload 4, 2), (12, .iconst 2, 1), (13, .iadd, 1), (14, .iaload, 1), (15, .aload_n 0, 1), (16, .iload 4, 2), (18, .iconst 3, 1), (19, .iadd, 1), (20, .iaload, 1), (21, .aload_n 0, 1), (22, .iload 4, 2)] := dw_all (l := [54, 5, 44, 42, 21, 4, 4, 96, 46, 42, 21, 4, 5, 96, 46, 42, 21, 4, 6, 96, 46, 42, 21, 4]) (by decide +kernel)
theorem dL_law_1313 : decode cL_law 1313 = .ok (.istore 5, 2) := wtL_law_1313.1
theorem dL_law_1315 : decode cL_law 1315 = .ok (.aload_n 2, 1) := wtL_law_1313.2.1
theorem dL_law_1316 : decode cL_law 1316 = .ok (.aload_n 0, 1) := wtL_law_1313.2.2.1
theorem dL_law_1317 : decode cL_law 1317 = .ok (.iload 4, 2) := wtL_law_1313.2.2.2.1
theorem dL_law_1319 : decode cL_law 1319 = .ok (.iconst 1, 1) := wtL_law_1313.2.2.2.2.1
theorem dL_law_1320 : decode cL_law 1320 = .ok (.iadd, 1) := wtL_law_1313.2.2.2.2.2.1
theorem dL_law_1321 : decode cL_law 1321 = .ok (.iaload, 1) := wtL_law_1313.2.2.2.2.2.2.1
theorem dL_law_1322 : decode cL_law 1322 = .ok (.aload_n 0, 1) := wtL_law_1313.2.2.2.2.2.2.2.1
theorem dL_law_1323 : decode cL_law 1323 = .ok (.iload 4, 2) := wtL_law_1313.2.2.2.2.2.2.2.2.1
theorem dL_law_1325 : decode cL_law 1325 = .ok (.iconst 2, 1) := wtL_law_1313.2.2.2.2.2.2.2.2.2.1
theorem dL_law_1326 : decode cL_law 1326 = .ok (.iadd, 1) := wtL_law_1313.2.2.2.2.2.2.2.2.2.2.1
theorem dL_law_1327 : decode cL_law 1327 = .ok (.iaload, 1) := wtL_law_1313.2.2.2.2.2.2.2.2.2.2.2.1
theorem dL_law_1328 : decode cL_law 1328 = .ok (.aload_n 0, 1) := wtL_law_1313.2.2.2.2.2.2.2.2.2.2.2.2.1
theorem dL_law_1329 : decode cL_law 1329 = .ok (.iload 4, 2) := wtL_law_1313.2.2.2.2.2.2.2.2.2.2.2.2.2.1
theorem dL_law_1331 : decode cL_law 1331 = .ok (.iconst 3, 1) := wtL_law_1313.2.2.2.2.2.2.2.2.2.2.2.2.2.2.1
theorem dL_law_1332 : decode cL_law 1332 = .ok (.iadd, 1) := wtL_law_1313.2.2.2.2.2.2.2.2.2.2.2.2.2.2.2.1
theorem dL_law_1333 : decode cL_law 1333 = .ok (.iaload, 1) := wtL_law_1313.2.2.2.2.2.2.2.2.2.2.2.2.2.2.2.2.1
theorem dL_law_1334 : decode cL_law 1334 = .ok (.aload_n 0, 1) := wtL_law_1313.2.2.2.2.2.2.2.2.2.2.2.2.2.2.2.2.2.1
theorem dL_law_1335 : decode cL_law 1335 = .ok (.iload 4, 2) := wtL_law_1313.2.2.2.2.2.2.2.2.2.2.2.2.2.2.2.2.2.2.1
theorem wtL_law_1337 : dwcj cL_law 1337 [(0, .iconst 4, 1), (1, .iadd, 1), (2, .iaload, 1), (3, .invokevirtual 244, 3), (6, .istore 6, 2), (8, .goto 862, 3), (11, .aload_n 1, 1), (12, .aload_n 0, 1), (13, .iload 4, 2), (15, .iconst 1, 1), (16, .iadd, 1), (17, .iaload, 1), (18, .aload_n 0, 1), (19, .iload 4, 2), (21, .iconst 2, 1), (22, .iadd, 1), (23, .iaload, 1)] := dw_all (l := [7, 96, 46, 182, 0, 244, 54, 6, 167, 3, 94, 43, 42, 21, 4, 4, 96, 46, 42, 21, 4, 5, 96, 46]) (by decide +kernel)
theorem dL_law_1337 : decode cL_law 1337 = .ok (.iconst 4, 1) := wtL_law_1337.1
theorem dL_law_1338 : decode cL_law 1338 = .ok (.iadd, 1) := wtL_law_1337.2.1
theorem dL_law_1339 : decode cL_law 1339 = .ok (.iaload, 1) := wtL_law_1337.2.2.1
theorem dL_law_1340 : decode cL_law 1340 = .ok (.invokevirtual 244, 3) := wtL_law_1337.2.2.2.1
theorem dL_law_1343 : decode cL_law 1343 = .ok (.istore 6, 2) := wtL_law_1337.2.2.2.2.1
theorem dL_law_1345 : decode cL_law 1345 = .ok (.goto 862, 3) := wtL_law_1337.2.2.2.2.2.1
theorem dL_law_1348 : decode cL_law 1348 = .ok (.aload_n 1, 1) := wtL_law_1337.2.2.2.2.2.2.1
theorem dL_law_1349 : decode cL_law 1349 = .ok (.aload_n 0, 1) := wtL_law_1337.2.2.2.2.2.2.2.1
theorem dL_law_1350 : decode cL_law 1350 = .ok (.iload 4, 2) := wtL_law_1337.2.2.2.2.2.2.2.2.1
theorem dL_law_1352 : decode cL_law 1352 = .ok (.iconst 1, 1) := wtL_law_1337.2.2.2.2.2.2.2.2.2.1
theorem dL_law_1353 : decode cL_law 1353 = .ok (.iadd, 1) := wtL_law_1337.2.2.2.2.2.2.2.2.2.2.1
theorem dL_law_1354 : decode cL_law 1354 = .ok (.iaload, 1) := wtL_law_1337.2.2.2.2.2.2.2.2.2.2.2.1
theorem dL_law_1355 : decode cL_law 1355 = .ok (.aload_n 0, 1) := wtL_law_1337.2.2.2.2.2.2.2.2.2.2.2.2.1
theorem dL_law_1356 : decode cL_law 1356 = .ok (.iload 4, 2) := wtL_law_1337.2.2.2.2.2.2.2.2.2.2.2.2.2.1
theorem dL_law_1358 : decode cL_law 1358 = .ok (.iconst 2, 1) := wtL_law_1337.2.2.2.2.2.2.2.2.2.2.2.2.2.2.1
theorem dL_law_1359 : decode cL_law 1359 = .ok (.iadd, 1) := wtL_law_1337.2.2.2.2.2.2.2.2.2.2.2.2.2.2.2.1
theorem dL_law_1360 : decode cL_law 1360 = .ok (.iaload, 1) := wtL_law_1337.2.2.2.2.2.2.2.2.2.2.2.2.2.2.2.2.1
theorem wtL_law_1361 : dwcj cL_law 1361 [(0, .aload_n 0, 1), (1, .iload 4, 2), (3, .iconst 3, 1), (4, .iadd, 1), (5, .iaload, 1), (6, .aload_n 3, 1), (7, .invokestatic 245, 3), (10, .istore 5, 2), (12, .aload_n 2, 1), (13, .aload_n 0, 1), (14, .iload 4, 2), (16, .iconst 1, 1), (17, .iadd, 1), (18, .iaload, 1), (19, .aload_n 0, 1), (20, .iload 4, 2), (22, .iconst 2, 1), (23, .iadd, 1)] := dw_all (l := [42, 21, 4, 6, 96, 46, 45, 184, 0, 245, 54, 5, 44, 42, 21, 4, 4, 96, 46, 42, 21, 4, 5, 96]) (by decide +kernel)
theorem dL_law_1361 : decode cL_law 1361 = .ok (.aload_n 0, 1) := wtL_law_1361.1
theorem dL_law_1362 : decode cL_law 1362 = .ok (.iload 4, 2) := wtL_law_1361.2.1
theorem dL_law_1364 : decode cL_law 1364 = .ok (.iconst 3, 1) := wtL_law_1361.2.2.1
theorem dL_law_1365 : decode cL_law 1365 = .ok (.iadd, 1) := wtL_law_1361.2.2.2.1
theorem dL_law_1366 : decode cL_law 1366 = .ok (.iaload, 1) := wtL_law_1361.2.2.2.2.1
theorem dL_law_1367 : decode cL_law 1367 = .ok (.aload_n 3, 1) := wtL_law_1361.2.2.2.2.2.1
theorem dL_law_1368 : decode cL_law 1368 = .ok (.invokestatic 245, 3) := wtL_law_1361.2.2.2.2.2.2.1
theorem dL_law_1371 : decode cL_law 1371 = .ok (.istore 5, 2) := wtL_law_1361.2.2.2.2.2.2.2.1
theorem dL_law_1373 : decode cL_law 1373 = .ok (.aload_n 2, 1) := wtL_law_1361.2.2.2.2.2.2.2.2.1
theorem dL_law_1374 : decode cL_law 1374 = .ok (.aload_n 0, 1) := wtL_law_1361.2.2.2.2.2.2.2.2.2.1
theorem dL_law_1375 : decode cL_law 1375 = .ok (.iload 4, 2) := wtL_law_1361.2.2.2.2.2.2.2.2.2.2.1
theorem dL_law_1377 : decode cL_law 1377 = .ok (.iconst 1, 1) := wtL_law_1361.2.2.2.2.2.2.2.2.2.2.2.1
theorem dL_law_1378 : decode cL_law 1378 = .ok (.iadd, 1) := wtL_law_1361.2.2.2.2.2.2.2.2.2.2.2.2.1
theorem dL_law_1379 : decode cL_law 1379 = .ok (.iaload, 1) := wtL_law_1361.2.2.2.2.2.2.2.2.2.2.2.2.2.1
theorem dL_law_1380 : decode cL_law 1380 = .ok (.aload_n 0, 1) := wtL_law_1361.2.2.2.2.2.2.2.2.2.2.2.2.2.2.1
theorem dL_law_1381 : decode cL_law 1381 = .ok (.iload 4, 2) := wtL_law_1361.2.2.2.2.2.2.2.2.2.2.2.2.2.2.2.1
theorem dL_law_1383 : decode cL_law 1383 = .ok (.iconst 2, 1) := wtL_law_1361.2.2.2.2.2.2.2.2.2.2.2.2.2.2.2.2.1
theorem dL_law_1384 : decode cL_law 1384 = .ok (.iadd, 1) := wtL_law_1361.2.2.2.2.2.2.2.2.2.2.2.2.2.2.2.2.2.1
theorem wtL_law_1385 : dwcj cL_law 1385 [(0, .iaload, 1), (1, .aload_n 0, 1), (2, .iload 4, 2), (4, .iconst 3, 1), (5, .iadd, 1), (6, .iaload, 1), (7, .invokevirtual 247, 3), (10, .istore 6, 2), (12, .goto 810, 3), (15, .aload_n 1, 1), (16, .aload_n 0, 1), (17, .iload 4, 2), (19, .iconst 1, 1), (20, .iadd, 1), (21, .iaload, 1), (22, .aload_n 0, 1), (23, .iload 4, 2)] := dw_all (l := [46, 42, 21, 4, 6, 96, 46, 182, 0, 247, 54, 6, 167, 3, 42, 43, 42, 21, 4, 4, 96, 46, 42, 21, 4]) (by decide +kernel)
theorem dL_law_1385 : decode cL_law 1385 = .ok (.iaload, 1) := wtL_law_1385.1
theorem dL_law_1386 : decode cL_law 1386 = .ok (.aload_n 0, 1) := wtL_law_1385.2.1
theorem dL_law_1387 : decode cL_law 1387 = .ok (.iload 4, 2) := wtL_law_1385.2.2.1
theorem dL_law_1389 : decode cL_law 1389 = .ok (.iconst 3, 1) := wtL_law_1385.2.2.2.1
theorem dL_law_1390 : decode cL_law 1390 = .ok (.iadd, 1) := wtL_law_1385.2.2.2.2.1
theorem dL_law_1391 : decode cL_law 1391 = .ok (.iaload, 1) := wtL_law_1385.2.2.2.2.2.1
theorem dL_law_1392 : decode cL_law 1392 = .ok (.invokevirtual 247, 3) := wtL_law_1385.2.2.2.2.2.2.1
theorem dL_law_1395 : decode cL_law 1395 = .ok (.istore 6, 2) := wtL_law_1385.2.2.2.2.2.2.2.1
theorem dL_law_1397 : decode cL_law 1397 = .ok (.goto 810, 3) := wtL_law_1385.2.2.2.2.2.2.2.2.1
theorem dL_law_1400 : decode cL_law 1400 = .ok (.aload_n 1, 1) := wtL_law_1385.2.2.2.2.2.2.2.2.2.1
theorem dL_law_1401 : decode cL_law 1401 = .ok (.aload_n 0, 1) := wtL_law_1385.2.2.2.2.2.2.2.2.2.2.1
theorem dL_law_1402 : decode cL_law 1402 = .ok (.iload 4, 2) := wtL_law_1385.2.2.2.2.2.2.2.2.2.2.2.1
theorem dL_law_1404 : decode cL_law 1404 = .ok (.iconst 1, 1) := wtL_law_1385.2.2.2.2.2.2.2.2.2.2.2.2.1
theorem dL_law_1405 : decode cL_law 1405 = .ok (.iadd, 1) := wtL_law_1385.2.2.2.2.2.2.2.2.2.2.2.2.2.1
theorem dL_law_1406 : decode cL_law 1406 = .ok (.iaload, 1) := wtL_law_1385.2.2.2.2.2.2.2.2.2.2.2.2.2.2.1
theorem dL_law_1407 : decode cL_law 1407 = .ok (.aload_n 0, 1) := wtL_law_1385.2.2.2.2.2.2.2.2.2.2.2.2.2.2.2.1
theorem dL_law_1408 : decode cL_law 1408 = .ok (.iload 4, 2) := wtL_law_1385.2.2.2.2.2.2.2.2.2.2.2.2.2.2.2.2.1
theorem wtL_law_1410 : dwcj cL_law 1410 [(0, .iconst 2, 1), (1, .iadd, 1), (2, .iaload, 1), (3, .aload_n 3, 1), (4, .invokestatic 248, 3), (7, .istore 5, 2), (9, .aload_n 2, 1), (10, .aload_n 0, 1), (11, .iload 4, 2), (13, .iconst 1, 1), (14, .iadd, 1), (15, .iaload, 1), (16, .aload_n 0, 1), (17, .iload 4, 2), (19, .iconst 2, 1), (20, .iadd, 1), (21, .iaload, 1), (22, .invokevirtual 250, 3)] := dw_all (l := [5, 96, 46, 45, 184, 0, 248, 54, 5, 44, 42, 21, 4, 4, 96, 46, 42, 21, 4, 5, 96, 46, 182, 0, 250]) (by decide +kernel)
theorem dL_law_1410 : decode cL_law 1410 = .ok (.iconst 2, 1) := wtL_law_1410.1
theorem dL_law_1411 : decode cL_law 1411 = .ok (.iadd, 1) := wtL_law_1410.2.1
theorem dL_law_1412 : decode cL_law 1412 = .ok (.iaload, 1) := wtL_law_1410.2.2.1
theorem dL_law_1413 : decode cL_law 1413 = .ok (.aload_n 3, 1) := wtL_law_1410.2.2.2.1
theorem dL_law_1414 : decode cL_law 1414 = .ok (.invokestatic 248, 3) := wtL_law_1410.2.2.2.2.1
theorem dL_law_1417 : decode cL_law 1417 = .ok (.istore 5, 2) := wtL_law_1410.2.2.2.2.2.1
theorem dL_law_1419 : decode cL_law 1419 = .ok (.aload_n 2, 1) := wtL_law_1410.2.2.2.2.2.2.1
theorem dL_law_1420 : decode cL_law 1420 = .ok (.aload_n 0, 1) := wtL_law_1410.2.2.2.2.2.2.2.1
theorem dL_law_1421 : decode cL_law 1421 = .ok (.iload 4, 2) := wtL_law_1410.2.2.2.2.2.2.2.2.1
theorem dL_law_1423 : decode cL_law 1423 = .ok (.iconst 1, 1) := wtL_law_1410.2.2.2.2.2.2.2.2.2.1
theorem dL_law_1424 : decode cL_law 1424 = .ok (.iadd, 1) := wtL_law_1410.2.2.2.2.2.2.2.2.2.2.1
theorem dL_law_1425 : decode cL_law 1425 = .ok (.iaload, 1) := wtL_law_1410.2.2.2.2.2.2.2.2.2.2.2.1
theorem dL_law_1426 : decode cL_law 1426 = .ok (.aload_n 0, 1) := wtL_law_1410.2.2.2.2.2.2.2.2.2.2.2.2.1
theorem dL_law_1427 : decode cL_law 1427 = .ok (.iload 4, 2) := wtL_law_1410.2.2.2.2.2.2.2.2.2.2.2.2.2.1
theorem dL_law_1429 : decode cL_law 1429 = .ok (.iconst 2, 1) := wtL_law_1410.2.2.2.2.2.2.2.2.2.2.2.2.2.2.1
theorem dL_law_1430 : decode cL_law 1430 = .ok (.iadd, 1) := wtL_law_1410.2.2.2.2.2.2.2.2.2.2.2.2.2.2.2.1
theorem dL_law_1431 : decode cL_law 1431 = .ok (.iaload, 1) := wtL_law_1410.2.2.2.2.2.2.2.2.2.2.2.2.2.2.2.2.1
theorem dL_law_1432 : decode cL_law 1432 = .ok (.invokevirtual 250, 3) := wtL_law_1410.2.2.2.2.2.2.2.2.2.2.2.2.2.2.2.2.2.1
theorem wtL_law_1435 : dwcj cL_law 1435 [(0, .istore 6, 2), (2, .goto 770, 3), (5, .aload_n 1, 1), (6, .aload_n 0, 1), (7, .iload 4, 2), (9, .iconst 1, 1), (10, .iadd, 1), (11, .iaload, 1), (12, .aload_n 0, 1), (13, .iload 4, 2), (15, .iconst 2, 1), (16, .iadd, 1), (17, .iaload, 1), (18, .aload_n 0, 1), (19, .iload 4, 2), (21, .iconst 3, 1), (22, .iadd, 1), (23, .iaload, 1)] := dw_all (l := [54, 6, 167, 3, 2, 43, 42, 21, 4, 4, 96, 46, 42, 21, 4, 5, 96, 46, 42, 21, 4, 6, 96, 46]) (by decide +kernel)
theorem dL_law_1435 : decode cL_law 1435 = .ok (.istore 6, 2) := wtL_law_1435.1
theorem dL_law_1437 : decode cL_law 1437 = .ok (.goto 770, 3) := wtL_law_1435.2.1
theorem dL_law_1440 : decode cL_law 1440 = .ok (.aload_n 1, 1) := wtL_law_1435.2.2.1
theorem dL_law_1441 : decode cL_law 1441 = .ok (.aload_n 0, 1) := wtL_law_1435.2.2.2.1
theorem dL_law_1442 : decode cL_law 1442 = .ok (.iload 4, 2) := wtL_law_1435.2.2.2.2.1
theorem dL_law_1444 : decode cL_law 1444 = .ok (.iconst 1, 1) := wtL_law_1435.2.2.2.2.2.1
theorem dL_law_1445 : decode cL_law 1445 = .ok (.iadd, 1) := wtL_law_1435.2.2.2.2.2.2.1
theorem dL_law_1446 : decode cL_law 1446 = .ok (.iaload, 1) := wtL_law_1435.2.2.2.2.2.2.2.1
theorem dL_law_1447 : decode cL_law 1447 = .ok (.aload_n 0, 1) := wtL_law_1435.2.2.2.2.2.2.2.2.1
theorem dL_law_1448 : decode cL_law 1448 = .ok (.iload 4, 2) := wtL_law_1435.2.2.2.2.2.2.2.2.2.1
theorem dL_law_1450 : decode cL_law 1450 = .ok (.iconst 2, 1) := wtL_law_1435.2.2.2.2.2.2.2.2.2.2.1
theorem dL_law_1451 : decode cL_law 1451 = .ok (.iadd, 1) := wtL_law_1435.2.2.2.2.2.2.2.2.2.2.2.1
theorem dL_law_1452 : decode cL_law 1452 = .ok (.iaload, 1) := wtL_law_1435.2.2.2.2.2.2.2.2.2.2.2.2.1
theorem dL_law_1453 : decode cL_law 1453 = .ok (.aload_n 0, 1) := wtL_law_1435.2.2.2.2.2.2.2.2.2.2.2.2.2.1
theorem dL_law_1454 : decode cL_law 1454 = .ok (.iload 4, 2) := wtL_law_1435.2.2.2.2.2.2.2.2.2.2.2.2.2.2.1
theorem dL_law_1456 : decode cL_law 1456 = .ok (.iconst 3, 1) := wtL_law_1435.2.2.2.2.2.2.2.2.2.2.2.2.2.2.2.1
theorem dL_law_1457 : decode cL_law 1457 = .ok (.iadd, 1) := wtL_law_1435.2.2.2.2.2.2.2.2.2.2.2.2.2.2.2.2.1
theorem dL_law_1458 : decode cL_law 1458 = .ok (.iaload, 1) := wtL_law_1435.2.2.2.2.2.2.2.2.2.2.2.2.2.2.2.2.2.1
theorem wtL_law_1459 : dwcj cL_law 1459 [(0, .aload_n 3, 1), (1, .invokestatic 251, 3), (4, .istore 5, 2), (6, .aload_n 2, 1), (7, .aload_n 0, 1), (8, .iload 4, 2), (10, .iconst 1, 1), (11, .iadd, 1), (12, .iaload, 1), (13, .aload_n 0, 1), (14, .iload 4, 2), (16, .iconst 2, 1), (17, .iadd, 1), (18, .iaload, 1), (19, .aload_n 0, 1), (20, .iload 4, 2), (22, .iconst 3, 1), (23, .iadd, 1)] := dw_all (l := [45, 184, 0, 251, 54, 5, 44, 42, 21, 4, 4, 96, 46, 42, 21, 4, 5, 96, 46, 42, 21, 4, 6, 96]) (by decide +kernel)
theorem dL_law_1459 : decode cL_law 1459 = .ok (.aload_n 3, 1) := wtL_law_1459.1
theorem dL_law_1460 : decode cL_law 1460 = .ok (.invokestatic 251, 3) := wtL_law_1459.2.1
theorem dL_law_1463 : decode cL_law 1463 = .ok (.istore 5, 2) := wtL_law_1459.2.2.1
theorem dL_law_1465 : decode cL_law 1465 = .ok (.aload_n 2, 1) := wtL_law_1459.2.2.2.1
theorem dL_law_1466 : decode cL_law 1466 = .ok (.aload_n 0, 1) := wtL_law_1459.2.2.2.2.1
theorem dL_law_1467 : decode cL_law 1467 = .ok (.iload 4, 2) := wtL_law_1459.2.2.2.2.2.1
theorem dL_law_1469 : decode cL_law 1469 = .ok (.iconst 1, 1) := wtL_law_1459.2.2.2.2.2.2.1
theorem dL_law_1470 : decode cL_law 1470 = .ok (.iadd, 1) := wtL_law_1459.2.2.2.2.2.2.2.1
theorem dL_law_1471 : decode cL_law 1471 = .ok (.iaload, 1) := wtL_law_1459.2.2.2.2.2.2.2.2.1
theorem dL_law_1472 : decode cL_law 1472 = .ok (.aload_n 0, 1) := wtL_law_1459.2.2.2.2.2.2.2.2.2.1
theorem dL_law_1473 : decode cL_law 1473 = .ok (.iload 4, 2) := wtL_law_1459.2.2.2.2.2.2.2.2.2.2.1
theorem dL_law_1475 : decode cL_law 1475 = .ok (.iconst 2, 1) := wtL_law_1459.2.2.2.2.2.2.2.2.2.2.2.1
theorem dL_law_1476 : decode cL_law 1476 = .ok (.iadd, 1) := wtL_law_1459.2.2.2.2.2.2.2.2.2.2.2.2.1
theorem dL_law_1477 : decode cL_law 1477 = .ok (.iaload, 1) := wtL_law_1459.2.2.2.2.2.2.2.2.2.2.2.2.2.1
theorem dL_law_1478 : decode cL_law 1478 = .ok (.aload_n 0, 1) := wtL_law_1459.2.2.2.2.2.2.2.2.2.2.2.2.2.2.1
theorem dL_law_1479 : decode cL_law 1479 = .ok (.iload 4, 2) := wtL_law_1459.2.2.2.2.2.2.2.2.2.2.2.2.2.2.2.1
theorem dL_law_1481 : decode cL_law 1481 = .ok (.iconst 3, 1) := wtL_law_1459.2.2.2.2.2.2.2.2.2.2.2.2.2.2.2.2.1
theorem dL_law_1482 : decode cL_law 1482 = .ok (.iadd, 1) := wtL_law_1459.2.2.2.2.2.2.2.2.2.2.2.2.2.2.2.2.2.1
theorem wtL_law_1483 : dwcj cL_law 1483 [(0, .iaload, 1), (1, .invokevirtual 253, 3), (4, .istore 6, 2), (6, .goto 718, 3), (9, .aload_n 1, 1), (10, .aload_n 0, 1), (11, .iload 4, 2), (13, .iconst 1, 1), (14, .iadd, 1), (15, .iaload, 1), (16, .aload_n 3, 1), (17, .invokestatic 254, 3), (20, .istore 5, 2), (22, .aload_n 2, 1), (23, .aload_n 0, 1)] := dw_all (l := [46, 182, 0, 253, 54, 6, 167, 2, 206, 43, 42, 21, 4, 4, 96, 46, 45, 184, 0, 254, 54, 5, 44, 42]) (by decide +kernel)
theorem dL_law_1483 : decode cL_law 1483 = .ok (.iaload, 1) := wtL_law_1483.1
theorem dL_law_1484 : decode cL_law 1484 = .ok (.invokevirtual 253, 3) := wtL_law_1483.2.1
theorem dL_law_1487 : decode cL_law 1487 = .ok (.istore 6, 2) := wtL_law_1483.2.2.1
theorem dL_law_1489 : decode cL_law 1489 = .ok (.goto 718, 3) := wtL_law_1483.2.2.2.1
theorem dL_law_1492 : decode cL_law 1492 = .ok (.aload_n 1, 1) := wtL_law_1483.2.2.2.2.1
theorem dL_law_1493 : decode cL_law 1493 = .ok (.aload_n 0, 1) := wtL_law_1483.2.2.2.2.2.1
theorem dL_law_1494 : decode cL_law 1494 = .ok (.iload 4, 2) := wtL_law_1483.2.2.2.2.2.2.1
theorem dL_law_1496 : decode cL_law 1496 = .ok (.iconst 1, 1) := wtL_law_1483.2.2.2.2.2.2.2.1
theorem dL_law_1497 : decode cL_law 1497 = .ok (.iadd, 1) := wtL_law_1483.2.2.2.2.2.2.2.2.1
theorem dL_law_1498 : decode cL_law 1498 = .ok (.iaload, 1) := wtL_law_1483.2.2.2.2.2.2.2.2.2.1
theorem dL_law_1499 : decode cL_law 1499 = .ok (.aload_n 3, 1) := wtL_law_1483.2.2.2.2.2.2.2.2.2.2.1
theorem dL_law_1500 : decode cL_law 1500 = .ok (.invokestatic 254, 3) := wtL_law_1483.2.2.2.2.2.2.2.2.2.2.2.1
theorem dL_law_1503 : decode cL_law 1503 = .ok (.istore 5, 2) := wtL_law_1483.2.2.2.2.2.2.2.2.2.2.2.2.1
theorem dL_law_1505 : decode cL_law 1505 = .ok (.aload_n 2, 1) := wtL_law_1483.2.2.2.2.2.2.2.2.2.2.2.2.2.1
theorem dL_law_1506 : decode cL_law 1506 = .ok (.aload_n 0, 1) := wtL_law_1483.2.2.2.2.2.2.2.2.2.2.2.2.2.2.1
theorem wtL_law_1507 : dwcj cL_law 1507 [(0, .iload 4, 2), (2, .iconst 1, 1), (3, .iadd, 1), (4, .iaload, 1), (5, .invokevirtual 257, 3), (8, .istore 6, 2), (10, .goto 690, 3), (13, .aload_n 1, 1), (14, .aload_n 0, 1), (15, .iload 4, 2), (17, .iconst 1, 1), (18, .iadd, 1), (19, .iaload, 1), (20, .aload_n 3, 1), (21, .invokestatic 258, 3)] := dw_all (l := [21, 4, 4, 96, 46, 182, 1, 1, 54, 6, 167, 2, 178, 43, 42, 21, 4, 4, 96, 46, 45, 184, 1, 2]) (by decide +kernel)
theorem dL_law_1507 : decode cL_law 1507 = .ok (.iload 4, 2) := wtL_law_1507.1
theorem dL_law_1509 : decode cL_law 1509 = .ok (.iconst 1, 1) := wtL_law_1507.2.1
theorem dL_law_1510 : decode cL_law 1510 = .ok (.iadd, 1) := wtL_law_1507.2.2.1
theorem dL_law_1511 : decode cL_law 1511 = .ok (.iaload, 1) := wtL_law_1507.2.2.2.1
theorem dL_law_1512 : decode cL_law 1512 = .ok (.invokevirtual 257, 3) := wtL_law_1507.2.2.2.2.1
theorem dL_law_1515 : decode cL_law 1515 = .ok (.istore 6, 2) := wtL_law_1507.2.2.2.2.2.1
theorem dL_law_1517 : decode cL_law 1517 = .ok (.goto 690, 3) := wtL_law_1507.2.2.2.2.2.2.1
theorem dL_law_1520 : decode cL_law 1520 = .ok (.aload_n 1, 1) := wtL_law_1507.2.2.2.2.2.2.2.1
theorem dL_law_1521 : decode cL_law 1521 = .ok (.aload_n 0, 1) := wtL_law_1507.2.2.2.2.2.2.2.2.1
theorem dL_law_1522 : decode cL_law 1522 = .ok (.iload 4, 2) := wtL_law_1507.2.2.2.2.2.2.2.2.2.1
theorem dL_law_1524 : decode cL_law 1524 = .ok (.iconst 1, 1) := wtL_law_1507.2.2.2.2.2.2.2.2.2.2.1
theorem dL_law_1525 : decode cL_law 1525 = .ok (.iadd, 1) := wtL_law_1507.2.2.2.2.2.2.2.2.2.2.2.1
theorem dL_law_1526 : decode cL_law 1526 = .ok (.iaload, 1) := wtL_law_1507.2.2.2.2.2.2.2.2.2.2.2.2.1
theorem dL_law_1527 : decode cL_law 1527 = .ok (.aload_n 3, 1) := wtL_law_1507.2.2.2.2.2.2.2.2.2.2.2.2.2.1
theorem dL_law_1528 : decode cL_law 1528 = .ok (.invokestatic 258, 3) := wtL_law_1507.2.2.2.2.2.2.2.2.2.2.2.2.2.2.1
theorem wtL_law_1531 : dwcj cL_law 1531 [(0, .istore 5, 2), (2, .aload_n 2, 1), (3, .aload_n 0, 1), (4, .iload 4, 2), (6, .iconst 1, 1), (7, .iadd, 1), (8, .iaload, 1), (9, .invokevirtual 260, 3), (12, .istore 6, 2), (14, .goto 662, 3), (17, .aload_n 1, 1), (18, .aload_n 0, 1), (19, .iload 4, 2), (21, .iconst 1, 1), (22, .iadd, 1), (23, .iaload, 1)] := dw_all (l := [54, 5, 44, 42, 21, 4, 4, 96, 46, 182, 1, 4, 54, 6, 167, 2, 150, 43, 42, 21, 4, 4, 96, 46]) (by decide +kernel)
theorem dL_law_1531 : decode cL_law 1531 = .ok (.istore 5, 2) := wtL_law_1531.1
theorem dL_law_1533 : decode cL_law 1533 = .ok (.aload_n 2, 1) := wtL_law_1531.2.1
theorem dL_law_1534 : decode cL_law 1534 = .ok (.aload_n 0, 1) := wtL_law_1531.2.2.1
theorem dL_law_1535 : decode cL_law 1535 = .ok (.iload 4, 2) := wtL_law_1531.2.2.2.1
theorem dL_law_1537 : decode cL_law 1537 = .ok (.iconst 1, 1) := wtL_law_1531.2.2.2.2.1
theorem dL_law_1538 : decode cL_law 1538 = .ok (.iadd, 1) := wtL_law_1531.2.2.2.2.2.1
theorem dL_law_1539 : decode cL_law 1539 = .ok (.iaload, 1) := wtL_law_1531.2.2.2.2.2.2.1
theorem dL_law_1540 : decode cL_law 1540 = .ok (.invokevirtual 260, 3) := wtL_law_1531.2.2.2.2.2.2.2.1
theorem dL_law_1543 : decode cL_law 1543 = .ok (.istore 6, 2) := wtL_law_1531.2.2.2.2.2.2.2.2.1
theorem dL_law_1545 : decode cL_law 1545 = .ok (.goto 662, 3) := wtL_law_1531.2.2.2.2.2.2.2.2.2.1
theorem dL_law_1548 : decode cL_law 1548 = .ok (.aload_n 1, 1) := wtL_law_1531.2.2.2.2.2.2.2.2.2.2.1
theorem dL_law_1549 : decode cL_law 1549 = .ok (.aload_n 0, 1) := wtL_law_1531.2.2.2.2.2.2.2.2.2.2.2.1
theorem dL_law_1550 : decode cL_law 1550 = .ok (.iload 4, 2) := wtL_law_1531.2.2.2.2.2.2.2.2.2.2.2.2.1
theorem dL_law_1552 : decode cL_law 1552 = .ok (.iconst 1, 1) := wtL_law_1531.2.2.2.2.2.2.2.2.2.2.2.2.2.1
theorem dL_law_1553 : decode cL_law 1553 = .ok (.iadd, 1) := wtL_law_1531.2.2.2.2.2.2.2.2.2.2.2.2.2.2.1
theorem dL_law_1554 : decode cL_law 1554 = .ok (.iaload, 1) := wtL_law_1531.2.2.2.2.2.2.2.2.2.2.2.2.2.2.2.1
theorem wtL_law_1555 : dwcj cL_law 1555 [(0, .aload_n 3, 1), (1, .invokestatic 261, 3), (4, .istore 5, 2), (6, .aload_n 2, 1), (7, .aload_n 0, 1), (8, .iload 4, 2), (10, .iconst 1, 1), (11, .iadd, 1), (12, .iaload, 1), (13, .invokevirtual 263, 3), (16, .istore 6, 2), (18, .goto 634, 3), (21, .aload_n 1, 1), (22, .aload_n 0, 1), (23, .iload 4, 2)] := dw_all (l := [45, 184, 1, 5, 54, 5, 44, 42, 21, 4, 4, 96, 46, 182, 1, 7, 54, 6, 167, 2, 122, 43, 42, 21, 4]) (by decide +kernel)
theorem dL_law_1555 : decode cL_law 1555 = .ok (.aload_n 3, 1) := wtL_law_1555.1
theorem dL_law_1556 : decode cL_law 1556 = .ok (.invokestatic 261, 3) := wtL_law_1555.2.1
theorem dL_law_1559 : decode cL_law 1559 = .ok (.istore 5, 2) := wtL_law_1555.2.2.1
theorem dL_law_1561 : decode cL_law 1561 = .ok (.aload_n 2, 1) := wtL_law_1555.2.2.2.1
theorem dL_law_1562 : decode cL_law 1562 = .ok (.aload_n 0, 1) := wtL_law_1555.2.2.2.2.1
theorem dL_law_1563 : decode cL_law 1563 = .ok (.iload 4, 2) := wtL_law_1555.2.2.2.2.2.1
theorem dL_law_1565 : decode cL_law 1565 = .ok (.iconst 1, 1) := wtL_law_1555.2.2.2.2.2.2.1
theorem dL_law_1566 : decode cL_law 1566 = .ok (.iadd, 1) := wtL_law_1555.2.2.2.2.2.2.2.1
theorem dL_law_1567 : decode cL_law 1567 = .ok (.iaload, 1) := wtL_law_1555.2.2.2.2.2.2.2.2.1
theorem dL_law_1568 : decode cL_law 1568 = .ok (.invokevirtual 263, 3) := wtL_law_1555.2.2.2.2.2.2.2.2.2.1
theorem dL_law_1571 : decode cL_law 1571 = .ok (.istore 6, 2) := wtL_law_1555.2.2.2.2.2.2.2.2.2.2.1
theorem dL_law_1573 : decode cL_law 1573 = .ok (.goto 634, 3) := wtL_law_1555.2.2.2.2.2.2.2.2.2.2.2.1
theorem dL_law_1576 : decode cL_law 1576 = .ok (.aload_n 1, 1) := wtL_law_1555.2.2.2.2.2.2.2.2.2.2.2.2.1
theorem dL_law_1577 : decode cL_law 1577 = .ok (.aload_n 0, 1) := wtL_law_1555.2.2.2.2.2.2.2.2.2.2.2.2.2.1
theorem dL_law_1578 : decode cL_law 1578 = .ok (.iload 4, 2) := wtL_law_1555.2.2.2.2.2.2.2.2.2.2.2.2.2.2.1
theorem wtL_law_1580 : dwcj cL_law 1580 [(0, .iconst 1, 1), (1, .iadd, 1), (2, .iaload, 1), (3, .aload_n 0, 1), (4, .iload 4, 2), (6, .iconst 2, 1), (7, .iadd, 1), (8, .iaload, 1), (9, .aload_n 3, 1), (10, .invokestatic 264, 3), (13, .istore 5, 2), (15, .aload_n 2, 1), (16, .aload_n 0, 1), (17, .iload 4, 2), (19, .iconst 1, 1), (20, .iadd, 1), (21, .iaload, 1), (22, .aload_n 0, 1), (23, .iload 4, 2)] := dw_all (l := [4, 96, 46, 42, 21, 4, 5, 96, 46, 45, 184, 1, 8, 54, 5, 44, 42, 21, 4, 4, 96, 46, 42, 21, 4]) (by decide +kernel)
theorem dL_law_1580 : decode cL_law 1580 = .ok (.iconst 1, 1) := wtL_law_1580.1
theorem dL_law_1581 : decode cL_law 1581 = .ok (.iadd, 1) := wtL_law_1580.2.1
theorem dL_law_1582 : decode cL_law 1582 = .ok (.iaload, 1) := wtL_law_1580.2.2.1
theorem dL_law_1583 : decode cL_law 1583 = .ok (.aload_n 0, 1) := wtL_law_1580.2.2.2.1
theorem dL_law_1584 : decode cL_law 1584 = .ok (.iload 4, 2) := wtL_law_1580.2.2.2.2.1
theorem dL_law_1586 : decode cL_law 1586 = .ok (.iconst 2, 1) := wtL_law_1580.2.2.2.2.2.1
theorem dL_law_1587 : decode cL_law 1587 = .ok (.iadd, 1) := wtL_law_1580.2.2.2.2.2.2.1
theorem dL_law_1588 : decode cL_law 1588 = .ok (.iaload, 1) := wtL_law_1580.2.2.2.2.2.2.2.1
theorem dL_law_1589 : decode cL_law 1589 = .ok (.aload_n 3, 1) := wtL_law_1580.2.2.2.2.2.2.2.2.1
theorem dL_law_1590 : decode cL_law 1590 = .ok (.invokestatic 264, 3) := wtL_law_1580.2.2.2.2.2.2.2.2.2.1
theorem dL_law_1593 : decode cL_law 1593 = .ok (.istore 5, 2) := wtL_law_1580.2.2.2.2.2.2.2.2.2.2.1
theorem dL_law_1595 : decode cL_law 1595 = .ok (.aload_n 2, 1) := wtL_law_1580.2.2.2.2.2.2.2.2.2.2.2.1
theorem dL_law_1596 : decode cL_law 1596 = .ok (.aload_n 0, 1) := wtL_law_1580.2.2.2.2.2.2.2.2.2.2.2.2.1
theorem dL_law_1597 : decode cL_law 1597 = .ok (.iload 4, 2) := wtL_law_1580.2.2.2.2.2.2.2.2.2.2.2.2.2.1
theorem dL_law_1599 : decode cL_law 1599 = .ok (.iconst 1, 1) := wtL_law_1580.2.2.2.2.2.2.2.2.2.2.2.2.2.2.1
theorem dL_law_1600 : decode cL_law 1600 = .ok (.iadd, 1) := wtL_law_1580.2.2.2.2.2.2.2.2.2.2.2.2.2.2.2.1
theorem dL_law_1601 : decode cL_law 1601 = .ok (.iaload, 1) := wtL_law_1580.2.2.2.2.2.2.2.2.2.2.2.2.2.2.2.2.1
theorem dL_law_1602 : decode cL_law 1602 = .ok (.aload_n 0, 1) := wtL_law_1580.2.2.2.2.2.2.2.2.2.2.2.2.2.2.2.2.2.1
theorem dL_law_1603 : decode cL_law 1603 = .ok (.iload 4, 2) := wtL_law_1580.2.2.2.2.2.2.2.2.2.2.2.2.2.2.2.2.2.2.1
theorem wtL_law_1605 : dwcj cL_law 1605 [(0, .iconst 2, 1), (1, .iadd, 1), (2, .iaload, 1), (3, .invokevirtual 266, 3), (6, .istore 6, 2), (8, .goto 594, 3), (11, .aload_n 1, 1), (12, .aload_n 0, 1), (13, .iload 4, 2), (15, .iconst 1, 1), (16, .iadd, 1), (17, .iaload, 1), (18, .aload_n 3, 1), (19, .invokestatic 267, 3), (22, .istore 5, 2)] := dw_all (l := [5, 96, 46, 182, 1, 10, 54, 6, 167, 2, 82, 43, 42, 21, 4, 4, 96, 46, 45, 184, 1, 11, 54, 5]) (by decide +kernel)
theorem dL_law_1605 : decode cL_law 1605 = .ok (.iconst 2, 1) := wtL_law_1605.1
theorem dL_law_1606 : decode cL_law 1606 = .ok (.iadd, 1) := wtL_law_1605.2.1
theorem dL_law_1607 : decode cL_law 1607 = .ok (.iaload, 1) := wtL_law_1605.2.2.1
theorem dL_law_1608 : decode cL_law 1608 = .ok (.invokevirtual 266, 3) := wtL_law_1605.2.2.2.1
theorem dL_law_1611 : decode cL_law 1611 = .ok (.istore 6, 2) := wtL_law_1605.2.2.2.2.1
theorem dL_law_1613 : decode cL_law 1613 = .ok (.goto 594, 3) := wtL_law_1605.2.2.2.2.2.1
theorem dL_law_1616 : decode cL_law 1616 = .ok (.aload_n 1, 1) := wtL_law_1605.2.2.2.2.2.2.1
theorem dL_law_1617 : decode cL_law 1617 = .ok (.aload_n 0, 1) := wtL_law_1605.2.2.2.2.2.2.2.1
theorem dL_law_1618 : decode cL_law 1618 = .ok (.iload 4, 2) := wtL_law_1605.2.2.2.2.2.2.2.2.1
theorem dL_law_1620 : decode cL_law 1620 = .ok (.iconst 1, 1) := wtL_law_1605.2.2.2.2.2.2.2.2.2.1
theorem dL_law_1621 : decode cL_law 1621 = .ok (.iadd, 1) := wtL_law_1605.2.2.2.2.2.2.2.2.2.2.1
theorem dL_law_1622 : decode cL_law 1622 = .ok (.iaload, 1) := wtL_law_1605.2.2.2.2.2.2.2.2.2.2.2.1
theorem dL_law_1623 : decode cL_law 1623 = .ok (.aload_n 3, 1) := wtL_law_1605.2.2.2.2.2.2.2.2.2.2.2.2.1
theorem dL_law_1624 : decode cL_law 1624 = .ok (.invokestatic 267, 3) := wtL_law_1605.2.2.2.2.2.2.2.2.2.2.2.2.2.1
theorem dL_law_1627 : decode cL_law 1627 = .ok (.istore 5, 2) := wtL_law_1605.2.2.2.2.2.2.2.2.2.2.2.2.2.2.1
theorem wtL_law_1629 : dwcj cL_law 1629 [(0, .aload_n 2, 1), (1, .aload_n 0, 1), (2, .iload 4, 2), (4, .iconst 1, 1), (5, .iadd, 1), (6, .iaload, 1), (7, .invokevirtual 269, 3), (10, .istore 6, 2), (12, .goto 566, 3), (15, .aload_n 1, 1), (16, .aload_n 0, 1), (17, .iload 4, 2), (19, .iconst 1, 1), (20, .iadd, 1), (21, .iaload, 1), (22, .aload_n 3, 1), (23, .invokestatic 270, 3)] := dw_all (l := [44, 42, 21, 4, 4, 96, 46, 182, 1, 13, 54, 6, 167, 2, 54, 43, 42, 21, 4, 4, 96, 46, 45, 184, 1, 14]) (by decide +kernel)
theorem dL_law_1629 : decode cL_law 1629 = .ok (.aload_n 2, 1) := wtL_law_1629.1
theorem dL_law_1630 : decode cL_law 1630 = .ok (.aload_n 0, 1) := wtL_law_1629.2.1
theorem dL_law_1631 : decode cL_law 1631 = .ok (.iload 4, 2) := wtL_law_1629.2.2.1
theorem dL_law_1633 : decode cL_law 1633 = .ok (.iconst 1, 1) := wtL_law_1629.2.2.2.1
theorem dL_law_1634 : decode cL_law 1634 = .ok (.iadd, 1) := wtL_law_1629.2.2.2.2.1
theorem dL_law_1635 : decode cL_law 1635 = .ok (.iaload, 1) := wtL_law_1629.2.2.2.2.2.1
theorem dL_law_1636 : decode cL_law 1636 = .ok (.invokevirtual 269, 3) := wtL_law_1629.2.2.2.2.2.2.1
theorem dL_law_1639 : decode cL_law 1639 = .ok (.istore 6, 2) := wtL_law_1629.2.2.2.2.2.2.2.1
theorem dL_law_1641 : decode cL_law 1641 = .ok (.goto 566, 3) := wtL_law_1629.2.2.2.2.2.2.2.2.1
theorem dL_law_1644 : decode cL_law 1644 = .ok (.aload_n 1, 1) := wtL_law_1629.2.2.2.2.2.2.2.2.2.1
theorem dL_law_1645 : decode cL_law 1645 = .ok (.aload_n 0, 1) := wtL_law_1629.2.2.2.2.2.2.2.2.2.2.1
theorem dL_law_1646 : decode cL_law 1646 = .ok (.iload 4, 2) := wtL_law_1629.2.2.2.2.2.2.2.2.2.2.2.1
theorem dL_law_1648 : decode cL_law 1648 = .ok (.iconst 1, 1) := wtL_law_1629.2.2.2.2.2.2.2.2.2.2.2.2.1
theorem dL_law_1649 : decode cL_law 1649 = .ok (.iadd, 1) := wtL_law_1629.2.2.2.2.2.2.2.2.2.2.2.2.2.1
theorem dL_law_1650 : decode cL_law 1650 = .ok (.iaload, 1) := wtL_law_1629.2.2.2.2.2.2.2.2.2.2.2.2.2.2.1
theorem dL_law_1651 : decode cL_law 1651 = .ok (.aload_n 3, 1) := wtL_law_1629.2.2.2.2.2.2.2.2.2.2.2.2.2.2.2.1
theorem dL_law_1652 : decode cL_law 1652 = .ok (.invokestatic 270, 3) := wtL_law_1629.2.2.2.2.2.2.2.2.2.2.2.2.2.2.2.2.1
theorem wtL_law_1655 : dwcj cL_law 1655 [(0, .istore 5, 2), (2, .aload_n 2, 1), (3, .aload_n 0, 1), (4, .iload 4, 2), (6, .iconst 1, 1), (7, .iadd, 1), (8, .iaload, 1), (9, .invokevirtual 272, 3), (12, .astore 6, 2), (14, .goto 538, 3), (17, .aload_n 1, 1), (18, .aload_n 0, 1), (19, .iload 4, 2), (21, .iconst 1, 1), (22, .iadd, 1), (23, .iaload, 1)] := dw_all (l := [54, 5, 44, 42, 21, 4, 4, 96, 46, 182, 1, 16, 58, 6, 167, 2, 26, 43, 42, 21, 4, 4, 96, 46]) (by decide +kernel)
theorem dL_law_1655 : decode cL_law 1655 = .ok (.istore 5, 2) := wtL_law_1655.1
theorem dL_law_1657 : decode cL_law 1657 = .ok (.aload_n 2, 1) := wtL_law_1655.2.1
theorem dL_law_1658 : decode cL_law 1658 = .ok (.aload_n 0, 1) := wtL_law_1655.2.2.1
theorem dL_law_1659 : decode cL_law 1659 = .ok (.iload 4, 2) := wtL_law_1655.2.2.2.1
theorem dL_law_1661 : decode cL_law 1661 = .ok (.iconst 1, 1) := wtL_law_1655.2.2.2.2.1
theorem dL_law_1662 : decode cL_law 1662 = .ok (.iadd, 1) := wtL_law_1655.2.2.2.2.2.1
theorem dL_law_1663 : decode cL_law 1663 = .ok (.iaload, 1) := wtL_law_1655.2.2.2.2.2.2.1
theorem dL_law_1664 : decode cL_law 1664 = .ok (.invokevirtual 272, 3) := wtL_law_1655.2.2.2.2.2.2.2.1
theorem dL_law_1667 : decode cL_law 1667 = .ok (.astore 6, 2) := wtL_law_1655.2.2.2.2.2.2.2.2.1
theorem dL_law_1669 : decode cL_law 1669 = .ok (.goto 538, 3) := wtL_law_1655.2.2.2.2.2.2.2.2.2.1
theorem dL_law_1672 : decode cL_law 1672 = .ok (.aload_n 1, 1) := wtL_law_1655.2.2.2.2.2.2.2.2.2.2.1
theorem dL_law_1673 : decode cL_law 1673 = .ok (.aload_n 0, 1) := wtL_law_1655.2.2.2.2.2.2.2.2.2.2.2.1
theorem dL_law_1674 : decode cL_law 1674 = .ok (.iload 4, 2) := wtL_law_1655.2.2.2.2.2.2.2.2.2.2.2.2.1
theorem dL_law_1676 : decode cL_law 1676 = .ok (.iconst 1, 1) := wtL_law_1655.2.2.2.2.2.2.2.2.2.2.2.2.2.1
theorem dL_law_1677 : decode cL_law 1677 = .ok (.iadd, 1) := wtL_law_1655.2.2.2.2.2.2.2.2.2.2.2.2.2.2.1
theorem dL_law_1678 : decode cL_law 1678 = .ok (.iaload, 1) := wtL_law_1655.2.2.2.2.2.2.2.2.2.2.2.2.2.2.2.1
theorem wtL_law_1679 : dwcj cL_law 1679 [(0, .aload_n 0, 1), (1, .iload 4, 2), (3, .iconst 2, 1), (4, .iadd, 1), (5, .iaload, 1), (6, .aload_n 3, 1), (7, .invokestatic 273, 3), (10, .istore 5, 2), (12, .aload_n 2, 1), (13, .aload_n 0, 1), (14, .iload 4, 2), (16, .iconst 1, 1), (17, .iadd, 1), (18, .iaload, 1), (19, .aload_n 0, 1), (20, .iload 4, 2), (22, .iconst 2, 1), (23, .iadd, 1)] := dw_all (l := [42, 21, 4, 5, 96, 46, 45, 184, 1, 17, 54, 5, 44, 42, 21, 4, 4, 96, 46, 42, 21, 4, 5, 96]) (by decide +kernel)
theorem dL_law_1679 : decode cL_law 1679 = .ok (.aload_n 0, 1) := wtL_law_1679.1
theorem dL_law_1680 : decode cL_law 1680 = .ok (.iload 4, 2) := wtL_law_1679.2.1
theorem dL_law_1682 : decode cL_law 1682 = .ok (.iconst 2, 1) := wtL_law_1679.2.2.1
theorem dL_law_1683 : decode cL_law 1683 = .ok (.iadd, 1) := wtL_law_1679.2.2.2.1
theorem dL_law_1684 : decode cL_law 1684 = .ok (.iaload, 1) := wtL_law_1679.2.2.2.2.1
theorem dL_law_1685 : decode cL_law 1685 = .ok (.aload_n 3, 1) := wtL_law_1679.2.2.2.2.2.1
theorem dL_law_1686 : decode cL_law 1686 = .ok (.invokestatic 273, 3) := wtL_law_1679.2.2.2.2.2.2.1
theorem dL_law_1689 : decode cL_law 1689 = .ok (.istore 5, 2) := wtL_law_1679.2.2.2.2.2.2.2.1
theorem dL_law_1691 : decode cL_law 1691 = .ok (.aload_n 2, 1) := wtL_law_1679.2.2.2.2.2.2.2.2.1
theorem dL_law_1692 : decode cL_law 1692 = .ok (.aload_n 0, 1) := wtL_law_1679.2.2.2.2.2.2.2.2.2.1
theorem dL_law_1693 : decode cL_law 1693 = .ok (.iload 4, 2) := wtL_law_1679.2.2.2.2.2.2.2.2.2.2.1
theorem dL_law_1695 : decode cL_law 1695 = .ok (.iconst 1, 1) := wtL_law_1679.2.2.2.2.2.2.2.2.2.2.2.1
theorem dL_law_1696 : decode cL_law 1696 = .ok (.iadd, 1) := wtL_law_1679.2.2.2.2.2.2.2.2.2.2.2.2.1
theorem dL_law_1697 : decode cL_law 1697 = .ok (.iaload, 1) := wtL_law_1679.2.2.2.2.2.2.2.2.2.2.2.2.2.1
theorem dL_law_1698 : decode cL_law 1698 = .ok (.aload_n 0, 1) := wtL_law_1679.2.2.2.2.2.2.2.2.2.2.2.2.2.2.1
theorem dL_law_1699 : decode cL_law 1699 = .ok (.iload 4, 2) := wtL_law_1679.2.2.2.2.2.2.2.2.2.2.2.2.2.2.2.1
theorem dL_law_1701 : decode cL_law 1701 = .ok (.iconst 2, 1) := wtL_law_1679.2.2.2.2.2.2.2.2.2.2.2.2.2.2.2.2.1
theorem dL_law_1702 : decode cL_law 1702 = .ok (.iadd, 1) := wtL_law_1679.2.2.2.2.2.2.2.2.2.2.2.2.2.2.2.2.2.1
theorem wtL_law_1703 : dwcj cL_law 1703 [(0, .iaload, 1), (1, .invokevirtual 275, 3), (4, .astore 6, 2), (6, .goto 498, 3), (9, .aload_n 1, 1), (10, .aload_n 0, 1), (11, .iload 4, 2), (13, .iconst 1, 1), (14, .iadd, 1), (15, .iaload, 1), (16, .aload_n 0, 1), (17, .iload 4, 2), (19, .iconst 2, 1), (20, .iadd, 1), (21, .iaload, 1), (22, .aload_n 3, 1), (23, .invokestatic 276, 3)] := dw_all (l := [46, 182, 1, 19, 58, 6, 167, 1, 242, 43, 42, 21, 4, 4, 96, 46, 42, 21, 4, 5, 96, 46, 45, 184, 1, 20]) (by decide +kernel)
theorem dL_law_1703 : decode cL_law 1703 = .ok (.iaload, 1) := wtL_law_1703.1
theorem dL_law_1704 : decode cL_law 1704 = .ok (.invokevirtual 275, 3) := wtL_law_1703.2.1
theorem dL_law_1707 : decode cL_law 1707 = .ok (.astore 6, 2) := wtL_law_1703.2.2.1
theorem dL_law_1709 : decode cL_law 1709 = .ok (.goto 498, 3) := wtL_law_1703.2.2.2.1
theorem dL_law_1712 : decode cL_law 1712 = .ok (.aload_n 1, 1) := wtL_law_1703.2.2.2.2.1
theorem dL_law_1713 : decode cL_law 1713 = .ok (.aload_n 0, 1) := wtL_law_1703.2.2.2.2.2.1
theorem dL_law_1714 : decode cL_law 1714 = .ok (.iload 4, 2) := wtL_law_1703.2.2.2.2.2.2.1
theorem dL_law_1716 : decode cL_law 1716 = .ok (.iconst 1, 1) := wtL_law_1703.2.2.2.2.2.2.2.1
theorem dL_law_1717 : decode cL_law 1717 = .ok (.iadd, 1) := wtL_law_1703.2.2.2.2.2.2.2.2.1
theorem dL_law_1718 : decode cL_law 1718 = .ok (.iaload, 1) := wtL_law_1703.2.2.2.2.2.2.2.2.2.1
theorem dL_law_1719 : decode cL_law 1719 = .ok (.aload_n 0, 1) := wtL_law_1703.2.2.2.2.2.2.2.2.2.2.1
theorem dL_law_1720 : decode cL_law 1720 = .ok (.iload 4, 2) := wtL_law_1703.2.2.2.2.2.2.2.2.2.2.2.1
theorem dL_law_1722 : decode cL_law 1722 = .ok (.iconst 2, 1) := wtL_law_1703.2.2.2.2.2.2.2.2.2.2.2.2.1
theorem dL_law_1723 : decode cL_law 1723 = .ok (.iadd, 1) := wtL_law_1703.2.2.2.2.2.2.2.2.2.2.2.2.2.1
theorem dL_law_1724 : decode cL_law 1724 = .ok (.iaload, 1) := wtL_law_1703.2.2.2.2.2.2.2.2.2.2.2.2.2.2.1
theorem dL_law_1725 : decode cL_law 1725 = .ok (.aload_n 3, 1) := wtL_law_1703.2.2.2.2.2.2.2.2.2.2.2.2.2.2.2.1
theorem dL_law_1726 : decode cL_law 1726 = .ok (.invokestatic 276, 3) := wtL_law_1703.2.2.2.2.2.2.2.2.2.2.2.2.2.2.2.2.1
theorem wtL_law_1729 : dwcj cL_law 1729 [(0, .istore 5, 2), (2, .aload_n 2, 1), (3, .aload_n 0, 1), (4, .iload 4, 2), (6, .iconst 1, 1), (7, .iadd, 1), (8, .iaload, 1), (9, .aload_n 0, 1), (10, .iload 4, 2), (12, .iconst 2, 1), (13, .iadd, 1), (14, .iaload, 1), (15, .invokevirtual 278, 3), (18, .istore 6, 2), (20, .goto 458, 3), (23, .aload_n 1, 1)] := dw_all (l := [54, 5, 44, 42, 21, 4, 4, 96, 46, 42, 21, 4, 5, 96, 46, 182, 1, 22, 54, 6, 167, 1, 202, 43]) (by decide +kernel)
theorem dL_law_1729 : decode cL_law 1729 = .ok (.istore 5, 2) := wtL_law_1729.1
theorem dL_law_1731 : decode cL_law 1731 = .ok (.aload_n 2, 1) := wtL_law_1729.2.1
theorem dL_law_1732 : decode cL_law 1732 = .ok (.aload_n 0, 1) := wtL_law_1729.2.2.1
theorem dL_law_1733 : decode cL_law 1733 = .ok (.iload 4, 2) := wtL_law_1729.2.2.2.1
theorem dL_law_1735 : decode cL_law 1735 = .ok (.iconst 1, 1) := wtL_law_1729.2.2.2.2.1
theorem dL_law_1736 : decode cL_law 1736 = .ok (.iadd, 1) := wtL_law_1729.2.2.2.2.2.1
theorem dL_law_1737 : decode cL_law 1737 = .ok (.iaload, 1) := wtL_law_1729.2.2.2.2.2.2.1
theorem dL_law_1738 : decode cL_law 1738 = .ok (.aload_n 0, 1) := wtL_law_1729.2.2.2.2.2.2.2.1
theorem dL_law_1739 : decode cL_law 1739 = .ok (.iload 4, 2) := wtL_law_1729.2.2.2.2.2.2.2.2.1
theorem dL_law_1741 : decode cL_law 1741 = .ok (.iconst 2, 1) := wtL_law_1729.2.2.2.2.2.2.2.2.2.1
theorem dL_law_1742 : decode cL_law 1742 = .ok (.iadd, 1) := wtL_law_1729.2.2.2.2.2.2.2.2.2.2.1
theorem dL_law_1743 : decode cL_law 1743 = .ok (.iaload, 1) := wtL_law_1729.2.2.2.2.2.2.2.2.2.2.2.1
theorem dL_law_1744 : decode cL_law 1744 = .ok (.invokevirtual 278, 3) := wtL_law_1729.2.2.2.2.2.2.2.2.2.2.2.2.1
theorem dL_law_1747 : decode cL_law 1747 = .ok (.istore 6, 2) := wtL_law_1729.2.2.2.2.2.2.2.2.2.2.2.2.2.1
theorem dL_law_1749 : decode cL_law 1749 = .ok (.goto 458, 3) := wtL_law_1729.2.2.2.2.2.2.2.2.2.2.2.2.2.2.1
theorem dL_law_1752 : decode cL_law 1752 = .ok (.aload_n 1, 1) := wtL_law_1729.2.2.2.2.2.2.2.2.2.2.2.2.2.2.2.1
theorem wtL_law_1753 : dwcj cL_law 1753 [(0, .aload_n 0, 1), (1, .iload 4, 2), (3, .iconst 1, 1), (4, .iadd, 1), (5, .iaload, 1), (6, .aload_n 0, 1), (7, .iload 4, 2), (9, .iconst 2, 1), (10, .iadd, 1), (11, .iaload, 1), (12, .aload_n 3, 1), (13, .invokestatic 279, 3), (16, .istore 5, 2), (18, .aload_n 2, 1), (19, .aload_n 0, 1), (20, .iload 4, 2), (22, .iconst 1, 1), (23, .iadd, 1)] := dw_all (l := [42, 21, 4, 4, 96, 46, 42, 21, 4, 5, 96, 46, 45, 184, 1, 23, 54, 5, 44, 42, 21, 4, 4, 96]) (by decide +kernel)
theorem dL_law_1753 : decode cL_law 1753 = .ok (.aload_n 0, 1) := wtL_law_1753.1
theorem dL_law_1754 : decode cL_law 1754 = .ok (.iload 4, 2) := wtL_law_1753.2.1
theorem dL_law_1756 : decode cL_law 1756 = .ok (.iconst 1, 1) := wtL_law_1753.2.2.1
theorem dL_law_1757 : decode cL_law 1757 = .ok (.iadd, 1) := wtL_law_1753.2.2.2.1
theorem dL_law_1758 : decode cL_law 1758 = .ok (.iaload, 1) := wtL_law_1753.2.2.2.2.1
theorem dL_law_1759 : decode cL_law 1759 = .ok (.aload_n 0, 1) := wtL_law_1753.2.2.2.2.2.1
theorem dL_law_1760 : decode cL_law 1760 = .ok (.iload 4, 2) := wtL_law_1753.2.2.2.2.2.2.1
theorem dL_law_1762 : decode cL_law 1762 = .ok (.iconst 2, 1) := wtL_law_1753.2.2.2.2.2.2.2.1
theorem dL_law_1763 : decode cL_law 1763 = .ok (.iadd, 1) := wtL_law_1753.2.2.2.2.2.2.2.2.1
theorem dL_law_1764 : decode cL_law 1764 = .ok (.iaload, 1) := wtL_law_1753.2.2.2.2.2.2.2.2.2.1
theorem dL_law_1765 : decode cL_law 1765 = .ok (.aload_n 3, 1) := wtL_law_1753.2.2.2.2.2.2.2.2.2.2.1
theorem dL_law_1766 : decode cL_law 1766 = .ok (.invokestatic 279, 3) := wtL_law_1753.2.2.2.2.2.2.2.2.2.2.2.1
theorem dL_law_1769 : decode cL_law 1769 = .ok (.istore 5, 2) := wtL_law_1753.2.2.2.2.2.2.2.2.2.2.2.2.1
theorem dL_law_1771 : decode cL_law 1771 = .ok (.aload_n 2, 1) := wtL_law_1753.2.2.2.2.2.2.2.2.2.2.2.2.2.1
theorem dL_law_1772 : decode cL_law 1772 = .ok (.aload_n 0, 1) := wtL_law_1753.2.2.2.2.2.2.2.2.2.2.2.2.2.2.1
theorem dL_law_1773 : decode cL_law 1773 = .ok (.iload 4, 2) := wtL_law_1753.2.2.2.2.2.2.2.2.2.2.2.2.2.2.2.1
theorem dL_law_1775 : decode cL_law 1775 = .ok (.iconst 1, 1) := wtL_law_1753.2.2.2.2.2.2.2.2.2.2.2.2.2.2.2.2.1
theorem dL_law_1776 : decode cL_law 1776 = .ok (.iadd, 1) := wtL_law_1753.2.2.2.2.2.2.2.2.2.2.2.2.2.2.2.2.2.1
theorem wtL_law_1777 : dwcj cL_law 1777 [(0, .iaload, 1), (1, .aload_n 0, 1), (2, .iload 4, 2), (4, .iconst 2, 1), (5, .iadd, 1), (6, .iaload, 1), (7, .invokevirtual 281, 3), (10, .istore 6, 2), (12, .goto 418, 3), (15, .aload_n 1, 1), (16, .aload_n 0, 1), (17, .iload 4, 2), (19, .iconst 1, 1), (20, .iadd, 1), (21, .iaload, 1), (22, .aload_n 0, 1), (23, .iload 4, 2)] := dw_all (l := [46, 42, 21, 4, 5, 96, 46, 182, 1, 25, 54, 6, 167, 1, 162, 43, 42, 21, 4, 4, 96, 46, 42, 21, 4]) (by decide +kernel)
theorem dL_law_1777 : decode cL_law 1777 = .ok (.iaload, 1) := wtL_law_1777.1
theorem dL_law_1778 : decode cL_law 1778 = .ok (.aload_n 0, 1) := wtL_law_1777.2.1
theorem dL_law_1779 : decode cL_law 1779 = .ok (.iload 4, 2) := wtL_law_1777.2.2.1
theorem dL_law_1781 : decode cL_law 1781 = .ok (.iconst 2, 1) := wtL_law_1777.2.2.2.1
theorem dL_law_1782 : decode cL_law 1782 = .ok (.iadd, 1) := wtL_law_1777.2.2.2.2.1
theorem dL_law_1783 : decode cL_law 1783 = .ok (.iaload, 1) := wtL_law_1777.2.2.2.2.2.1
theorem dL_law_1784 : decode cL_law 1784 = .ok (.invokevirtual 281, 3) := wtL_law_1777.2.2.2.2.2.2.1
theorem dL_law_1787 : decode cL_law 1787 = .ok (.istore 6, 2) := wtL_law_1777.2.2.2.2.2.2.2.1
theorem dL_law_1789 : decode cL_law 1789 = .ok (.goto 418, 3) := wtL_law_1777.2.2.2.2.2.2.2.2.1
theorem dL_law_1792 : decode cL_law 1792 = .ok (.aload_n 1, 1) := wtL_law_1777.2.2.2.2.2.2.2.2.2.1
theorem dL_law_1793 : decode cL_law 1793 = .ok (.aload_n 0, 1) := wtL_law_1777.2.2.2.2.2.2.2.2.2.2.1
theorem dL_law_1794 : decode cL_law 1794 = .ok (.iload 4, 2) := wtL_law_1777.2.2.2.2.2.2.2.2.2.2.2.1
theorem dL_law_1796 : decode cL_law 1796 = .ok (.iconst 1, 1) := wtL_law_1777.2.2.2.2.2.2.2.2.2.2.2.2.1
theorem dL_law_1797 : decode cL_law 1797 = .ok (.iadd, 1) := wtL_law_1777.2.2.2.2.2.2.2.2.2.2.2.2.2.1
theorem dL_law_1798 : decode cL_law 1798 = .ok (.iaload, 1) := wtL_law_1777.2.2.2.2.2.2.2.2.2.2.2.2.2.2.1
theorem dL_law_1799 : decode cL_law 1799 = .ok (.aload_n 0, 1) := wtL_law_1777.2.2.2.2.2.2.2.2.2.2.2.2.2.2.2.1
theorem dL_law_1800 : decode cL_law 1800 = .ok (.iload 4, 2) := wtL_law_1777.2.2.2.2.2.2.2.2.2.2.2.2.2.2.2.2.1
theorem wtL_law_1802 : dwcj cL_law 1802 [(0, .iconst 2, 1), (1, .iadd, 1), (2, .iaload, 1), (3, .ifCond .eq 7, 3), (6, .iconst 1, 1), (7, .goto 4, 3), (10, .iconst 0, 1), (11, .aload_n 3, 1), (12, .invokestatic 282, 3), (15, .istore 5, 2), (17, .aload_n 2, 1), (18, .aload_n 0, 1), (19, .iload 4, 2), (21, .iconst 1, 1), (22, .iadd, 1), (23, .iaload, 1)] := dw_all (l := [5, 96, 46, 153, 0, 7, 4, 167, 0, 4, 3, 45, 184, 1, 26, 54, 5, 44, 42, 21, 4, 4, 96, 46]) (by decide +kernel)
theorem dL_law_1802 : decode cL_law 1802 = .ok (.iconst 2, 1) := wtL_law_1802.1
theorem dL_law_1803 : decode cL_law 1803 = .ok (.iadd, 1) := wtL_law_1802.2.1
theorem dL_law_1804 : decode cL_law 1804 = .ok (.iaload, 1) := wtL_law_1802.2.2.1
theorem dL_law_1805 : decode cL_law 1805 = .ok (.ifCond .eq 7, 3) := wtL_law_1802.2.2.2.1
theorem dL_law_1808 : decode cL_law 1808 = .ok (.iconst 1, 1) := wtL_law_1802.2.2.2.2.1
theorem dL_law_1809 : decode cL_law 1809 = .ok (.goto 4, 3) := wtL_law_1802.2.2.2.2.2.1
theorem dL_law_1812 : decode cL_law 1812 = .ok (.iconst 0, 1) := wtL_law_1802.2.2.2.2.2.2.1
theorem dL_law_1813 : decode cL_law 1813 = .ok (.aload_n 3, 1) := wtL_law_1802.2.2.2.2.2.2.2.1
theorem dL_law_1814 : decode cL_law 1814 = .ok (.invokestatic 282, 3) := wtL_law_1802.2.2.2.2.2.2.2.2.1
theorem dL_law_1817 : decode cL_law 1817 = .ok (.istore 5, 2) := wtL_law_1802.2.2.2.2.2.2.2.2.2.1
theorem dL_law_1819 : decode cL_law 1819 = .ok (.aload_n 2, 1) := wtL_law_1802.2.2.2.2.2.2.2.2.2.2.1
theorem dL_law_1820 : decode cL_law 1820 = .ok (.aload_n 0, 1) := wtL_law_1802.2.2.2.2.2.2.2.2.2.2.2.1
theorem dL_law_1821 : decode cL_law 1821 = .ok (.iload 4, 2) := wtL_law_1802.2.2.2.2.2.2.2.2.2.2.2.2.1
theorem dL_law_1823 : decode cL_law 1823 = .ok (.iconst 1, 1) := wtL_law_1802.2.2.2.2.2.2.2.2.2.2.2.2.2.1
theorem dL_law_1824 : decode cL_law 1824 = .ok (.iadd, 1) := wtL_law_1802.2.2.2.2.2.2.2.2.2.2.2.2.2.2.1
theorem dL_law_1825 : decode cL_law 1825 = .ok (.iaload, 1) := wtL_law_1802.2.2.2.2.2.2.2.2.2.2.2.2.2.2.2.1
theorem wtL_law_1826 : dwcj cL_law 1826 [(0, .aload_n 0, 1), (1, .iload 4, 2), (3, .iconst 2, 1), (4, .iadd, 1), (5, .iaload, 1), (6, .ifCond .eq 7, 3), (9, .iconst 1, 1), (10, .goto 4, 3), (13, .iconst 0, 1), (14, .invokevirtual 285, 3), (17, .istore 6, 2), (19, .goto 362, 3), (22, .aload_n 1, 1), (23, .aload_n 0, 1)] := dw_all (l := [42, 21, 4, 5, 96, 46, 153, 0, 7, 4, 167, 0, 4, 3, 182, 1, 29, 54, 6, 167, 1, 106, 43, 42]) (by decide +kernel)
theorem dL_law_1826 : decode cL_law 1826 = .ok (.aload_n 0, 1) := wtL_law_1826.1
theorem dL_law_1827 : decode cL_law 1827 = .ok (.iload 4, 2) := wtL_law_1826.2.1
theorem dL_law_1829 : decode cL_law 1829 = .ok (.iconst 2, 1) := wtL_law_1826.2.2.1
theorem dL_law_1830 : decode cL_law 1830 = .ok (.iadd, 1) := wtL_law_1826.2.2.2.1
theorem dL_law_1831 : decode cL_law 1831 = .ok (.iaload, 1) := wtL_law_1826.2.2.2.2.1
theorem dL_law_1832 : decode cL_law 1832 = .ok (.ifCond .eq 7, 3) := wtL_law_1826.2.2.2.2.2.1
theorem dL_law_1835 : decode cL_law 1835 = .ok (.iconst 1, 1) := wtL_law_1826.2.2.2.2.2.2.1
theorem dL_law_1836 : decode cL_law 1836 = .ok (.goto 4, 3) := wtL_law_1826.2.2.2.2.2.2.2.1
theorem dL_law_1839 : decode cL_law 1839 = .ok (.iconst 0, 1) := wtL_law_1826.2.2.2.2.2.2.2.2.1
theorem dL_law_1840 : decode cL_law 1840 = .ok (.invokevirtual 285, 3) := wtL_law_1826.2.2.2.2.2.2.2.2.2.1
theorem dL_law_1843 : decode cL_law 1843 = .ok (.istore 6, 2) := wtL_law_1826.2.2.2.2.2.2.2.2.2.2.1
theorem dL_law_1845 : decode cL_law 1845 = .ok (.goto 362, 3) := wtL_law_1826.2.2.2.2.2.2.2.2.2.2.2.1
theorem dL_law_1848 : decode cL_law 1848 = .ok (.aload_n 1, 1) := wtL_law_1826.2.2.2.2.2.2.2.2.2.2.2.2.1
theorem dL_law_1849 : decode cL_law 1849 = .ok (.aload_n 0, 1) := wtL_law_1826.2.2.2.2.2.2.2.2.2.2.2.2.2.1
theorem wtL_law_1850 : dwcj cL_law 1850 [(0, .iload 4, 2), (2, .iconst 1, 1), (3, .iadd, 1), (4, .iaload, 1), (5, .aload_n 0, 1), (6, .iload 4, 2), (8, .iconst 2, 1), (9, .iadd, 1), (10, .iaload, 1), (11, .aload_n 3, 1), (12, .invokestatic 286, 3), (15, .istore 5, 2), (17, .aload_n 2, 1), (18, .aload_n 0, 1), (19, .iload 4, 2), (21, .iconst 1, 1), (22, .iadd, 1), (23, .iaload, 1)] := dw_all (l := [21, 4, 4, 96, 46, 42, 21, 4, 5, 96, 46, 45, 184, 1, 30, 54, 5, 44, 42, 21, 4, 4, 96, 46]) (by decide +kernel)
theorem dL_law_1850 : decode cL_law 1850 = .ok (.iload 4, 2) := wtL_law_1850.1
theorem dL_law_1852 : decode cL_law 1852 = .ok (.iconst 1, 1) := wtL_law_1850.2.1
theorem dL_law_1853 : decode cL_law 1853 = .ok (.iadd, 1) := wtL_law_1850.2.2.1
theorem dL_law_1854 : decode cL_law 1854 = .ok (.iaload, 1) := wtL_law_1850.2.2.2.1
theorem dL_law_1855 : decode cL_law 1855 = .ok (.aload_n 0, 1) := wtL_law_1850.2.2.2.2.1
theorem dL_law_1856 : decode cL_law 1856 = .ok (.iload 4, 2) := wtL_law_1850.2.2.2.2.2.1
theorem dL_law_1858 : decode cL_law 1858 = .ok (.iconst 2, 1) := wtL_law_1850.2.2.2.2.2.2.1
theorem dL_law_1859 : decode cL_law 1859 = .ok (.iadd, 1) := wtL_law_1850.2.2.2.2.2.2.2.1
theorem dL_law_1860 : decode cL_law 1860 = .ok (.iaload, 1) := wtL_law_1850.2.2.2.2.2.2.2.2.1
theorem dL_law_1861 : decode cL_law 1861 = .ok (.aload_n 3, 1) := wtL_law_1850.2.2.2.2.2.2.2.2.2.1
theorem dL_law_1862 : decode cL_law 1862 = .ok (.invokestatic 286, 3) := wtL_law_1850.2.2.2.2.2.2.2.2.2.2.1
theorem dL_law_1865 : decode cL_law 1865 = .ok (.istore 5, 2) := wtL_law_1850.2.2.2.2.2.2.2.2.2.2.2.1
theorem dL_law_1867 : decode cL_law 1867 = .ok (.aload_n 2, 1) := wtL_law_1850.2.2.2.2.2.2.2.2.2.2.2.2.1
theorem dL_law_1868 : decode cL_law 1868 = .ok (.aload_n 0, 1) := wtL_law_1850.2.2.2.2.2.2.2.2.2.2.2.2.2.1
theorem dL_law_1869 : decode cL_law 1869 = .ok (.iload 4, 2) := wtL_law_1850.2.2.2.2.2.2.2.2.2.2.2.2.2.2.1
theorem dL_law_1871 : decode cL_law 1871 = .ok (.iconst 1, 1) := wtL_law_1850.2.2.2.2.2.2.2.2.2.2.2.2.2.2.2.1
theorem dL_law_1872 : decode cL_law 1872 = .ok (.iadd, 1) := wtL_law_1850.2.2.2.2.2.2.2.2.2.2.2.2.2.2.2.2.1
theorem dL_law_1873 : decode cL_law 1873 = .ok (.iaload, 1) := wtL_law_1850.2.2.2.2.2.2.2.2.2.2.2.2.2.2.2.2.2.1
theorem wtL_law_1874 : dwcj cL_law 1874 [(0, .aload_n 0, 1), (1, .iload 4, 2), (3, .iconst 2, 1), (4, .iadd, 1), (5, .iaload, 1), (6, .invokevirtual 288, 3), (9, .istore 6, 2), (11, .goto 322, 3), (14, .aload_n 1, 1), (15, .aload_n 0, 1), (16, .iload 4, 2), (18, .iconst 1, 1), (19, .iadd, 1), (20, .iaload, 1), (21, .aload_n 3, 1), (22, .invokestatic 289, 3)] := dw_all (l := [42, 21, 4, 5, 96, 46, 182, 1, 32, 54, 6, 167, 1, 66, 43, 42, 21, 4, 4, 96, 46, 45, 184, 1, 33]) (by decide +kernel)
theorem dL_law_1874 : decode cL_law 1874 = .ok (.aload_n 0, 1) := wtL_law_1874.1
theorem dL_law_1875 : decode cL_law 1875 = .ok (.iload 4, 2) := wtL_law_1874.2.1
theorem dL_law_1877 : decode cL_law 1877 = .ok (.iconst 2, 1) := wtL_law_1874.2.2.1
theorem dL_law_1878 : decode cL_law 1878 = .ok (.iadd, 1) := wtL_law_1874.2.2.2.1
theorem dL_law_1879 : decode cL_law 1879 = .ok (.iaload, 1) := wtL_law_1874.2.2.2.2.1
theorem dL_law_1880 : decode cL_law 1880 = .ok (.invokevirtual 288, 3) := wtL_law_1874.2.2.2.2.2.1
theorem dL_law_1883 : decode cL_law 1883 = .ok (.istore 6, 2) := wtL_law_1874.2.2.2.2.2.2.1
theorem dL_law_1885 : decode cL_law 1885 = .ok (.goto 322, 3) := wtL_law_1874.2.2.2.2.2.2.2.1
theorem dL_law_1888 : decode cL_law 1888 = .ok (.aload_n 1, 1) := wtL_law_1874.2.2.2.2.2.2.2.2.1
theorem dL_law_1889 : decode cL_law 1889 = .ok (.aload_n 0, 1) := wtL_law_1874.2.2.2.2.2.2.2.2.2.1
theorem dL_law_1890 : decode cL_law 1890 = .ok (.iload 4, 2) := wtL_law_1874.2.2.2.2.2.2.2.2.2.2.1
theorem dL_law_1892 : decode cL_law 1892 = .ok (.iconst 1, 1) := wtL_law_1874.2.2.2.2.2.2.2.2.2.2.2.1
theorem dL_law_1893 : decode cL_law 1893 = .ok (.iadd, 1) := wtL_law_1874.2.2.2.2.2.2.2.2.2.2.2.2.1
theorem dL_law_1894 : decode cL_law 1894 = .ok (.iaload, 1) := wtL_law_1874.2.2.2.2.2.2.2.2.2.2.2.2.2.1
theorem dL_law_1895 : decode cL_law 1895 = .ok (.aload_n 3, 1) := wtL_law_1874.2.2.2.2.2.2.2.2.2.2.2.2.2.2.1
theorem dL_law_1896 : decode cL_law 1896 = .ok (.invokestatic 289, 3) := wtL_law_1874.2.2.2.2.2.2.2.2.2.2.2.2.2.2.2.1
theorem wtL_law_1899 : dwcj cL_law 1899 [(0, .istore 5, 2), (2, .aload_n 2, 1), (3, .aload_n 0, 1), (4, .iload 4, 2), (6, .iconst 1, 1), (7, .iadd, 1), (8, .iaload, 1), (9, .invokevirtual 291, 3), (12, .istore 6, 2), (14, .goto 294, 3), (17, .aload_n 1, 1), (18, .aload_n 0, 1), (19, .iload 4, 2), (21, .iconst 1, 1), (22, .iadd, 1), (23, .iaload, 1)] := dw_all (l := [54, 5, 44, 42, 21, 4, 4, 96, 46, 182, 1, 35, 54, 6, 167, 1, 38, 43, 42, 21, 4, 4, 96, 46]) (by decide +kernel)
theorem dL_law_1899 : decode cL_law 1899 = .ok (.istore 5, 2) := wtL_law_1899.1
theorem dL_law_1901 : decode cL_law 1901 = .ok (.aload_n 2, 1) := wtL_law_1899.2.1
theorem dL_law_1902 : decode cL_law 1902 = .ok (.aload_n 0, 1) := wtL_law_1899.2.2.1
theorem dL_law_1903 : decode cL_law 1903 = .ok (.iload 4, 2) := wtL_law_1899.2.2.2.1
theorem dL_law_1905 : decode cL_law 1905 = .ok (.iconst 1, 1) := wtL_law_1899.2.2.2.2.1
theorem dL_law_1906 : decode cL_law 1906 = .ok (.iadd, 1) := wtL_law_1899.2.2.2.2.2.1
theorem dL_law_1907 : decode cL_law 1907 = .ok (.iaload, 1) := wtL_law_1899.2.2.2.2.2.2.1
theorem dL_law_1908 : decode cL_law 1908 = .ok (.invokevirtual 291, 3) := wtL_law_1899.2.2.2.2.2.2.2.1
theorem dL_law_1911 : decode cL_law 1911 = .ok (.istore 6, 2) := wtL_law_1899.2.2.2.2.2.2.2.2.1
theorem dL_law_1913 : decode cL_law 1913 = .ok (.goto 294, 3) := wtL_law_1899.2.2.2.2.2.2.2.2.2.1
theorem dL_law_1916 : decode cL_law 1916 = .ok (.aload_n 1, 1) := wtL_law_1899.2.2.2.2.2.2.2.2.2.2.1
theorem dL_law_1917 : decode cL_law 1917 = .ok (.aload_n 0, 1) := wtL_law_1899.2.2.2.2.2.2.2.2.2.2.2.1
theorem dL_law_1918 : decode cL_law 1918 = .ok (.iload 4, 2) := wtL_law_1899.2.2.2.2.2.2.2.2.2.2.2.2.1
theorem dL_law_1920 : decode cL_law 1920 = .ok (.iconst 1, 1) := wtL_law_1899.2.2.2.2.2.2.2.2.2.2.2.2.2.1
theorem dL_law_1921 : decode cL_law 1921 = .ok (.iadd, 1) := wtL_law_1899.2.2.2.2.2.2.2.2.2.2.2.2.2.2.1
theorem dL_law_1922 : decode cL_law 1922 = .ok (.iaload, 1) := wtL_law_1899.2.2.2.2.2.2.2.2.2.2.2.2.2.2.2.1
theorem wtL_law_1923 : dwcj cL_law 1923 [(0, .aload_n 3, 1), (1, .invokestatic 292, 3), (4, .istore 5, 2), (6, .aload_n 2, 1), (7, .aload_n 0, 1), (8, .iload 4, 2), (10, .iconst 1, 1), (11, .iadd, 1), (12, .iaload, 1), (13, .invokevirtual 294, 3), (16, .istore 6, 2), (18, .goto 266, 3), (21, .aload_n 1, 1), (22, .aload_n 0, 1), (23, .iload 4, 2)] := dw_all (l := [45, 184, 1, 36, 54, 5, 44, 42, 21, 4, 4, 96, 46, 182, 1, 38, 54, 6, 167, 1, 10, 43, 42, 21, 4]) (by decide +kernel)
theorem dL_law_1923 : decode cL_law 1923 = .ok (.aload_n 3, 1) := wtL_law_1923.1
theorem dL_law_1924 : decode cL_law 1924 = .ok (.invokestatic 292, 3) := wtL_law_1923.2.1
theorem dL_law_1927 : decode cL_law 1927 = .ok (.istore 5, 2) := wtL_law_1923.2.2.1
theorem dL_law_1929 : decode cL_law 1929 = .ok (.aload_n 2, 1) := wtL_law_1923.2.2.2.1
theorem dL_law_1930 : decode cL_law 1930 = .ok (.aload_n 0, 1) := wtL_law_1923.2.2.2.2.1
theorem dL_law_1931 : decode cL_law 1931 = .ok (.iload 4, 2) := wtL_law_1923.2.2.2.2.2.1
theorem dL_law_1933 : decode cL_law 1933 = .ok (.iconst 1, 1) := wtL_law_1923.2.2.2.2.2.2.1
theorem dL_law_1934 : decode cL_law 1934 = .ok (.iadd, 1) := wtL_law_1923.2.2.2.2.2.2.2.1
theorem dL_law_1935 : decode cL_law 1935 = .ok (.iaload, 1) := wtL_law_1923.2.2.2.2.2.2.2.2.1
theorem dL_law_1936 : decode cL_law 1936 = .ok (.invokevirtual 294, 3) := wtL_law_1923.2.2.2.2.2.2.2.2.2.1
theorem dL_law_1939 : decode cL_law 1939 = .ok (.istore 6, 2) := wtL_law_1923.2.2.2.2.2.2.2.2.2.2.1
theorem dL_law_1941 : decode cL_law 1941 = .ok (.goto 266, 3) := wtL_law_1923.2.2.2.2.2.2.2.2.2.2.2.1
theorem dL_law_1944 : decode cL_law 1944 = .ok (.aload_n 1, 1) := wtL_law_1923.2.2.2.2.2.2.2.2.2.2.2.2.1
theorem dL_law_1945 : decode cL_law 1945 = .ok (.aload_n 0, 1) := wtL_law_1923.2.2.2.2.2.2.2.2.2.2.2.2.2.1
theorem dL_law_1946 : decode cL_law 1946 = .ok (.iload 4, 2) := wtL_law_1923.2.2.2.2.2.2.2.2.2.2.2.2.2.2.1
theorem wtL_law_1948 : dwcj cL_law 1948 [(0, .iconst 1, 1), (1, .iadd, 1), (2, .iaload, 1), (3, .aload_n 3, 1), (4, .invokestatic 295, 3), (7, .istore 5, 2), (9, .aload_n 2, 1), (10, .aload_n 0, 1), (11, .iload 4, 2), (13, .iconst 1, 1), (14, .iadd, 1), (15, .iaload, 1), (16, .invokevirtual 297, 3), (19, .istore 6, 2), (21, .goto 238, 3)] := dw_all (l := [4, 96, 46, 45, 184, 1, 39, 54, 5, 44, 42, 21, 4, 4, 96, 46, 182, 1, 41, 54, 6, 167, 0, 238]) (by decide +kernel)
theorem dL_law_1948 : decode cL_law 1948 = .ok (.iconst 1, 1) := wtL_law_1948.1
theorem dL_law_1949 : decode cL_law 1949 = .ok (.iadd, 1) := wtL_law_1948.2.1
theorem dL_law_1950 : decode cL_law 1950 = .ok (.iaload, 1) := wtL_law_1948.2.2.1
theorem dL_law_1951 : decode cL_law 1951 = .ok (.aload_n 3, 1) := wtL_law_1948.2.2.2.1
theorem dL_law_1952 : decode cL_law 1952 = .ok (.invokestatic 295, 3) := wtL_law_1948.2.2.2.2.1
theorem dL_law_1955 : decode cL_law 1955 = .ok (.istore 5, 2) := wtL_law_1948.2.2.2.2.2.1
theorem dL_law_1957 : decode cL_law 1957 = .ok (.aload_n 2, 1) := wtL_law_1948.2.2.2.2.2.2.1
theorem dL_law_1958 : decode cL_law 1958 = .ok (.aload_n 0, 1) := wtL_law_1948.2.2.2.2.2.2.2.1
theorem dL_law_1959 : decode cL_law 1959 = .ok (.iload 4, 2) := wtL_law_1948.2.2.2.2.2.2.2.2.1
theorem dL_law_1961 : decode cL_law 1961 = .ok (.iconst 1, 1) := wtL_law_1948.2.2.2.2.2.2.2.2.2.1
theorem dL_law_1962 : decode cL_law 1962 = .ok (.iadd, 1) := wtL_law_1948.2.2.2.2.2.2.2.2.2.2.1
theorem dL_law_1963 : decode cL_law 1963 = .ok (.iaload, 1) := wtL_law_1948.2.2.2.2.2.2.2.2.2.2.2.1
theorem dL_law_1964 : decode cL_law 1964 = .ok (.invokevirtual 297, 3) := wtL_law_1948.2.2.2.2.2.2.2.2.2.2.2.2.1
theorem dL_law_1967 : decode cL_law 1967 = .ok (.istore 6, 2) := wtL_law_1948.2.2.2.2.2.2.2.2.2.2.2.2.2.1
theorem dL_law_1969 : decode cL_law 1969 = .ok (.goto 238, 3) := wtL_law_1948.2.2.2.2.2.2.2.2.2.2.2.2.2.2.1
theorem wtL_law_1972 : dwcj cL_law 1972 [(0, .aload_n 1, 1), (1, .aload_n 0, 1), (2, .iload 4, 2), (4, .iconst 1, 1), (5, .iadd, 1), (6, .iaload, 1), (7, .aload_n 3, 1), (8, .invokestatic 298, 3), (11, .istore 5, 2), (13, .aload_n 2, 1), (14, .aload_n 0, 1), (15, .iload 4, 2), (17, .iconst 1, 1), (18, .iadd, 1), (19, .iaload, 1), (20, .invokevirtual 300, 3), (23, .astore 6, 2)] := dw_all (l := [43, 42, 21, 4, 4, 96, 46, 45, 184, 1, 42, 54, 5, 44, 42, 21, 4, 4, 96, 46, 182, 1, 44, 58, 6]) (by decide +kernel)
theorem dL_law_1972 : decode cL_law 1972 = .ok (.aload_n 1, 1) := wtL_law_1972.1
theorem dL_law_1973 : decode cL_law 1973 = .ok (.aload_n 0, 1) := wtL_law_1972.2.1
theorem dL_law_1974 : decode cL_law 1974 = .ok (.iload 4, 2) := wtL_law_1972.2.2.1
theorem dL_law_1976 : decode cL_law 1976 = .ok (.iconst 1, 1) := wtL_law_1972.2.2.2.1
theorem dL_law_1977 : decode cL_law 1977 = .ok (.iadd, 1) := wtL_law_1972.2.2.2.2.1
theorem dL_law_1978 : decode cL_law 1978 = .ok (.iaload, 1) := wtL_law_1972.2.2.2.2.2.1
theorem dL_law_1979 : decode cL_law 1979 = .ok (.aload_n 3, 1) := wtL_law_1972.2.2.2.2.2.2.1
theorem dL_law_1980 : decode cL_law 1980 = .ok (.invokestatic 298, 3) := wtL_law_1972.2.2.2.2.2.2.2.1
theorem dL_law_1983 : decode cL_law 1983 = .ok (.istore 5, 2) := wtL_law_1972.2.2.2.2.2.2.2.2.1
theorem dL_law_1985 : decode cL_law 1985 = .ok (.aload_n 2, 1) := wtL_law_1972.2.2.2.2.2.2.2.2.2.1
theorem dL_law_1986 : decode cL_law 1986 = .ok (.aload_n 0, 1) := wtL_law_1972.2.2.2.2.2.2.2.2.2.2.1
theorem dL_law_1987 : decode cL_law 1987 = .ok (.iload 4, 2) := wtL_law_1972.2.2.2.2.2.2.2.2.2.2.2.1
theorem dL_law_1989 : decode cL_law 1989 = .ok (.iconst 1, 1) := wtL_law_1972.2.2.2.2.2.2.2.2.2.2.2.2.1
theorem dL_law_1990 : decode cL_law 1990 = .ok (.iadd, 1) := wtL_law_1972.2.2.2.2.2.2.2.2.2.2.2.2.2.1
theorem dL_law_1991 : decode cL_law 1991 = .ok (.iaload, 1) := wtL_law_1972.2.2.2.2.2.2.2.2.2.2.2.2.2.2.1
theorem dL_law_1992 : decode cL_law 1992 = .ok (.invokevirtual 300, 3) := wtL_law_1972.2.2.2.2.2.2.2.2.2.2.2.2.2.2.2.1
theorem dL_law_1995 : decode cL_law 1995 = .ok (.astore 6, 2) := wtL_law_1972.2.2.2.2.2.2.2.2.2.2.2.2.2.2.2.2.1
theorem wtL_law_1997 : dwcj cL_law 1997 [(0, .goto 210, 3), (3, .aload_n 1, 1), (4, .aload_n 0, 1), (5, .iload 4, 2), (7, .iconst 1, 1), (8, .iadd, 1), (9, .iaload, 1), (10, .aload_n 3, 1), (11, .invokestatic 301, 3), (14, .istore 5, 2), (16, .aload_n 2, 1), (17, .aload_n 0, 1), (18, .iload 4, 2), (20, .iconst 1, 1), (21, .iadd, 1), (22, .iaload, 1), (23, .invokevirtual 303, 3)] := dw_all (l := [167, 0, 210, 43, 42, 21, 4, 4, 96, 46, 45, 184, 1, 45, 54, 5, 44, 42, 21, 4, 4, 96, 46, 182, 1, 47]) (by decide +kernel)
theorem dL_law_1997 : decode cL_law 1997 = .ok (.goto 210, 3) := wtL_law_1997.1
theorem dL_law_2000 : decode cL_law 2000 = .ok (.aload_n 1, 1) := wtL_law_1997.2.1
theorem dL_law_2001 : decode cL_law 2001 = .ok (.aload_n 0, 1) := wtL_law_1997.2.2.1
theorem dL_law_2002 : decode cL_law 2002 = .ok (.iload 4, 2) := wtL_law_1997.2.2.2.1
theorem dL_law_2004 : decode cL_law 2004 = .ok (.iconst 1, 1) := wtL_law_1997.2.2.2.2.1
theorem dL_law_2005 : decode cL_law 2005 = .ok (.iadd, 1) := wtL_law_1997.2.2.2.2.2.1
theorem dL_law_2006 : decode cL_law 2006 = .ok (.iaload, 1) := wtL_law_1997.2.2.2.2.2.2.1
theorem dL_law_2007 : decode cL_law 2007 = .ok (.aload_n 3, 1) := wtL_law_1997.2.2.2.2.2.2.2.1
theorem dL_law_2008 : decode cL_law 2008 = .ok (.invokestatic 301, 3) := wtL_law_1997.2.2.2.2.2.2.2.2.1
theorem dL_law_2011 : decode cL_law 2011 = .ok (.istore 5, 2) := wtL_law_1997.2.2.2.2.2.2.2.2.2.1
theorem dL_law_2013 : decode cL_law 2013 = .ok (.aload_n 2, 1) := wtL_law_1997.2.2.2.2.2.2.2.2.2.2.1
theorem dL_law_2014 : decode cL_law 2014 = .ok (.aload_n 0, 1) := wtL_law_1997.2.2.2.2.2.2.2.2.2.2.2.1
theorem dL_law_2015 : decode cL_law 2015 = .ok (.iload 4, 2) := wtL_law_1997.2.2.2.2.2.2.2.2.2.2.2.2.1
theorem dL_law_2017 : decode cL_law 2017 = .ok (.iconst 1, 1) := wtL_law_1997.2.2.2.2.2.2.2.2.2.2.2.2.2.1
theorem dL_law_2018 : decode cL_law 2018 = .ok (.iadd, 1) := wtL_law_1997.2.2.2.2.2.2.2.2.2.2.2.2.2.2.1
theorem dL_law_2019 : decode cL_law 2019 = .ok (.iaload, 1) := wtL_law_1997.2.2.2.2.2.2.2.2.2.2.2.2.2.2.2.1
theorem dL_law_2020 : decode cL_law 2020 = .ok (.invokevirtual 303, 3) := wtL_law_1997.2.2.2.2.2.2.2.2.2.2.2.2.2.2.2.2.1
theorem wtL_law_2023 : dwcj cL_law 2023 [(0, .istore 6, 2), (2, .goto 182, 3), (5, .aload_n 1, 1), (6, .aload_n 0, 1), (7, .iload 4, 2), (9, .iconst 1, 1), (10, .iadd, 1), (11, .iaload, 1), (12, .aload_n 3, 1), (13, .invokestatic 304, 3), (16, .istore 5, 2), (18, .aload_n 2, 1), (19, .aload_n 0, 1), (20, .iload 4, 2), (22, .iconst 1, 1), (23, .iadd, 1)] := dw_all (l := [54, 6, 167, 0, 182, 43, 42, 21, 4, 4, 96, 46, 45, 184, 1, 48, 54, 5, 44, 42, 21, 4, 4, 96]) (by decide +kernel)
theorem dL_law_2023 : decode cL_law 2023 = .ok (.istore 6, 2) := wtL_law_2023.1
theorem dL_law_2025 : decode cL_law 2025 = .ok (.goto 182, 3) := wtL_law_2023.2.1
theorem dL_law_2028 : decode cL_law 2028 = .ok (.aload_n 1, 1) := wtL_law_2023.2.2.1
theorem dL_law_2029 : decode cL_law 2029 = .ok (.aload_n 0, 1) := wtL_law_2023.2.2.2.1
theorem dL_law_2030 : decode cL_law 2030 = .ok (.iload 4, 2) := wtL_law_2023.2.2.2.2.1
theorem dL_law_2032 : decode cL_law 2032 = .ok (.iconst 1, 1) := wtL_law_2023.2.2.2.2.2.1
theorem dL_law_2033 : decode cL_law 2033 = .ok (.iadd, 1) := wtL_law_2023.2.2.2.2.2.2.1
theorem dL_law_2034 : decode cL_law 2034 = .ok (.iaload, 1) := wtL_law_2023.2.2.2.2.2.2.2.1
theorem dL_law_2035 : decode cL_law 2035 = .ok (.aload_n 3, 1) := wtL_law_2023.2.2.2.2.2.2.2.2.1
theorem dL_law_2036 : decode cL_law 2036 = .ok (.invokestatic 304, 3) := wtL_law_2023.2.2.2.2.2.2.2.2.2.1
theorem dL_law_2039 : decode cL_law 2039 = .ok (.istore 5, 2) := wtL_law_2023.2.2.2.2.2.2.2.2.2.2.1
theorem dL_law_2041 : decode cL_law 2041 = .ok (.aload_n 2, 1) := wtL_law_2023.2.2.2.2.2.2.2.2.2.2.2.1
theorem dL_law_2042 : decode cL_law 2042 = .ok (.aload_n 0, 1) := wtL_law_2023.2.2.2.2.2.2.2.2.2.2.2.2.1
theorem dL_law_2043 : decode cL_law 2043 = .ok (.iload 4, 2) := wtL_law_2023.2.2.2.2.2.2.2.2.2.2.2.2.2.1
theorem dL_law_2045 : decode cL_law 2045 = .ok (.iconst 1, 1) := wtL_law_2023.2.2.2.2.2.2.2.2.2.2.2.2.2.2.1
theorem dL_law_2046 : decode cL_law 2046 = .ok (.iadd, 1) := wtL_law_2023.2.2.2.2.2.2.2.2.2.2.2.2.2.2.2.1
theorem wtL_law_2047 : dwcj cL_law 2047 [(0, .iaload, 1), (1, .invokevirtual 306, 3), (4, .istore 6, 2), (6, .goto 154, 3), (9, .aload_n 1, 1), (10, .aload_n 0, 1), (11, .iload 4, 2), (13, .iconst 1, 1), (14, .iadd, 1), (15, .iaload, 1), (16, .aload_n 3, 1), (17, .invokestatic 307, 3), (20, .istore 5, 2), (22, .aload_n 2, 1), (23, .aload_n 0, 1)] := dw_all (l := [46, 182, 1, 50, 54, 6, 167, 0, 154, 43, 42, 21, 4, 4, 96, 46, 45, 184, 1, 51, 54, 5, 44, 42]) (by decide +kernel)
theorem dL_law_2047 : decode cL_law 2047 = .ok (.iaload, 1) := wtL_law_2047.1
theorem dL_law_2048 : decode cL_law 2048 = .ok (.invokevirtual 306, 3) := wtL_law_2047.2.1
theorem dL_law_2051 : decode cL_law 2051 = .ok (.istore 6, 2) := wtL_law_2047.2.2.1
theorem dL_law_2053 : decode cL_law 2053 = .ok (.goto 154, 3) := wtL_law_2047.2.2.2.1
theorem dL_law_2056 : decode cL_law 2056 = .ok (.aload_n 1, 1) := wtL_law_2047.2.2.2.2.1
theorem dL_law_2057 : decode cL_law 2057 = .ok (.aload_n 0, 1) := wtL_law_2047.2.2.2.2.2.1
theorem dL_law_2058 : decode cL_law 2058 = .ok (.iload 4, 2) := wtL_law_2047.2.2.2.2.2.2.1
theorem dL_law_2060 : decode cL_law 2060 = .ok (.iconst 1, 1) := wtL_law_2047.2.2.2.2.2.2.2.1
theorem dL_law_2061 : decode cL_law 2061 = .ok (.iadd, 1) := wtL_law_2047.2.2.2.2.2.2.2.2.1
theorem dL_law_2062 : decode cL_law 2062 = .ok (.iaload, 1) := wtL_law_2047.2.2.2.2.2.2.2.2.2.1
theorem dL_law_2063 : decode cL_law 2063 = .ok (.aload_n 3, 1) := wtL_law_2047.2.2.2.2.2.2.2.2.2.2.1
theorem dL_law_2064 : decode cL_law 2064 = .ok (.invokestatic 307, 3) := wtL_law_2047.2.2.2.2.2.2.2.2.2.2.2.1
theorem dL_law_2067 : decode cL_law 2067 = .ok (.istore 5, 2) := wtL_law_2047.2.2.2.2.2.2.2.2.2.2.2.2.1
theorem dL_law_2069 : decode cL_law 2069 = .ok (.aload_n 2, 1) := wtL_law_2047.2.2.2.2.2.2.2.2.2.2.2.2.2.1
theorem dL_law_2070 : decode cL_law 2070 = .ok (.aload_n 0, 1) := wtL_law_2047.2.2.2.2.2.2.2.2.2.2.2.2.2.2.1
theorem wtL_law_2071 : dwcj cL_law 2071 [(0, .iload 4, 2), (2, .iconst 1, 1), (3, .iadd, 1), (4, .iaload, 1), (5, .invokevirtual 309, 3), (8, .istore 6, 2), (10, .goto 126, 3), (13, .aload_n 1, 1), (14, .aload_n 0, 1), (15, .iload 4, 2), (17, .iconst 1, 1), (18, .iadd, 1), (19, .iaload, 1), (20, .aload_n 0, 1), (21, .iload 4, 2), (23, .iconst 2, 1)] := dw_all (l := [21, 4, 4, 96, 46, 182, 1, 53, 54, 6, 167, 0, 126, 43, 42, 21, 4, 4, 96, 46, 42, 21, 4, 5]) (by decide +kernel)
theorem dL_law_2071 : decode cL_law 2071 = .ok (.iload 4, 2) := wtL_law_2071.1
theorem dL_law_2073 : decode cL_law 2073 = .ok (.iconst 1, 1) := wtL_law_2071.2.1
theorem dL_law_2074 : decode cL_law 2074 = .ok (.iadd, 1) := wtL_law_2071.2.2.1
theorem dL_law_2075 : decode cL_law 2075 = .ok (.iaload, 1) := wtL_law_2071.2.2.2.1
theorem dL_law_2076 : decode cL_law 2076 = .ok (.invokevirtual 309, 3) := wtL_law_2071.2.2.2.2.1
theorem dL_law_2079 : decode cL_law 2079 = .ok (.istore 6, 2) := wtL_law_2071.2.2.2.2.2.1
theorem dL_law_2081 : decode cL_law 2081 = .ok (.goto 126, 3) := wtL_law_2071.2.2.2.2.2.2.1
theorem dL_law_2084 : decode cL_law 2084 = .ok (.aload_n 1, 1) := wtL_law_2071.2.2.2.2.2.2.2.1
theorem dL_law_2085 : decode cL_law 2085 = .ok (.aload_n 0, 1) := wtL_law_2071.2.2.2.2.2.2.2.2.1
theorem dL_law_2086 : decode cL_law 2086 = .ok (.iload 4, 2) := wtL_law_2071.2.2.2.2.2.2.2.2.2.1
theorem dL_law_2088 : decode cL_law 2088 = .ok (.iconst 1, 1) := wtL_law_2071.2.2.2.2.2.2.2.2.2.2.1
theorem dL_law_2089 : decode cL_law 2089 = .ok (.iadd, 1) := wtL_law_2071.2.2.2.2.2.2.2.2.2.2.2.1
theorem dL_law_2090 : decode cL_law 2090 = .ok (.iaload, 1) := wtL_law_2071.2.2.2.2.2.2.2.2.2.2.2.2.1
theorem dL_law_2091 : decode cL_law 2091 = .ok (.aload_n 0, 1) := wtL_law_2071.2.2.2.2.2.2.2.2.2.2.2.2.2.1
theorem dL_law_2092 : decode cL_law 2092 = .ok (.iload 4, 2) := wtL_law_2071.2.2.2.2.2.2.2.2.2.2.2.2.2.2.1
theorem dL_law_2094 : decode cL_law 2094 = .ok (.iconst 2, 1) := wtL_law_2071.2.2.2.2.2.2.2.2.2.2.2.2.2.2.2.1
theorem wtL_law_2095 : dwcj cL_law 2095 [(0, .iadd, 1), (1, .iaload, 1), (2, .ifCond .eq 7, 3), (5, .iconst 1, 1), (6, .goto 4, 3), (9, .iconst 0, 1), (10, .aload_n 3, 1), (11, .invokestatic 310, 3), (14, .istore 5, 2), (16, .aload_n 2, 1), (17, .aload_n 0, 1), (18, .iload 4, 2), (20, .iconst 1, 1), (21, .iadd, 1), (22, .iaload, 1), (23, .aload_n 0, 1)] := dw_all (l := [96, 46, 153, 0, 7, 4, 167, 0, 4, 3, 45, 184, 1, 54, 54, 5, 44, 42, 21, 4, 4, 96, 46, 42]) (by decide +kernel)
theorem dL_law_2095 : decode cL_law 2095 = .ok (.iadd, 1) := wtL_law_2095.1
theorem dL_law_2096 : decode cL_law 2096 = .ok (.iaload, 1) := wtL_law_2095.2.1
theorem dL_law_2097 : decode cL_law 2097 = .ok (.ifCond .eq 7, 3) := wtL_law_2095.2.2.1
theorem dL_law_2100 : decode cL_law 2100 = .ok (.iconst 1, 1) := wtL_law_2095.2.2.2.1
theorem dL_law_2101 : decode cL_law 2101 = .ok (.goto 4, 3) := wtL_law_2095.2.2.2.2.1
theorem dL_law_2104 : decode cL_law 2104 = .ok (.iconst 0, 1) := wtL_law_2095.2.2.2.2.2.1
theorem dL_law_2105 : decode cL_law 2105 = .ok (.aload_n 3, 1) := wtL_law_2095.2.2.2.2.2.2.1
theorem dL_law_2106 : decode cL_law 2106 = .ok (.invokestatic 310, 3) := wtL_law_2095.2.2.2.2.2.2.2.1
theorem dL_law_2109 : decode cL_law 2109 = .ok (.istore 5, 2) := wtL_law_2095.2.2.2.2.2.2.2.2.1
theorem dL_law_2111 : decode cL_law 2111 = .ok (.aload_n 2, 1) := wtL_law_2095.2.2.2.2.2.2.2.2.2.1
theorem dL_law_2112 : decode cL_law 2112 = .ok (.aload_n 0, 1) := wtL_law_2095.2.2.2.2.2.2.2.2.2.2.1
theorem dL_law_2113 : decode cL_law 2113 = .ok (.iload 4, 2) := wtL_law_2095.2.2.2.2.2.2.2.2.2.2.2.1
theorem dL_law_2115 : decode cL_law 2115 = .ok (.iconst 1, 1) := wtL_law_2095.2.2.2.2.2.2.2.2.2.2.2.2.1
theorem dL_law_2116 : decode cL_law 2116 = .ok (.iadd, 1) := wtL_law_2095.2.2.2.2.2.2.2.2.2.2.2.2.2.1
theorem dL_law_2117 : decode cL_law 2117 = .ok (.iaload, 1) := wtL_law_2095.2.2.2.2.2.2.2.2.2.2.2.2.2.2.1
theorem dL_law_2118 : decode cL_law 2118 = .ok (.aload_n 0, 1) := wtL_law_2095.2.2.2.2.2.2.2.2.2.2.2.2.2.2.2.1
theorem wtL_law_2119 : dwcj cL_law 2119 [(0, .iload 4, 2), (2, .iconst 2, 1), (3, .iadd, 1), (4, .iaload, 1), (5, .ifCond .eq 7, 3), (8, .iconst 1, 1), (9, .goto 4, 3), (12, .iconst 0, 1), (13, .invokevirtual 312, 3), (16, .istore 6, 2), (18, .goto 70, 3), (21, .aload_n 1, 1), (22, .aload_n 0, 1), (23, .iload 4, 2)] := dw_all (l := [21, 4, 5, 96, 46, 153, 0, 7, 4, 167, 0, 4, 3, 182, 1, 56, 54, 6, 167, 0, 70, 43, 42, 21, 4]) (by decide +kernel)
theorem dL_law_2119 : decode cL_law 2119 = .ok (.iload 4, 2) := wtL_law_2119.1
theorem dL_law_2121 : decode cL_law 2121 = .ok (.iconst 2, 1) := wtL_law_2119.2.1
theorem dL_law_2122 : decode cL_law 2122 = .ok (.iadd, 1) := wtL_law_2119.2.2.1
theorem dL_law_2123 : decode cL_law 2123 = .ok (.iaload, 1) := wtL_law_2119.2.2.2.1
theorem dL_law_2124 : decode cL_law 2124 = .ok (.ifCond .eq 7, 3) := wtL_law_2119.2.2.2.2.1
theorem dL_law_2127 : decode cL_law 2127 = .ok (.iconst 1, 1) := wtL_law_2119.2.2.2.2.2.1
theorem dL_law_2128 : decode cL_law 2128 = .ok (.goto 4, 3) := wtL_law_2119.2.2.2.2.2.2.1
theorem dL_law_2131 : decode cL_law 2131 = .ok (.iconst 0, 1) := wtL_law_2119.2.2.2.2.2.2.2.1
theorem dL_law_2132 : decode cL_law 2132 = .ok (.invokevirtual 312, 3) := wtL_law_2119.2.2.2.2.2.2.2.2.1
theorem dL_law_2135 : decode cL_law 2135 = .ok (.istore 6, 2) := wtL_law_2119.2.2.2.2.2.2.2.2.2.1
theorem dL_law_2137 : decode cL_law 2137 = .ok (.goto 70, 3) := wtL_law_2119.2.2.2.2.2.2.2.2.2.2.1
theorem dL_law_2140 : decode cL_law 2140 = .ok (.aload_n 1, 1) := wtL_law_2119.2.2.2.2.2.2.2.2.2.2.2.1
theorem dL_law_2141 : decode cL_law 2141 = .ok (.aload_n 0, 1) := wtL_law_2119.2.2.2.2.2.2.2.2.2.2.2.2.1
theorem dL_law_2142 : decode cL_law 2142 = .ok (.iload 4, 2) := wtL_law_2119.2.2.2.2.2.2.2.2.2.2.2.2.2.1
theorem wtL_law_2144 : dwcj cL_law 2144 [(0, .iconst 1, 1), (1, .iadd, 1), (2, .iaload, 1), (3, .aload_n 3, 1), (4, .invokestatic 313, 3), (7, .istore 5, 2), (9, .aload_n 2, 1), (10, .aload_n 0, 1), (11, .iload 4, 2), (13, .iconst 1, 1), (14, .iadd, 1), (15, .iaload, 1), (16, .invokevirtual 315, 3), (19, .istore 6, 2), (21, .goto 42, 3)] := dw_all (l := [4, 96, 46, 45, 184, 1, 57, 54, 5, 44, 42, 21, 4, 4, 96, 46, 182, 1, 59, 54, 6, 167, 0, 42]) (by decide +kernel)
theorem dL_law_2144 : decode cL_law 2144 = .ok (.iconst 1, 1) := wtL_law_2144.1
theorem dL_law_2145 : decode cL_law 2145 = .ok (.iadd, 1) := wtL_law_2144.2.1
theorem dL_law_2146 : decode cL_law 2146 = .ok (.iaload, 1) := wtL_law_2144.2.2.1
theorem dL_law_2147 : decode cL_law 2147 = .ok (.aload_n 3, 1) := wtL_law_2144.2.2.2.1
theorem dL_law_2148 : decode cL_law 2148 = .ok (.invokestatic 313, 3) := wtL_law_2144.2.2.2.2.1
theorem dL_law_2151 : decode cL_law 2151 = .ok (.istore 5, 2) := wtL_law_2144.2.2.2.2.2.1
theorem dL_law_2153 : decode cL_law 2153 = .ok (.aload_n 2, 1) := wtL_law_2144.2.2.2.2.2.2.1
theorem dL_law_2154 : decode cL_law 2154 = .ok (.aload_n 0, 1) := wtL_law_2144.2.2.2.2.2.2.2.1
theorem dL_law_2155 : decode cL_law 2155 = .ok (.iload 4, 2) := wtL_law_2144.2.2.2.2.2.2.2.2.1
theorem dL_law_2157 : decode cL_law 2157 = .ok (.iconst 1, 1) := wtL_law_2144.2.2.2.2.2.2.2.2.2.1
theorem dL_law_2158 : decode cL_law 2158 = .ok (.iadd, 1) := wtL_law_2144.2.2.2.2.2.2.2.2.2.2.1
theorem dL_law_2159 : decode cL_law 2159 = .ok (.iaload, 1) := wtL_law_2144.2.2.2.2.2.2.2.2.2.2.2.1
theorem dL_law_2160 : decode cL_law 2160 = .ok (.invokevirtual 315, 3) := wtL_law_2144.2.2.2.2.2.2.2.2.2.2.2.2.1
theorem dL_law_2163 : decode cL_law 2163 = .ok (.istore 6, 2) := wtL_law_2144.2.2.2.2.2.2.2.2.2.2.2.2.2.1
theorem dL_law_2165 : decode cL_law 2165 = .ok (.goto 42, 3) := wtL_law_2144.2.2.2.2.2.2.2.2.2.2.2.2.2.2.1
theorem wtL_law_2168 : dwcj cL_law 2168 [(0, .aload_n 1, 1), (1, .invokevirtual 316, 3), (4, .pop, 1), (5, .aload_n 2, 1), (6, .invokevirtual 319, 3), (9, .pop, 1), (10, .goto 29, 3), (13, .aload_n 1, 1), (14, .invokevirtual 320, 3), (17, .pop, 1), (18, .aload_n 2, 1), (19, .invokevirtual 324, 3), (22, .pop, 1), (23, .goto 16, 3)] := dw_all (l := [43, 182, 1, 60, 87, 44, 182, 1, 63, 87, 167, 0, 29, 43, 182, 1, 64, 87, 44, 182, 1, 68, 87, 167, 0, 16]) (by decide +kernel)
theorem dL_law_2168 : decode cL_law 2168 = .ok (.aload_n 1, 1) := wtL_law_2168.1
theorem dL_law_2169 : decode cL_law 2169 = .ok (.invokevirtual 316, 3) := wtL_law_2168.2.1
theorem dL_law_2172 : decode cL_law 2172 = .ok (.pop, 1) := wtL_law_2168.2.2.1
theorem dL_law_2173 : decode cL_law 2173 = .ok (.aload_n 2, 1) := wtL_law_2168.2.2.2.1
theorem dL_law_2174 : decode cL_law 2174 = .ok (.invokevirtual 319, 3) := wtL_law_2168.2.2.2.2.1
theorem dL_law_2177 : decode cL_law 2177 = .ok (.pop, 1) := wtL_law_2168.2.2.2.2.2.1
theorem dL_law_2178 : decode cL_law 2178 = .ok (.goto 29, 3) := wtL_law_2168.2.2.2.2.2.2.1
theorem dL_law_2181 : decode cL_law 2181 = .ok (.aload_n 1, 1) := wtL_law_2168.2.2.2.2.2.2.2.1
theorem dL_law_2182 : decode cL_law 2182 = .ok (.invokevirtual 320, 3) := wtL_law_2168.2.2.2.2.2.2.2.2.1
theorem dL_law_2185 : decode cL_law 2185 = .ok (.pop, 1) := wtL_law_2168.2.2.2.2.2.2.2.2.2.1
theorem dL_law_2186 : decode cL_law 2186 = .ok (.aload_n 2, 1) := wtL_law_2168.2.2.2.2.2.2.2.2.2.2.1
theorem dL_law_2187 : decode cL_law 2187 = .ok (.invokevirtual 324, 3) := wtL_law_2168.2.2.2.2.2.2.2.2.2.2.2.1
theorem dL_law_2190 : decode cL_law 2190 = .ok (.pop, 1) := wtL_law_2168.2.2.2.2.2.2.2.2.2.2.2.2.1
theorem dL_law_2191 : decode cL_law 2191 = .ok (.goto 16, 3) := wtL_law_2168.2.2.2.2.2.2.2.2.2.2.2.2.2.1
theorem wtL_law_2194 : dwcj cL_law 2194 [(0, .aload_n 1, 1), (1, .invokevirtual 325, 3), (4, .pop2, 1), (5, .aload_n 2, 1), (6, .invokevirtual 329, 3), (9, .pop2, 1), (10, .goto 3, 3), (13, .iinc 4 5, 3), (16, .goto (-2183), 3), (19, .iconst 1, 1), (20, .ireturn, 1)] := dw_all (l := [43, 182, 1, 69, 88, 44, 182, 1, 73, 88, 167, 0, 3, 132, 4, 5, 167, 247, 121, 4, 172]) (by decide +kernel)
theorem dL_law_2194 : decode cL_law 2194 = .ok (.aload_n 1, 1) := wtL_law_2194.1
theorem dL_law_2195 : decode cL_law 2195 = .ok (.invokevirtual 325, 3) := wtL_law_2194.2.1
theorem dL_law_2198 : decode cL_law 2198 = .ok (.pop2, 1) := wtL_law_2194.2.2.1
theorem dL_law_2199 : decode cL_law 2199 = .ok (.aload_n 2, 1) := wtL_law_2194.2.2.2.1
theorem dL_law_2200 : decode cL_law 2200 = .ok (.invokevirtual 329, 3) := wtL_law_2194.2.2.2.2.1
theorem dL_law_2203 : decode cL_law 2203 = .ok (.pop2, 1) := wtL_law_2194.2.2.2.2.2.1
theorem dL_law_2204 : decode cL_law 2204 = .ok (.goto 3, 3) := wtL_law_2194.2.2.2.2.2.2.1
theorem dL_law_2207 : decode cL_law 2207 = .ok (.iinc 4 5, 3) := wtL_law_2194.2.2.2.2.2.2.2.1
theorem dL_law_2210 : decode cL_law 2210 = .ok (.goto (-2183), 3) := wtL_law_2194.2.2.2.2.2.2.2.2.1
theorem dL_law_2213 : decode cL_law 2213 = .ok (.iconst 1, 1) := wtL_law_2194.2.2.2.2.2.2.2.2.2.1
theorem dL_law_2214 : decode cL_law 2214 = .ok (.ireturn, 1) := wtL_law_2194.2.2.2.2.2.2.2.2.2.2.1
/-! ===== the law's cases ===== -/
section LC
variable {p : Program} {l : Launch} {e : Env} {s : State} {m : MethodId} {args : Array Value} {below : List Frame} {meth : Method} {c0 : Code} {Qw : State → Prop} {D : va_G} {cB cJ : ClassId} {t N : Nat} {g : Nat → Int} {o a u v w : Nat}
/-- what comes after a case -/
def zNx (p : Program) (l : Launch) (e : Env) (s : State) (m : MethodId) (args : Array Value) (below : List Frame) (meth : Method) (c0 : Code) (D : va_G) (cJ : ClassId) (t o a u v w : Nat) (x : Int) (cells slots : Nat) (Qw : State → Prop) (pc : Nat) : Prop :=
  ∀ (c : Nat → Nat) (ac re kn : Int32) (th : Int) (n : Int64) (sv : Value) (H : Heap) (locs : List Loc) (ls : Array Slot) (cells2 slots2 : Nat), zG D cJ o a u v w c [.int ac, .int re, .int kn] c [.int (iZ th), .int ac, .int re, .int kn] n sv s H locs → cells2 ≤ cells + 150 → slots2 ≤ slots + 75000 → lv_has ls 7 [(0, .ref t), (1, .ref o), (2, .ref u), (3, .ref w), (4, .int (iZ x))] → W p l e room_1 s m args below meth c0 H locs cells2 slots2 Qw (F0 m pc ls [])
theorem zd_eqv {R : Room} {c : Code} {H : Heap} {locs : List Loc} {cells slots : Nat} {cc : ByteArray} {pc nL : Nat} {ls : Array Slot} {rest : List Value} {own : String} (C : CallFix p m c cc nL s args T0 own) {y z : Int32} {off : Int} {tgt : Nat} (h : z = y) (d : decode cc pc = .ok (.if_icmp .eq off, 3)) (ht : (pc : Int) + off = (tgt : Int)) (k : W p l e R s m args below meth c H locs cells slots Qw (F0 m tgt ls rest)) : W p l e R s m args below meth c H locs cells slots Qw (F0 m pc ls (.int y :: .int z :: rest)) :=
  lv_icmp_eq C.1 C.2.1 d ht (fun _ => k) (fun g => absurd h g)

set_option maxHeartbeats 4000000 in
set_option maxRecDepth 100000 in
theorem lk_0 (hlq : l.stackTraces = false) (C : CallFix p m c0 cL_law 7 s args T0 RL) (Z : zLw D cB t N g s) (Y : zAd o a u v w s) {c : Nat → Nat} {ac re kn : Int32} {th : Int} {n : Int64} {sv : Value} {H : Heap} {locs : List Loc} {ls : Array Slot} {cells slots : Nat} (G : zG D cJ o a u v w c [.int ac, .int re, .int kn] c [.int (iZ th), .int ac, .int re, .int kn] n sv s H locs) (x : Int) (hx : 0 ≤ x ∧ x + 5 ≤ (N : Int)) (hf : cells + 150 ≤ 665987 ∧ slots + 75000 ≤ 7103520) (hl : lv_has ls 7 [(0, .ref t), (1, .ref o), (2, .ref u), (3, .ref w), (4, .int (iZ (x)))])
    (kk : zNx p l e s m args below meth c0 D cJ t o a u v w x cells slots Qw 2207) : W p l e room_1 s m args below meth c0 H locs cells slots Qw (F0 m 244 ls []) := by
  have hc := G.1.2.2.2
  obtain ⟨q1, e1⟩ : ∃ z, g (x.toNat + 1) = z := ⟨_, rfl⟩
  have r1 : -2147483648 ≤ q1 ∧ q1 ≤ 2147483647 := e1 ▸ Z.2.2.2.2.2.1 _
  obtain ⟨q2, e2⟩ : ∃ z, g (x.toNat + 2) = z := ⟨_, rfl⟩
  have r2 : -2147483648 ≤ q2 ∧ q2 ≤ 2147483647 := e2 ▸ Z.2.2.2.2.2.1 _
  by_cases hcel : (0 ≤ q1 ∧ q1 ≤ 5)
  · skip
    refine lv_aload_n C.1 C.2.1 dL_law_244 rfl (lv_at hl 1 rfl) ?_
    refine lv_aload_n C.1 C.2.1 dL_law_245 rfl (lv_at hl 0 rfl) ?_
    refine lv_iload C.1 C.2.1 dL_law_246 (lv_at hl 4 rfl) ?_
    refine z_iconst C dL_law_248 ?_
    refine z_iadd C dL_law_249 ?_
    refine zd_ld C Z G q1 (x.toNat + 1) e1 (by omega) (by omega) dL_law_250 ?_
    refine lv_aload_n C.1 C.2.1 dL_law_251 rfl (lv_at hl 0 rfl) ?_
    refine lv_iload C.1 C.2.1 dL_law_252 (lv_at hl 4 rfl) ?_
    refine z_iconst C dL_law_254 ?_
    refine z_iadd C dL_law_255 ?_
    refine zd_ld C Z G q2 (x.toNat + 2) e2 (by omega) (by omega) dL_law_256 ?_
    refine lv_aload_n C.1 C.2.1 dL_law_257 rfl (lv_at hl 3 rfl) ?_
    refine zd_W (as := [.ref o, .int (iZ (q1)), .int (iZ (q2)), .ref w]) C Z Y G (c_L_put l D cJ o a _ _ _ _ (q1) (q2) (by first | assumption | omega) (by first | assumption | omega) w _ _) ml_L_171 ⟨Nat.le_of_ble_eq_true rfl, Nat.le_of_ble_eq_true rfl⟩ ⟨by show cells + 0 + 0 ≤ 665987; omega, by show slots + 0 + 0 ≤ 7103520; omega⟩ hl (Nat.le_of_ble_eq_true rfl) rfl dL_law_258 (fun H locs G => ?_)
    refine lv_istore (lv' := [(5, .int (iZ (0))), (0, .ref t), (1, .ref o), (2, .ref u), (3, .ref w), (4, .int (iZ (x)))]) C.1 C.2.1 dL_law_261 hl (by decide) rfl (fun ls hl => ?_)
    refine lv_aload_n C.1 C.2.1 dL_law_263 rfl (lv_at hl 3 rfl) ?_
    refine lv_aload_n C.1 C.2.1 dL_law_264 rfl (lv_at hl 1 rfl) ?_
    refine lv_iload C.1 C.2.1 dL_law_265 (lv_at hl 5 rfl) ?_
    refine z_iconst C dL_law_267 ?_
    refine z_iadd C dL_law_268 ?_
    refine zd_ld C Z G q1 (x.toNat + 1) e1 (by omega) (by omega) dL_law_269 ?_
    refine lv_aload_n C.1 C.2.1 dL_law_270 rfl (lv_at hl 1 rfl) ?_
    refine lv_iload C.1 C.2.1 dL_law_271 (lv_at hl 5 rfl) ?_
    refine z_iconst C dL_law_273 ?_
    refine z_iadd C dL_law_274 ?_
    refine zd_ld C Z G q2 (x.toNat + 2) e2 (by omega) (by omega) dL_law_275 ?_
    refine zd_M (as := [.int (iZ (q1)), .int (iZ (q2))]) C Y G (c_X5_put l D cJ u v _ _ _ _ _ (q1) (q2) (by first | assumption | omega) (by first | assumption | omega)) ml_L_176 rfl ⟨Nat.le_of_ble_eq_true rfl, Nat.le_of_ble_eq_true rfl⟩ ⟨by show cells + 0 + 0 ≤ 665987; omega, by show slots + 0 + 0 ≤ 7103520; omega⟩ hl (Nat.le_of_ble_eq_true rfl) rfl dL_law_276 (fun y9 H locs hy9 G => ?_)
    subst hy9
    refine lv_istore (lv' := [(6, _), (5, .int (iZ (0))), (0, .ref t), (1, .ref o), (2, .ref u), (3, .ref w), (4, .int (iZ (x)))]) C.1 C.2.1 dL_law_279 hl (by decide) rfl (fun ls hl => ?_)
    refine lv_goto (tgt := 2207) C.1 C.2.1 dL_law_281 (by decide) ?_
    exact kk _ _ _ _ _ _ _ _ _ _ _ _ G (by omega) (by omega) (lv_sub hl [2, 3, 4, 5, 6] rfl)
  · skip
    refine lv_aload_n C.1 C.2.1 dL_law_244 rfl (lv_at hl 1 rfl) ?_
    refine lv_aload_n C.1 C.2.1 dL_law_245 rfl (lv_at hl 0 rfl) ?_
    refine lv_iload C.1 C.2.1 dL_law_246 (lv_at hl 4 rfl) ?_
    refine z_iconst C dL_law_248 ?_
    refine z_iadd C dL_law_249 ?_
    refine zd_ld C Z G q1 (x.toNat + 1) e1 (by omega) (by omega) dL_law_250 ?_
    refine lv_aload_n C.1 C.2.1 dL_law_251 rfl (lv_at hl 0 rfl) ?_
    refine lv_iload C.1 C.2.1 dL_law_252 (lv_at hl 4 rfl) ?_
    refine z_iconst C dL_law_254 ?_
    refine z_iadd C dL_law_255 ?_
    refine zd_ld C Z G q2 (x.toNat + 2) e2 (by omega) (by omega) dL_law_256 ?_
    refine lv_aload_n C.1 C.2.1 dL_law_257 rfl (lv_at hl 3 rfl) ?_
    refine zd_W (as := [.ref o, .int (iZ (q1)), .int (iZ (q2)), .ref w]) C Z Y G (c_L_put_badc l hlq D cJ o a _ _ _ _ (q1) (q2) (by first | assumption | omega) (by first | assumption | omega) (by first | assumption | omega) w _ _) ml_L_171 ⟨Nat.le_of_ble_eq_true rfl, Nat.le_of_ble_eq_true rfl⟩ ⟨by show cells + 0 + 1 ≤ 665987; omega, by show slots + 0 + 6 ≤ 7103520; omega⟩ hl (Nat.le_of_ble_eq_true rfl) rfl dL_law_258 (fun H locs G => ?_)
    refine lv_istore (lv' := [(5, .int (iZ (1))), (0, .ref t), (1, .ref o), (2, .ref u), (3, .ref w), (4, .int (iZ (x)))]) C.1 C.2.1 dL_law_261 hl (by decide) rfl (fun ls hl => ?_)
    refine lv_aload_n C.1 C.2.1 dL_law_263 rfl (lv_at hl 3 rfl) ?_
    refine lv_aload_n C.1 C.2.1 dL_law_264 rfl (lv_at hl 1 rfl) ?_
    refine lv_iload C.1 C.2.1 dL_law_265 (lv_at hl 5 rfl) ?_
    refine z_iconst C dL_law_267 ?_
    refine z_iadd C dL_law_268 ?_
    refine zd_ld C Z G q1 (x.toNat + 1) e1 (by omega) (by omega) dL_law_269 ?_
    refine lv_aload_n C.1 C.2.1 dL_law_270 rfl (lv_at hl 1 rfl) ?_
    refine lv_iload C.1 C.2.1 dL_law_271 (lv_at hl 5 rfl) ?_
    refine z_iconst C dL_law_273 ?_
    refine z_iadd C dL_law_274 ?_
    refine zd_ld C Z G q2 (x.toNat + 2) e2 (by omega) (by omega) dL_law_275 ?_
    refine zd_M (as := [.int (iZ (q1)), .int (iZ (q2))]) C Y G (c_X5_put_bad1 l D cJ u v _ _ _ _ _ (q1) (q2) (by first | assumption | omega) (by first | assumption | omega) (by first | assumption | omega)) ml_L_176 rfl ⟨Nat.le_of_ble_eq_true rfl, Nat.le_of_ble_eq_true rfl⟩ ⟨by show cells + 1 + 0 ≤ 665987; omega, by show slots + 6 + 0 ≤ 7103520; omega⟩ hl (Nat.le_of_ble_eq_true rfl) rfl dL_law_276 (fun y9 H locs hy9 G => ?_)
    subst hy9
    refine lv_istore (lv' := [(6, _), (5, .int (iZ (1))), (0, .ref t), (1, .ref o), (2, .ref u), (3, .ref w), (4, .int (iZ (x)))]) C.1 C.2.1 dL_law_279 hl (by decide) rfl (fun ls hl => ?_)
    refine lv_goto (tgt := 2207) C.1 C.2.1 dL_law_281 (by decide) ?_
    exact kk _ _ _ _ _ _ _ _ _ _ _ _ G (by omega) (by omega) (lv_sub hl [2, 3, 4, 5, 6] rfl)
set_option maxHeartbeats 4000000 in
set_option maxRecDepth 100000 in
theorem lk_1 (hlq : l.stackTraces = false) (C : CallFix p m c0 cL_law 7 s args T0 RL) (Z : zLw D cB t N g s) (Y : zAd o a u v w s) {c : Nat → Nat} {ac re kn : Int32} {th : Int} {n : Int64} {sv : Value} {H : Heap} {locs : List Loc} {ls : Array Slot} {cells slots : Nat} (G : zG D cJ o a u v w c [.int ac, .int re, .int kn] c [.int (iZ th), .int ac, .int re, .int kn] n sv s H locs) (x : Int) (hx : 0 ≤ x ∧ x + 5 ≤ (N : Int)) (hf : cells + 150 ≤ 665987 ∧ slots + 75000 ≤ 7103520) (hl : lv_has ls 7 [(0, .ref t), (1, .ref o), (2, .ref u), (3, .ref w), (4, .int (iZ (x)))])
    (kk : zNx p l e s m args below meth c0 D cJ t o a u v w x cells slots Qw 2207) : W p l e room_1 s m args below meth c0 H locs cells slots Qw (F0 m 284 ls []) := by
  have hc := G.1.2.2.2
  obtain ⟨q1, e1⟩ : ∃ z, g (x.toNat + 1) = z := ⟨_, rfl⟩
  have r1 : -2147483648 ≤ q1 ∧ q1 ≤ 2147483647 := e1 ▸ Z.2.2.2.2.2.1 _
  obtain ⟨q2, e2⟩ : ∃ z, g (x.toNat + 2) = z := ⟨_, rfl⟩
  have r2 : -2147483648 ≤ q2 ∧ q2 ≤ 2147483647 := e2 ▸ Z.2.2.2.2.2.1 _
  by_cases hcel : (0 ≤ q1 ∧ q1 ≤ 5)
  · skip
    by_cases hrng : (0 ≤ q2 ∧ q2 ≤ 32)
    · skip
      refine lv_aload_n C.1 C.2.1 dL_law_284 rfl (lv_at hl 1 rfl) ?_
      refine lv_aload_n C.1 C.2.1 dL_law_285 rfl (lv_at hl 0 rfl) ?_
      refine lv_iload C.1 C.2.1 dL_law_286 (lv_at hl 4 rfl) ?_
      refine z_iconst C dL_law_288 ?_
      refine z_iadd C dL_law_289 ?_
      refine zd_ld C Z G q1 (x.toNat + 1) e1 (by omega) (by omega) dL_law_290 ?_
      refine lv_aload_n C.1 C.2.1 dL_law_291 rfl (lv_at hl 0 rfl) ?_
      refine lv_iload C.1 C.2.1 dL_law_292 (lv_at hl 4 rfl) ?_
      refine z_iconst C dL_law_294 ?_
      refine z_iadd C dL_law_295 ?_
      refine zd_ld C Z G q2 (x.toNat + 2) e2 (by omega) (by omega) dL_law_296 ?_
      refine lv_aload_n C.1 C.2.1 dL_law_297 rfl (lv_at hl 3 rfl) ?_
      refine zd_W (as := [.ref o, .int (iZ (q1)), .int (iZ (q2)), .ref w]) C Z Y G (c_L_mono l D cJ o a _ _ _ _ (q1) (q2) (by first | assumption | omega) (by first | assumption | omega) w _ _) ml_L_177 ⟨Nat.le_of_ble_eq_true rfl, Nat.le_of_ble_eq_true rfl⟩ ⟨by show cells + 0 + 0 ≤ 665987; omega, by show slots + 0 + 0 ≤ 7103520; omega⟩ hl (Nat.le_of_ble_eq_true rfl) rfl dL_law_298 (fun H locs G => ?_)
      refine lv_istore (lv' := [(5, .int (iZ (0))), (0, .ref t), (1, .ref o), (2, .ref u), (3, .ref w), (4, .int (iZ (x)))]) C.1 C.2.1 dL_law_301 hl (by decide) rfl (fun ls hl => ?_)
      refine lv_aload_n C.1 C.2.1 dL_law_303 rfl (lv_at hl 3 rfl) ?_
      refine lv_aload_n C.1 C.2.1 dL_law_304 rfl (lv_at hl 1 rfl) ?_
      refine lv_iload C.1 C.2.1 dL_law_305 (lv_at hl 5 rfl) ?_
      refine z_iconst C dL_law_307 ?_
      refine z_iadd C dL_law_308 ?_
      refine zd_ld C Z G q1 (x.toNat + 1) e1 (by omega) (by omega) dL_law_309 ?_
      refine lv_aload_n C.1 C.2.1 dL_law_310 rfl (lv_at hl 1 rfl) ?_
      refine lv_iload C.1 C.2.1 dL_law_311 (lv_at hl 5 rfl) ?_
      refine z_iconst C dL_law_313 ?_
      refine z_iadd C dL_law_314 ?_
      refine zd_ld C Z G q2 (x.toNat + 2) e2 (by omega) (by omega) dL_law_315 ?_
      refine zd_M (as := [.int (iZ (q1)), .int (iZ (q2))]) C Y G (c_X5_mono l D cJ u v _ _ _ _ _ (q1) (q2) (by first | assumption | omega) (by first | assumption | omega)) ml_L_179 rfl ⟨Nat.le_of_ble_eq_true rfl, Nat.le_of_ble_eq_true rfl⟩ ⟨by show cells + 0 + 0 ≤ 665987; omega, by show slots + 0 + 0 ≤ 7103520; omega⟩ hl (Nat.le_of_ble_eq_true rfl) rfl dL_law_316 (fun y9 H locs hy9 G => ?_)
      subst hy9
      refine lv_istore (lv' := [(6, _), (5, .int (iZ (0))), (0, .ref t), (1, .ref o), (2, .ref u), (3, .ref w), (4, .int (iZ (x)))]) C.1 C.2.1 dL_law_319 hl (by decide) rfl (fun ls hl => ?_)
      refine lv_goto (tgt := 2207) C.1 C.2.1 dL_law_321 (by decide) ?_
      exact kk _ _ _ _ _ _ _ _ _ _ _ _ G (by omega) (by omega) (lv_sub hl [2, 3, 4, 5, 6] rfl)
    · skip
      refine lv_aload_n C.1 C.2.1 dL_law_284 rfl (lv_at hl 1 rfl) ?_
      refine lv_aload_n C.1 C.2.1 dL_law_285 rfl (lv_at hl 0 rfl) ?_
      refine lv_iload C.1 C.2.1 dL_law_286 (lv_at hl 4 rfl) ?_
      refine z_iconst C dL_law_288 ?_
      refine z_iadd C dL_law_289 ?_
      refine zd_ld C Z G q1 (x.toNat + 1) e1 (by omega) (by omega) dL_law_290 ?_
      refine lv_aload_n C.1 C.2.1 dL_law_291 rfl (lv_at hl 0 rfl) ?_
      refine lv_iload C.1 C.2.1 dL_law_292 (lv_at hl 4 rfl) ?_
      refine z_iconst C dL_law_294 ?_
      refine z_iadd C dL_law_295 ?_
      refine zd_ld C Z G q2 (x.toNat + 2) e2 (by omega) (by omega) dL_law_296 ?_
      refine lv_aload_n C.1 C.2.1 dL_law_297 rfl (lv_at hl 3 rfl) ?_
      refine zd_W (as := [.ref o, .int (iZ (q1)), .int (iZ (q2)), .ref w]) C Z Y G (c_L_mono_badr l hlq D cJ o a _ _ _ _ (q1) (q2) (by first | assumption | omega) (by first | assumption | omega) (by first | assumption | omega) (by first | assumption | omega) w _ _) ml_L_177 ⟨Nat.le_of_ble_eq_true rfl, Nat.le_of_ble_eq_true rfl⟩ ⟨by show cells + 0 + 1 ≤ 665987; omega, by show slots + 0 + 6 ≤ 7103520; omega⟩ hl (Nat.le_of_ble_eq_true rfl) rfl dL_law_298 (fun H locs G => ?_)
      refine lv_istore (lv' := [(5, .int (iZ (2))), (0, .ref t), (1, .ref o), (2, .ref u), (3, .ref w), (4, .int (iZ (x)))]) C.1 C.2.1 dL_law_301 hl (by decide) rfl (fun ls hl => ?_)
      refine lv_aload_n C.1 C.2.1 dL_law_303 rfl (lv_at hl 3 rfl) ?_
      refine lv_aload_n C.1 C.2.1 dL_law_304 rfl (lv_at hl 1 rfl) ?_
      refine lv_iload C.1 C.2.1 dL_law_305 (lv_at hl 5 rfl) ?_
      refine z_iconst C dL_law_307 ?_
      refine z_iadd C dL_law_308 ?_
      refine zd_ld C Z G q1 (x.toNat + 1) e1 (by omega) (by omega) dL_law_309 ?_
      refine lv_aload_n C.1 C.2.1 dL_law_310 rfl (lv_at hl 1 rfl) ?_
      refine lv_iload C.1 C.2.1 dL_law_311 (lv_at hl 5 rfl) ?_
      refine z_iconst C dL_law_313 ?_
      refine z_iadd C dL_law_314 ?_
      refine zd_ld C Z G q2 (x.toNat + 2) e2 (by omega) (by omega) dL_law_315 ?_
      refine zd_M (as := [.int (iZ (q1)), .int (iZ (q2))]) C Y G (c_X5_mono_bad2 l D cJ u v _ _ _ _ _ (q1) (q2) (by first | assumption | omega) (by first | assumption | omega) (by first | assumption | omega) (by first | assumption | omega)) ml_L_179 rfl ⟨Nat.le_of_ble_eq_true rfl, Nat.le_of_ble_eq_true rfl⟩ ⟨by show cells + 1 + 0 ≤ 665987; omega, by show slots + 6 + 0 ≤ 7103520; omega⟩ hl (Nat.le_of_ble_eq_true rfl) rfl dL_law_316 (fun y9 H locs hy9 G => ?_)
      subst hy9
      refine lv_istore (lv' := [(6, _), (5, .int (iZ (2))), (0, .ref t), (1, .ref o), (2, .ref u), (3, .ref w), (4, .int (iZ (x)))]) C.1 C.2.1 dL_law_319 hl (by decide) rfl (fun ls hl => ?_)
      refine lv_goto (tgt := 2207) C.1 C.2.1 dL_law_321 (by decide) ?_
      exact kk _ _ _ _ _ _ _ _ _ _ _ _ G (by omega) (by omega) (lv_sub hl [2, 3, 4, 5, 6] rfl)
  · skip
    refine lv_aload_n C.1 C.2.1 dL_law_284 rfl (lv_at hl 1 rfl) ?_
    refine lv_aload_n C.1 C.2.1 dL_law_285 rfl (lv_at hl 0 rfl) ?_
    refine lv_iload C.1 C.2.1 dL_law_286 (lv_at hl 4 rfl) ?_
    refine z_iconst C dL_law_288 ?_
    refine z_iadd C dL_law_289 ?_
    refine zd_ld C Z G q1 (x.toNat + 1) e1 (by omega) (by omega) dL_law_290 ?_
    refine lv_aload_n C.1 C.2.1 dL_law_291 rfl (lv_at hl 0 rfl) ?_
    refine lv_iload C.1 C.2.1 dL_law_292 (lv_at hl 4 rfl) ?_
    refine z_iconst C dL_law_294 ?_
    refine z_iadd C dL_law_295 ?_
    refine zd_ld C Z G q2 (x.toNat + 2) e2 (by omega) (by omega) dL_law_296 ?_
    refine lv_aload_n C.1 C.2.1 dL_law_297 rfl (lv_at hl 3 rfl) ?_
    refine zd_W (as := [.ref o, .int (iZ (q1)), .int (iZ (q2)), .ref w]) C Z Y G (c_L_mono_badc l hlq D cJ o a _ _ _ _ (q1) (q2) (by first | assumption | omega) (by first | assumption | omega) (by first | assumption | omega) w _ _) ml_L_177 ⟨Nat.le_of_ble_eq_true rfl, Nat.le_of_ble_eq_true rfl⟩ ⟨by show cells + 0 + 1 ≤ 665987; omega, by show slots + 0 + 6 ≤ 7103520; omega⟩ hl (Nat.le_of_ble_eq_true rfl) rfl dL_law_298 (fun H locs G => ?_)
    refine lv_istore (lv' := [(5, .int (iZ (1))), (0, .ref t), (1, .ref o), (2, .ref u), (3, .ref w), (4, .int (iZ (x)))]) C.1 C.2.1 dL_law_301 hl (by decide) rfl (fun ls hl => ?_)
    refine lv_aload_n C.1 C.2.1 dL_law_303 rfl (lv_at hl 3 rfl) ?_
    refine lv_aload_n C.1 C.2.1 dL_law_304 rfl (lv_at hl 1 rfl) ?_
    refine lv_iload C.1 C.2.1 dL_law_305 (lv_at hl 5 rfl) ?_
    refine z_iconst C dL_law_307 ?_
    refine z_iadd C dL_law_308 ?_
    refine zd_ld C Z G q1 (x.toNat + 1) e1 (by omega) (by omega) dL_law_309 ?_
    refine lv_aload_n C.1 C.2.1 dL_law_310 rfl (lv_at hl 1 rfl) ?_
    refine lv_iload C.1 C.2.1 dL_law_311 (lv_at hl 5 rfl) ?_
    refine z_iconst C dL_law_313 ?_
    refine z_iadd C dL_law_314 ?_
    refine zd_ld C Z G q2 (x.toNat + 2) e2 (by omega) (by omega) dL_law_315 ?_
    refine zd_M (as := [.int (iZ (q1)), .int (iZ (q2))]) C Y G (c_X5_mono_bad1 l D cJ u v _ _ _ _ _ (q1) (q2) (by first | assumption | omega) (by first | assumption | omega) (by first | assumption | omega)) ml_L_179 rfl ⟨Nat.le_of_ble_eq_true rfl, Nat.le_of_ble_eq_true rfl⟩ ⟨by show cells + 1 + 0 ≤ 665987; omega, by show slots + 6 + 0 ≤ 7103520; omega⟩ hl (Nat.le_of_ble_eq_true rfl) rfl dL_law_316 (fun y9 H locs hy9 G => ?_)
    subst hy9
    refine lv_istore (lv' := [(6, _), (5, .int (iZ (1))), (0, .ref t), (1, .ref o), (2, .ref u), (3, .ref w), (4, .int (iZ (x)))]) C.1 C.2.1 dL_law_319 hl (by decide) rfl (fun ls hl => ?_)
    refine lv_goto (tgt := 2207) C.1 C.2.1 dL_law_321 (by decide) ?_
    exact kk _ _ _ _ _ _ _ _ _ _ _ _ G (by omega) (by omega) (lv_sub hl [2, 3, 4, 5, 6] rfl)
set_option maxHeartbeats 4000000 in
set_option maxRecDepth 100000 in
theorem lk_2 (hlq : l.stackTraces = false) (C : CallFix p m c0 cL_law 7 s args T0 RL) (Z : zLw D cB t N g s) (Y : zAd o a u v w s) {c : Nat → Nat} {ac re kn : Int32} {th : Int} {n : Int64} {sv : Value} {H : Heap} {locs : List Loc} {ls : Array Slot} {cells slots : Nat} (G : zG D cJ o a u v w c [.int ac, .int re, .int kn] c [.int (iZ th), .int ac, .int re, .int kn] n sv s H locs) (x : Int) (hx : 0 ≤ x ∧ x + 5 ≤ (N : Int)) (hf : cells + 150 ≤ 665987 ∧ slots + 75000 ≤ 7103520) (hl : lv_has ls 7 [(0, .ref t), (1, .ref o), (2, .ref u), (3, .ref w), (4, .int (iZ (x)))])
    (kk : zNx p l e s m args below meth c0 D cJ t o a u v w x cells slots Qw 2207) : W p l e room_1 s m args below meth c0 H locs cells slots Qw (F0 m 324 ls []) := by
  have hc := G.1.2.2.2
  obtain ⟨q1, e1⟩ : ∃ z, g (x.toNat + 1) = z := ⟨_, rfl⟩
  have r1 : -2147483648 ≤ q1 ∧ q1 ≤ 2147483647 := e1 ▸ Z.2.2.2.2.2.1 _
  obtain ⟨q2, e2⟩ : ∃ z, g (x.toNat + 2) = z := ⟨_, rfl⟩
  have r2 : -2147483648 ≤ q2 ∧ q2 ≤ 2147483647 := e2 ▸ Z.2.2.2.2.2.1 _
  obtain ⟨q3, e3⟩ : ∃ z, g (x.toNat + 3) = z := ⟨_, rfl⟩
  have r3 : -2147483648 ≤ q3 ∧ q3 ≤ 2147483647 := e3 ▸ Z.2.2.2.2.2.1 _
  by_cases hcel : (0 ≤ q1 ∧ q1 ≤ 5)
  · skip
    by_cases hrng : (0 ≤ q2 ∧ q2 ≤ 32)
    · skip
      refine lv_aload_n C.1 C.2.1 dL_law_324 rfl (lv_at hl 1 rfl) ?_
      refine lv_aload_n C.1 C.2.1 dL_law_325 rfl (lv_at hl 0 rfl) ?_
      refine lv_iload C.1 C.2.1 dL_law_326 (lv_at hl 4 rfl) ?_
      refine z_iconst C dL_law_328 ?_
      refine z_iadd C dL_law_329 ?_
      refine zd_ld C Z G q1 (x.toNat + 1) e1 (by omega) (by omega) dL_law_330 ?_
      refine lv_aload_n C.1 C.2.1 dL_law_331 rfl (lv_at hl 0 rfl) ?_
      refine lv_iload C.1 C.2.1 dL_law_332 (lv_at hl 4 rfl) ?_
      refine z_iconst C dL_law_334 ?_
      refine z_iadd C dL_law_335 ?_
      refine zd_ld C Z G q2 (x.toNat + 2) e2 (by omega) (by omega) dL_law_336 ?_
      refine lv_aload_n C.1 C.2.1 dL_law_337 rfl (lv_at hl 0 rfl) ?_
      refine lv_iload C.1 C.2.1 dL_law_338 (lv_at hl 4 rfl) ?_
      refine z_iconst C dL_law_340 ?_
      refine z_iadd C dL_law_341 ?_
      refine zd_ld C Z G q3 (x.toNat + 3) e3 (by omega) (by omega) dL_law_342 ?_
      refine zd_nz C (by omega) dL_law_343 dL_law_346 dL_law_347 dL_law_350 ?_
      refine lv_aload_n C.1 C.2.1 dL_law_351 rfl (lv_at hl 3 rfl) ?_
      refine zd_W (as := [.ref o, .int (iZ (q1)), .int (iZ (q2)), .int (iZ (zB (decide (q3 ≠ 0)))), .ref w]) C Z Y G (c_L_digit l D cJ o a _ _ _ _ (q1) (q2) (decide (q3 ≠ 0)) (by first | assumption | omega) (by first | assumption | omega) w _ _) ml_L_180 ⟨Nat.le_of_ble_eq_true rfl, Nat.le_of_ble_eq_true rfl⟩ ⟨by show cells + 0 + 0 ≤ 665987; omega, by show slots + 0 + 0 ≤ 7103520; omega⟩ hl (Nat.le_of_ble_eq_true rfl) rfl dL_law_352 (fun H locs G => ?_)
      refine lv_istore (lv' := [(5, .int (iZ (0))), (0, .ref t), (1, .ref o), (2, .ref u), (3, .ref w), (4, .int (iZ (x)))]) C.1 C.2.1 dL_law_355 hl (by decide) rfl (fun ls hl => ?_)
      refine lv_aload_n C.1 C.2.1 dL_law_357 rfl (lv_at hl 3 rfl) ?_
      refine lv_aload_n C.1 C.2.1 dL_law_358 rfl (lv_at hl 1 rfl) ?_
      refine lv_iload C.1 C.2.1 dL_law_359 (lv_at hl 5 rfl) ?_
      refine z_iconst C dL_law_361 ?_
      refine z_iadd C dL_law_362 ?_
      refine zd_ld C Z G q1 (x.toNat + 1) e1 (by omega) (by omega) dL_law_363 ?_
      refine lv_aload_n C.1 C.2.1 dL_law_364 rfl (lv_at hl 1 rfl) ?_
      refine lv_iload C.1 C.2.1 dL_law_365 (lv_at hl 5 rfl) ?_
      refine z_iconst C dL_law_367 ?_
      refine z_iadd C dL_law_368 ?_
      refine zd_ld C Z G q2 (x.toNat + 2) e2 (by omega) (by omega) dL_law_369 ?_
      refine lv_aload_n C.1 C.2.1 dL_law_370 rfl (lv_at hl 1 rfl) ?_
      refine lv_iload C.1 C.2.1 dL_law_371 (lv_at hl 5 rfl) ?_
      refine z_iconst C dL_law_373 ?_
      refine z_iadd C dL_law_374 ?_
      refine zd_ld C Z G q3 (x.toNat + 3) e3 (by omega) (by omega) dL_law_375 ?_
      refine zd_nz C (by omega) dL_law_376 dL_law_379 dL_law_380 dL_law_383 ?_
      refine zd_M (as := [.int (iZ (q1)), .int (iZ (q2)), .int (iZ (zB (decide (q3 ≠ 0))))]) C Y G (c_X5_digit l D cJ u v _ _ _ _ _ (q1) (q2) (decide (q3 ≠ 0)) (by first | assumption | omega) (by first | assumption | omega)) ml_L_183 rfl ⟨Nat.le_of_ble_eq_true rfl, Nat.le_of_ble_eq_true rfl⟩ ⟨by show cells + 0 + 0 ≤ 665987; omega, by show slots + 0 + 0 ≤ 7103520; omega⟩ hl (Nat.le_of_ble_eq_true rfl) rfl dL_law_384 (fun y9 H locs hy9 G => ?_)
      subst hy9
      refine lv_istore (lv' := [(6, _), (5, .int (iZ (0))), (0, .ref t), (1, .ref o), (2, .ref u), (3, .ref w), (4, .int (iZ (x)))]) C.1 C.2.1 dL_law_387 hl (by decide) rfl (fun ls hl => ?_)
      refine lv_goto (tgt := 2207) C.1 C.2.1 dL_law_389 (by decide) ?_
      rw [dg_eq (hc _) (by omega)] at G
      exact kk _ _ _ _ _ _ _ _ _ _ _ _ G (by omega) (by omega) (lv_sub hl [2, 3, 4, 5, 6] rfl)
    · skip
      refine lv_aload_n C.1 C.2.1 dL_law_324 rfl (lv_at hl 1 rfl) ?_
      refine lv_aload_n C.1 C.2.1 dL_law_325 rfl (lv_at hl 0 rfl) ?_
      refine lv_iload C.1 C.2.1 dL_law_326 (lv_at hl 4 rfl) ?_
      refine z_iconst C dL_law_328 ?_
      refine z_iadd C dL_law_329 ?_
      refine zd_ld C Z G q1 (x.toNat + 1) e1 (by omega) (by omega) dL_law_330 ?_
      refine lv_aload_n C.1 C.2.1 dL_law_331 rfl (lv_at hl 0 rfl) ?_
      refine lv_iload C.1 C.2.1 dL_law_332 (lv_at hl 4 rfl) ?_
      refine z_iconst C dL_law_334 ?_
      refine z_iadd C dL_law_335 ?_
      refine zd_ld C Z G q2 (x.toNat + 2) e2 (by omega) (by omega) dL_law_336 ?_
      refine lv_aload_n C.1 C.2.1 dL_law_337 rfl (lv_at hl 0 rfl) ?_
      refine lv_iload C.1 C.2.1 dL_law_338 (lv_at hl 4 rfl) ?_
      refine z_iconst C dL_law_340 ?_
      refine z_iadd C dL_law_341 ?_
      refine zd_ld C Z G q3 (x.toNat + 3) e3 (by omega) (by omega) dL_law_342 ?_
      refine zd_nz C (by omega) dL_law_343 dL_law_346 dL_law_347 dL_law_350 ?_
      refine lv_aload_n C.1 C.2.1 dL_law_351 rfl (lv_at hl 3 rfl) ?_
      refine zd_W (as := [.ref o, .int (iZ (q1)), .int (iZ (q2)), .int (iZ (zB (decide (q3 ≠ 0)))), .ref w]) C Z Y G (c_L_digit_badr l hlq D cJ o a _ _ _ _ (q1) (q2) (decide (q3 ≠ 0)) (by first | assumption | omega) (by first | assumption | omega) (by first | assumption | omega) (by first | assumption | omega) w _ _) ml_L_180 ⟨Nat.le_of_ble_eq_true rfl, Nat.le_of_ble_eq_true rfl⟩ ⟨by show cells + 0 + 1 ≤ 665987; omega, by show slots + 0 + 6 ≤ 7103520; omega⟩ hl (Nat.le_of_ble_eq_true rfl) rfl dL_law_352 (fun H locs G => ?_)
      refine lv_istore (lv' := [(5, .int (iZ (2))), (0, .ref t), (1, .ref o), (2, .ref u), (3, .ref w), (4, .int (iZ (x)))]) C.1 C.2.1 dL_law_355 hl (by decide) rfl (fun ls hl => ?_)
      refine lv_aload_n C.1 C.2.1 dL_law_357 rfl (lv_at hl 3 rfl) ?_
      refine lv_aload_n C.1 C.2.1 dL_law_358 rfl (lv_at hl 1 rfl) ?_
      refine lv_iload C.1 C.2.1 dL_law_359 (lv_at hl 5 rfl) ?_
      refine z_iconst C dL_law_361 ?_
      refine z_iadd C dL_law_362 ?_
      refine zd_ld C Z G q1 (x.toNat + 1) e1 (by omega) (by omega) dL_law_363 ?_
      refine lv_aload_n C.1 C.2.1 dL_law_364 rfl (lv_at hl 1 rfl) ?_
      refine lv_iload C.1 C.2.1 dL_law_365 (lv_at hl 5 rfl) ?_
      refine z_iconst C dL_law_367 ?_
      refine z_iadd C dL_law_368 ?_
      refine zd_ld C Z G q2 (x.toNat + 2) e2 (by omega) (by omega) dL_law_369 ?_
      refine lv_aload_n C.1 C.2.1 dL_law_370 rfl (lv_at hl 1 rfl) ?_
      refine lv_iload C.1 C.2.1 dL_law_371 (lv_at hl 5 rfl) ?_
      refine z_iconst C dL_law_373 ?_
      refine z_iadd C dL_law_374 ?_
      refine zd_ld C Z G q3 (x.toNat + 3) e3 (by omega) (by omega) dL_law_375 ?_
      refine zd_nz C (by omega) dL_law_376 dL_law_379 dL_law_380 dL_law_383 ?_
      refine zd_M (as := [.int (iZ (q1)), .int (iZ (q2)), .int (iZ (zB (decide (q3 ≠ 0))))]) C Y G (c_X5_digit_bad2 l D cJ u v _ _ _ _ _ (q1) (q2) (decide (q3 ≠ 0)) (by first | assumption | omega) (by first | assumption | omega) (by first | assumption | omega) (by first | assumption | omega)) ml_L_183 rfl ⟨Nat.le_of_ble_eq_true rfl, Nat.le_of_ble_eq_true rfl⟩ ⟨by show cells + 1 + 0 ≤ 665987; omega, by show slots + 6 + 0 ≤ 7103520; omega⟩ hl (Nat.le_of_ble_eq_true rfl) rfl dL_law_384 (fun y9 H locs hy9 G => ?_)
      subst hy9
      refine lv_istore (lv' := [(6, _), (5, .int (iZ (2))), (0, .ref t), (1, .ref o), (2, .ref u), (3, .ref w), (4, .int (iZ (x)))]) C.1 C.2.1 dL_law_387 hl (by decide) rfl (fun ls hl => ?_)
      refine lv_goto (tgt := 2207) C.1 C.2.1 dL_law_389 (by decide) ?_
      exact kk _ _ _ _ _ _ _ _ _ _ _ _ G (by omega) (by omega) (lv_sub hl [2, 3, 4, 5, 6] rfl)
  · skip
    refine lv_aload_n C.1 C.2.1 dL_law_324 rfl (lv_at hl 1 rfl) ?_
    refine lv_aload_n C.1 C.2.1 dL_law_325 rfl (lv_at hl 0 rfl) ?_
    refine lv_iload C.1 C.2.1 dL_law_326 (lv_at hl 4 rfl) ?_
    refine z_iconst C dL_law_328 ?_
    refine z_iadd C dL_law_329 ?_
    refine zd_ld C Z G q1 (x.toNat + 1) e1 (by omega) (by omega) dL_law_330 ?_
    refine lv_aload_n C.1 C.2.1 dL_law_331 rfl (lv_at hl 0 rfl) ?_
    refine lv_iload C.1 C.2.1 dL_law_332 (lv_at hl 4 rfl) ?_
    refine z_iconst C dL_law_334 ?_
    refine z_iadd C dL_law_335 ?_
    refine zd_ld C Z G q2 (x.toNat + 2) e2 (by omega) (by omega) dL_law_336 ?_
    refine lv_aload_n C.1 C.2.1 dL_law_337 rfl (lv_at hl 0 rfl) ?_
    refine lv_iload C.1 C.2.1 dL_law_338 (lv_at hl 4 rfl) ?_
    refine z_iconst C dL_law_340 ?_
    refine z_iadd C dL_law_341 ?_
    refine zd_ld C Z G q3 (x.toNat + 3) e3 (by omega) (by omega) dL_law_342 ?_
    refine zd_nz C (by omega) dL_law_343 dL_law_346 dL_law_347 dL_law_350 ?_
    refine lv_aload_n C.1 C.2.1 dL_law_351 rfl (lv_at hl 3 rfl) ?_
    refine zd_W (as := [.ref o, .int (iZ (q1)), .int (iZ (q2)), .int (iZ (zB (decide (q3 ≠ 0)))), .ref w]) C Z Y G (c_L_digit_badc l hlq D cJ o a _ _ _ _ (q1) (q2) (decide (q3 ≠ 0)) (by first | assumption | omega) (by first | assumption | omega) (by first | assumption | omega) w _ _) ml_L_180 ⟨Nat.le_of_ble_eq_true rfl, Nat.le_of_ble_eq_true rfl⟩ ⟨by show cells + 0 + 1 ≤ 665987; omega, by show slots + 0 + 6 ≤ 7103520; omega⟩ hl (Nat.le_of_ble_eq_true rfl) rfl dL_law_352 (fun H locs G => ?_)
    refine lv_istore (lv' := [(5, .int (iZ (1))), (0, .ref t), (1, .ref o), (2, .ref u), (3, .ref w), (4, .int (iZ (x)))]) C.1 C.2.1 dL_law_355 hl (by decide) rfl (fun ls hl => ?_)
    refine lv_aload_n C.1 C.2.1 dL_law_357 rfl (lv_at hl 3 rfl) ?_
    refine lv_aload_n C.1 C.2.1 dL_law_358 rfl (lv_at hl 1 rfl) ?_
    refine lv_iload C.1 C.2.1 dL_law_359 (lv_at hl 5 rfl) ?_
    refine z_iconst C dL_law_361 ?_
    refine z_iadd C dL_law_362 ?_
    refine zd_ld C Z G q1 (x.toNat + 1) e1 (by omega) (by omega) dL_law_363 ?_
    refine lv_aload_n C.1 C.2.1 dL_law_364 rfl (lv_at hl 1 rfl) ?_
    refine lv_iload C.1 C.2.1 dL_law_365 (lv_at hl 5 rfl) ?_
    refine z_iconst C dL_law_367 ?_
    refine z_iadd C dL_law_368 ?_
    refine zd_ld C Z G q2 (x.toNat + 2) e2 (by omega) (by omega) dL_law_369 ?_
    refine lv_aload_n C.1 C.2.1 dL_law_370 rfl (lv_at hl 1 rfl) ?_
    refine lv_iload C.1 C.2.1 dL_law_371 (lv_at hl 5 rfl) ?_
    refine z_iconst C dL_law_373 ?_
    refine z_iadd C dL_law_374 ?_
    refine zd_ld C Z G q3 (x.toNat + 3) e3 (by omega) (by omega) dL_law_375 ?_
    refine zd_nz C (by omega) dL_law_376 dL_law_379 dL_law_380 dL_law_383 ?_
    refine zd_M (as := [.int (iZ (q1)), .int (iZ (q2)), .int (iZ (zB (decide (q3 ≠ 0))))]) C Y G (c_X5_digit_bad1 l D cJ u v _ _ _ _ _ (q1) (q2) (decide (q3 ≠ 0)) (by first | assumption | omega) (by first | assumption | omega) (by first | assumption | omega)) ml_L_183 rfl ⟨Nat.le_of_ble_eq_true rfl, Nat.le_of_ble_eq_true rfl⟩ ⟨by show cells + 1 + 0 ≤ 665987; omega, by show slots + 6 + 0 ≤ 7103520; omega⟩ hl (Nat.le_of_ble_eq_true rfl) rfl dL_law_384 (fun y9 H locs hy9 G => ?_)
    subst hy9
    refine lv_istore (lv' := [(6, _), (5, .int (iZ (1))), (0, .ref t), (1, .ref o), (2, .ref u), (3, .ref w), (4, .int (iZ (x)))]) C.1 C.2.1 dL_law_387 hl (by decide) rfl (fun ls hl => ?_)
    refine lv_goto (tgt := 2207) C.1 C.2.1 dL_law_389 (by decide) ?_
    exact kk _ _ _ _ _ _ _ _ _ _ _ _ G (by omega) (by omega) (lv_sub hl [2, 3, 4, 5, 6] rfl)
set_option maxHeartbeats 4000000 in
set_option maxRecDepth 100000 in
theorem lk_3 (hlq : l.stackTraces = false) (C : CallFix p m c0 cL_law 7 s args T0 RL) (Z : zLw D cB t N g s) (Y : zAd o a u v w s) {c : Nat → Nat} {ac re kn : Int32} {th : Int} {n : Int64} {sv : Value} {H : Heap} {locs : List Loc} {ls : Array Slot} {cells slots : Nat} (G : zG D cJ o a u v w c [.int ac, .int re, .int kn] c [.int (iZ th), .int ac, .int re, .int kn] n sv s H locs) (x : Int) (hx : 0 ≤ x ∧ x + 5 ≤ (N : Int)) (hf : cells + 150 ≤ 665987 ∧ slots + 75000 ≤ 7103520) (hl : lv_has ls 7 [(0, .ref t), (1, .ref o), (2, .ref u), (3, .ref w), (4, .int (iZ (x)))])
    (kk : zNx p l e s m args below meth c0 D cJ t o a u v w x cells slots Qw 2207) : W p l e room_1 s m args below meth c0 H locs cells slots Qw (F0 m 392 ls []) := by
  have hc := G.1.2.2.2
  obtain ⟨q1, e1⟩ : ∃ z, g (x.toNat + 1) = z := ⟨_, rfl⟩
  have r1 : -2147483648 ≤ q1 ∧ q1 ≤ 2147483647 := e1 ▸ Z.2.2.2.2.2.1 _
  obtain ⟨q2, e2⟩ : ∃ z, g (x.toNat + 2) = z := ⟨_, rfl⟩
  have r2 : -2147483648 ≤ q2 ∧ q2 ≤ 2147483647 := e2 ▸ Z.2.2.2.2.2.1 _
  by_cases hcel : (0 ≤ q1 ∧ q1 ≤ 5)
  · skip
    by_cases hrng : (0 ≤ q2 ∧ q2 ≤ 32)
    · skip
      refine lv_aload_n C.1 C.2.1 dL_law_392 rfl (lv_at hl 1 rfl) ?_
      refine lv_aload_n C.1 C.2.1 dL_law_393 rfl (lv_at hl 0 rfl) ?_
      refine lv_iload C.1 C.2.1 dL_law_394 (lv_at hl 4 rfl) ?_
      refine z_iconst C dL_law_396 ?_
      refine z_iadd C dL_law_397 ?_
      refine zd_ld C Z G q1 (x.toNat + 1) e1 (by omega) (by omega) dL_law_398 ?_
      refine lv_aload_n C.1 C.2.1 dL_law_399 rfl (lv_at hl 0 rfl) ?_
      refine lv_iload C.1 C.2.1 dL_law_400 (lv_at hl 4 rfl) ?_
      refine z_iconst C dL_law_402 ?_
      refine z_iadd C dL_law_403 ?_
      refine zd_ld C Z G q2 (x.toNat + 2) e2 (by omega) (by omega) dL_law_404 ?_
      refine lv_aload_n C.1 C.2.1 dL_law_405 rfl (lv_at hl 3 rfl) ?_
      refine zd_W (as := [.ref o, .int (iZ (q1)), .int (iZ (q2)), .ref w]) C Z Y G (c_L_flip l D cJ o a _ _ _ _ (q1) (q2) (by first | assumption | omega) (by first | assumption | omega) w _ _) ml_L_184 ⟨Nat.le_of_ble_eq_true rfl, Nat.le_of_ble_eq_true rfl⟩ ⟨by show cells + 0 + 0 ≤ 665987; omega, by show slots + 0 + 0 ≤ 7103520; omega⟩ hl (Nat.le_of_ble_eq_true rfl) rfl dL_law_406 (fun H locs G => ?_)
      refine lv_istore (lv' := [(5, .int (iZ (0))), (0, .ref t), (1, .ref o), (2, .ref u), (3, .ref w), (4, .int (iZ (x)))]) C.1 C.2.1 dL_law_409 hl (by decide) rfl (fun ls hl => ?_)
      refine lv_aload_n C.1 C.2.1 dL_law_411 rfl (lv_at hl 3 rfl) ?_
      refine lv_aload_n C.1 C.2.1 dL_law_412 rfl (lv_at hl 1 rfl) ?_
      refine lv_iload C.1 C.2.1 dL_law_413 (lv_at hl 5 rfl) ?_
      refine z_iconst C dL_law_415 ?_
      refine z_iadd C dL_law_416 ?_
      refine zd_ld C Z G q1 (x.toNat + 1) e1 (by omega) (by omega) dL_law_417 ?_
      refine lv_aload_n C.1 C.2.1 dL_law_418 rfl (lv_at hl 1 rfl) ?_
      refine lv_iload C.1 C.2.1 dL_law_419 (lv_at hl 5 rfl) ?_
      refine z_iconst C dL_law_421 ?_
      refine z_iadd C dL_law_422 ?_
      refine zd_ld C Z G q2 (x.toNat + 2) e2 (by omega) (by omega) dL_law_423 ?_
      refine zd_M (as := [.int (iZ (q1)), .int (iZ (q2))]) C Y G (c_X5_flip l D cJ u v _ _ _ _ _ (q1) (q2) (by first | assumption | omega) (by first | assumption | omega)) ml_L_186 rfl ⟨Nat.le_of_ble_eq_true rfl, Nat.le_of_ble_eq_true rfl⟩ ⟨by show cells + 0 + 0 ≤ 665987; omega, by show slots + 0 + 0 ≤ 7103520; omega⟩ hl (Nat.le_of_ble_eq_true rfl) rfl dL_law_424 (fun y9 H locs hy9 G => ?_)
      subst hy9
      refine lv_istore (lv' := [(6, _), (5, .int (iZ (0))), (0, .ref t), (1, .ref o), (2, .ref u), (3, .ref w), (4, .int (iZ (x)))]) C.1 C.2.1 dL_law_427 hl (by decide) rfl (fun ls hl => ?_)
      refine lv_aload_n C.1 C.2.1 dL_law_429 rfl (lv_at hl 4 rfl) ?_
      refine zd_M (as := []) C Y G (c_X5_thrown l D cJ u v _ _ _ _ _) ml_L_187 rfl ⟨Nat.le_of_ble_eq_true rfl, Nat.le_of_ble_eq_true rfl⟩ ⟨by show cells + 0 + 0 ≤ 665987; omega, by show slots + 0 + 0 ≤ 7103520; omega⟩ hl (Nat.le_of_ble_eq_true rfl) rfl dL_law_430 (fun y9 H locs hy9 G => ?_)
      subst hy9
      refine lv_iload C.1 C.2.1 dL_law_433 (lv_at hl 1 rfl) ?_
      refine zd_eqv (tgt := 440) C (by first | rfl | rw [so_eq hc]) dL_law_435 (by decide) ?_
      refine lv_iload C.1 C.2.1 dL_law_440 (lv_at hl 1 rfl) ?_
      refine z_if_ne (tgt := 465) (z := 0) C (by omega) dL_law_442 (by decide) (fun h => absurd rfl h) (fun _ => ?_)
      refine lv_aload_n C.1 C.2.1 dL_law_445 rfl (lv_at hl 5 rfl) ?_
      refine zd_getn C Z G dL_law_446 ?_
      refine lv_iload C.1 C.2.1 dL_law_449 (lv_at hl 0 rfl) ?_
      refine zl_bool C dL_law_451 dL_law_454 dL_law_455 dL_law_458 ?_
      refine zd_lceq (tgt := 465) C (by first | rfl | (rw [flip_eq (by omega)])) dL_law_459 dL_law_460 (by decide) ?_
      refine lv_goto (tgt := 2207) C.1 C.2.1 dL_law_465 (by decide) ?_
      exact kk _ _ _ _ _ _ _ _ _ _ _ _ G (by omega) (by omega) (lv_sub hl [2, 3, 4, 5, 6] rfl)
    · skip
      refine lv_aload_n C.1 C.2.1 dL_law_392 rfl (lv_at hl 1 rfl) ?_
      refine lv_aload_n C.1 C.2.1 dL_law_393 rfl (lv_at hl 0 rfl) ?_
      refine lv_iload C.1 C.2.1 dL_law_394 (lv_at hl 4 rfl) ?_
      refine z_iconst C dL_law_396 ?_
      refine z_iadd C dL_law_397 ?_
      refine zd_ld C Z G q1 (x.toNat + 1) e1 (by omega) (by omega) dL_law_398 ?_
      refine lv_aload_n C.1 C.2.1 dL_law_399 rfl (lv_at hl 0 rfl) ?_
      refine lv_iload C.1 C.2.1 dL_law_400 (lv_at hl 4 rfl) ?_
      refine z_iconst C dL_law_402 ?_
      refine z_iadd C dL_law_403 ?_
      refine zd_ld C Z G q2 (x.toNat + 2) e2 (by omega) (by omega) dL_law_404 ?_
      refine lv_aload_n C.1 C.2.1 dL_law_405 rfl (lv_at hl 3 rfl) ?_
      refine zd_W (as := [.ref o, .int (iZ (q1)), .int (iZ (q2)), .ref w]) C Z Y G (c_L_flip_badr l hlq D cJ o a _ _ _ _ (q1) (q2) (by first | assumption | omega) (by first | assumption | omega) (by first | assumption | omega) (by first | assumption | omega) w _ _) ml_L_184 ⟨Nat.le_of_ble_eq_true rfl, Nat.le_of_ble_eq_true rfl⟩ ⟨by show cells + 0 + 1 ≤ 665987; omega, by show slots + 0 + 6 ≤ 7103520; omega⟩ hl (Nat.le_of_ble_eq_true rfl) rfl dL_law_406 (fun H locs G => ?_)
      refine lv_istore (lv' := [(5, .int (iZ (2))), (0, .ref t), (1, .ref o), (2, .ref u), (3, .ref w), (4, .int (iZ (x)))]) C.1 C.2.1 dL_law_409 hl (by decide) rfl (fun ls hl => ?_)
      refine lv_aload_n C.1 C.2.1 dL_law_411 rfl (lv_at hl 3 rfl) ?_
      refine lv_aload_n C.1 C.2.1 dL_law_412 rfl (lv_at hl 1 rfl) ?_
      refine lv_iload C.1 C.2.1 dL_law_413 (lv_at hl 5 rfl) ?_
      refine z_iconst C dL_law_415 ?_
      refine z_iadd C dL_law_416 ?_
      refine zd_ld C Z G q1 (x.toNat + 1) e1 (by omega) (by omega) dL_law_417 ?_
      refine lv_aload_n C.1 C.2.1 dL_law_418 rfl (lv_at hl 1 rfl) ?_
      refine lv_iload C.1 C.2.1 dL_law_419 (lv_at hl 5 rfl) ?_
      refine z_iconst C dL_law_421 ?_
      refine z_iadd C dL_law_422 ?_
      refine zd_ld C Z G q2 (x.toNat + 2) e2 (by omega) (by omega) dL_law_423 ?_
      refine zd_M (as := [.int (iZ (q1)), .int (iZ (q2))]) C Y G (c_X5_flip_bad2 l D cJ u v _ _ _ _ _ (q1) (q2) (by first | assumption | omega) (by first | assumption | omega) (by first | assumption | omega) (by first | assumption | omega)) ml_L_186 rfl ⟨Nat.le_of_ble_eq_true rfl, Nat.le_of_ble_eq_true rfl⟩ ⟨by show cells + 1 + 0 ≤ 665987; omega, by show slots + 6 + 0 ≤ 7103520; omega⟩ hl (Nat.le_of_ble_eq_true rfl) rfl dL_law_424 (fun y9 H locs hy9 G => ?_)
      subst hy9
      refine lv_istore (lv' := [(6, _), (5, .int (iZ (2))), (0, .ref t), (1, .ref o), (2, .ref u), (3, .ref w), (4, .int (iZ (x)))]) C.1 C.2.1 dL_law_427 hl (by decide) rfl (fun ls hl => ?_)
      refine lv_aload_n C.1 C.2.1 dL_law_429 rfl (lv_at hl 4 rfl) ?_
      refine zd_M (as := []) C Y G (c_X5_thrown l D cJ u v _ _ _ _ _) ml_L_187 rfl ⟨Nat.le_of_ble_eq_true rfl, Nat.le_of_ble_eq_true rfl⟩ ⟨by show cells + 1 + 0 ≤ 665987; omega, by show slots + 6 + 0 ≤ 7103520; omega⟩ hl (Nat.le_of_ble_eq_true rfl) rfl dL_law_430 (fun y9 H locs hy9 G => ?_)
      subst hy9
      refine lv_iload C.1 C.2.1 dL_law_433 (lv_at hl 1 rfl) ?_
      refine zd_eqv (tgt := 440) C (by first | rfl | rw [so_eq hc]) dL_law_435 (by decide) ?_
      refine lv_iload C.1 C.2.1 dL_law_440 (lv_at hl 1 rfl) ?_
      refine z_if_ne (tgt := 465) (z := 2) C (by omega) dL_law_442 (by decide) (fun _ => ?_) (fun h => absurd h (by decide))
      refine lv_goto (tgt := 2207) C.1 C.2.1 dL_law_465 (by decide) ?_
      exact kk _ _ _ _ _ _ _ _ _ _ _ _ G (by omega) (by omega) (lv_sub hl [2, 3, 4, 5, 6] rfl)
  · skip
    refine lv_aload_n C.1 C.2.1 dL_law_392 rfl (lv_at hl 1 rfl) ?_
    refine lv_aload_n C.1 C.2.1 dL_law_393 rfl (lv_at hl 0 rfl) ?_
    refine lv_iload C.1 C.2.1 dL_law_394 (lv_at hl 4 rfl) ?_
    refine z_iconst C dL_law_396 ?_
    refine z_iadd C dL_law_397 ?_
    refine zd_ld C Z G q1 (x.toNat + 1) e1 (by omega) (by omega) dL_law_398 ?_
    refine lv_aload_n C.1 C.2.1 dL_law_399 rfl (lv_at hl 0 rfl) ?_
    refine lv_iload C.1 C.2.1 dL_law_400 (lv_at hl 4 rfl) ?_
    refine z_iconst C dL_law_402 ?_
    refine z_iadd C dL_law_403 ?_
    refine zd_ld C Z G q2 (x.toNat + 2) e2 (by omega) (by omega) dL_law_404 ?_
    refine lv_aload_n C.1 C.2.1 dL_law_405 rfl (lv_at hl 3 rfl) ?_
    refine zd_W (as := [.ref o, .int (iZ (q1)), .int (iZ (q2)), .ref w]) C Z Y G (c_L_flip_badc l hlq D cJ o a _ _ _ _ (q1) (q2) (by first | assumption | omega) (by first | assumption | omega) (by first | assumption | omega) w _ _) ml_L_184 ⟨Nat.le_of_ble_eq_true rfl, Nat.le_of_ble_eq_true rfl⟩ ⟨by show cells + 0 + 1 ≤ 665987; omega, by show slots + 0 + 6 ≤ 7103520; omega⟩ hl (Nat.le_of_ble_eq_true rfl) rfl dL_law_406 (fun H locs G => ?_)
    refine lv_istore (lv' := [(5, .int (iZ (1))), (0, .ref t), (1, .ref o), (2, .ref u), (3, .ref w), (4, .int (iZ (x)))]) C.1 C.2.1 dL_law_409 hl (by decide) rfl (fun ls hl => ?_)
    refine lv_aload_n C.1 C.2.1 dL_law_411 rfl (lv_at hl 3 rfl) ?_
    refine lv_aload_n C.1 C.2.1 dL_law_412 rfl (lv_at hl 1 rfl) ?_
    refine lv_iload C.1 C.2.1 dL_law_413 (lv_at hl 5 rfl) ?_
    refine z_iconst C dL_law_415 ?_
    refine z_iadd C dL_law_416 ?_
    refine zd_ld C Z G q1 (x.toNat + 1) e1 (by omega) (by omega) dL_law_417 ?_
    refine lv_aload_n C.1 C.2.1 dL_law_418 rfl (lv_at hl 1 rfl) ?_
    refine lv_iload C.1 C.2.1 dL_law_419 (lv_at hl 5 rfl) ?_
    refine z_iconst C dL_law_421 ?_
    refine z_iadd C dL_law_422 ?_
    refine zd_ld C Z G q2 (x.toNat + 2) e2 (by omega) (by omega) dL_law_423 ?_
    refine zd_M (as := [.int (iZ (q1)), .int (iZ (q2))]) C Y G (c_X5_flip_bad1 l D cJ u v _ _ _ _ _ (q1) (q2) (by first | assumption | omega) (by first | assumption | omega) (by first | assumption | omega)) ml_L_186 rfl ⟨Nat.le_of_ble_eq_true rfl, Nat.le_of_ble_eq_true rfl⟩ ⟨by show cells + 1 + 0 ≤ 665987; omega, by show slots + 6 + 0 ≤ 7103520; omega⟩ hl (Nat.le_of_ble_eq_true rfl) rfl dL_law_424 (fun y9 H locs hy9 G => ?_)
    subst hy9
    refine lv_istore (lv' := [(6, _), (5, .int (iZ (1))), (0, .ref t), (1, .ref o), (2, .ref u), (3, .ref w), (4, .int (iZ (x)))]) C.1 C.2.1 dL_law_427 hl (by decide) rfl (fun ls hl => ?_)
    refine lv_aload_n C.1 C.2.1 dL_law_429 rfl (lv_at hl 4 rfl) ?_
    refine zd_M (as := []) C Y G (c_X5_thrown l D cJ u v _ _ _ _ _) ml_L_187 rfl ⟨Nat.le_of_ble_eq_true rfl, Nat.le_of_ble_eq_true rfl⟩ ⟨by show cells + 1 + 0 ≤ 665987; omega, by show slots + 6 + 0 ≤ 7103520; omega⟩ hl (Nat.le_of_ble_eq_true rfl) rfl dL_law_430 (fun y9 H locs hy9 G => ?_)
    subst hy9
    refine lv_iload C.1 C.2.1 dL_law_433 (lv_at hl 1 rfl) ?_
    refine zd_eqv (tgt := 440) C (by first | rfl | rw [so_eq hc]) dL_law_435 (by decide) ?_
    refine lv_iload C.1 C.2.1 dL_law_440 (lv_at hl 1 rfl) ?_
    refine z_if_ne (tgt := 465) (z := 1) C (by omega) dL_law_442 (by decide) (fun _ => ?_) (fun h => absurd h (by decide))
    refine lv_goto (tgt := 2207) C.1 C.2.1 dL_law_465 (by decide) ?_
    exact kk _ _ _ _ _ _ _ _ _ _ _ _ G (by omega) (by omega) (lv_sub hl [2, 3, 4, 5, 6] rfl)
set_option maxHeartbeats 4000000 in
set_option maxRecDepth 100000 in
theorem lk_4 (hlq : l.stackTraces = false) (C : CallFix p m c0 cL_law 7 s args T0 RL) (Z : zLw D cB t N g s) (Y : zAd o a u v w s) {c : Nat → Nat} {ac re kn : Int32} {th : Int} {n : Int64} {sv : Value} {H : Heap} {locs : List Loc} {ls : Array Slot} {cells slots : Nat} (G : zG D cJ o a u v w c [.int ac, .int re, .int kn] c [.int (iZ th), .int ac, .int re, .int kn] n sv s H locs) (x : Int) (hx : 0 ≤ x ∧ x + 5 ≤ (N : Int)) (hf : cells + 150 ≤ 665987 ∧ slots + 75000 ≤ 7103520) (hl : lv_has ls 7 [(0, .ref t), (1, .ref o), (2, .ref u), (3, .ref w), (4, .int (iZ (x)))])
    (kk : zNx p l e s m args below meth c0 D cJ t o a u v w x cells slots Qw 2207) : W p l e room_1 s m args below meth c0 H locs cells slots Qw (F0 m 468 ls []) := by
  have hc := G.1.2.2.2
  obtain ⟨q1, e1⟩ : ∃ z, g (x.toNat + 1) = z := ⟨_, rfl⟩
  have r1 : -2147483648 ≤ q1 ∧ q1 ≤ 2147483647 := e1 ▸ Z.2.2.2.2.2.1 _
  obtain ⟨q2, e2⟩ : ∃ z, g (x.toNat + 2) = z := ⟨_, rfl⟩
  have r2 : -2147483648 ≤ q2 ∧ q2 ≤ 2147483647 := e2 ▸ Z.2.2.2.2.2.1 _
  by_cases hcel : (0 ≤ q1 ∧ q1 ≤ 5) ∧ (0 ≤ q2 ∧ q2 ≤ 5)
  · skip
    refine lv_aload_n C.1 C.2.1 dL_law_468 rfl (lv_at hl 1 rfl) ?_
    refine lv_aload_n C.1 C.2.1 dL_law_469 rfl (lv_at hl 0 rfl) ?_
    refine lv_iload C.1 C.2.1 dL_law_470 (lv_at hl 4 rfl) ?_
    refine z_iconst C dL_law_472 ?_
    refine z_iadd C dL_law_473 ?_
    refine zd_ld C Z G q1 (x.toNat + 1) e1 (by omega) (by omega) dL_law_474 ?_
    refine lv_aload_n C.1 C.2.1 dL_law_475 rfl (lv_at hl 0 rfl) ?_
    refine lv_iload C.1 C.2.1 dL_law_476 (lv_at hl 4 rfl) ?_
    refine z_iconst C dL_law_478 ?_
    refine z_iadd C dL_law_479 ?_
    refine zd_ld C Z G q2 (x.toNat + 2) e2 (by omega) (by omega) dL_law_480 ?_
    refine lv_aload_n C.1 C.2.1 dL_law_481 rfl (lv_at hl 3 rfl) ?_
    refine zd_W (as := [.ref o, .int (iZ (q1)), .int (iZ (q2)), .ref w]) C Z Y G (c_L_copy l D cJ o a _ _ _ _ (q1) (q2) (by first | assumption | omega) (by first | assumption | omega) w _ _) ml_L_191 ⟨Nat.le_of_ble_eq_true rfl, Nat.le_of_ble_eq_true rfl⟩ ⟨by show cells + 0 + 0 ≤ 665987; omega, by show slots + 0 + 0 ≤ 7103520; omega⟩ hl (Nat.le_of_ble_eq_true rfl) rfl dL_law_482 (fun H locs G => ?_)
    refine lv_istore (lv' := [(5, .int (iZ (0))), (0, .ref t), (1, .ref o), (2, .ref u), (3, .ref w), (4, .int (iZ (x)))]) C.1 C.2.1 dL_law_485 hl (by decide) rfl (fun ls hl => ?_)
    refine lv_aload_n C.1 C.2.1 dL_law_487 rfl (lv_at hl 3 rfl) ?_
    refine lv_aload_n C.1 C.2.1 dL_law_488 rfl (lv_at hl 1 rfl) ?_
    refine lv_iload C.1 C.2.1 dL_law_489 (lv_at hl 5 rfl) ?_
    refine z_iconst C dL_law_491 ?_
    refine z_iadd C dL_law_492 ?_
    refine zd_ld C Z G q1 (x.toNat + 1) e1 (by omega) (by omega) dL_law_493 ?_
    refine lv_aload_n C.1 C.2.1 dL_law_494 rfl (lv_at hl 1 rfl) ?_
    refine lv_iload C.1 C.2.1 dL_law_495 (lv_at hl 5 rfl) ?_
    refine z_iconst C dL_law_497 ?_
    refine z_iadd C dL_law_498 ?_
    refine zd_ld C Z G q2 (x.toNat + 2) e2 (by omega) (by omega) dL_law_499 ?_
    refine zd_M (as := [.int (iZ (q1)), .int (iZ (q2))]) C Y G (c_X5_copy l D cJ u v _ _ _ _ _ (q1) (q2) (by first | assumption | omega) (by first | assumption | omega)) ml_L_193 rfl ⟨Nat.le_of_ble_eq_true rfl, Nat.le_of_ble_eq_true rfl⟩ ⟨by show cells + 0 + 0 ≤ 665987; omega, by show slots + 0 + 0 ≤ 7103520; omega⟩ hl (Nat.le_of_ble_eq_true rfl) rfl dL_law_500 (fun y9 H locs hy9 G => ?_)
    subst hy9
    refine lv_istore (lv' := [(6, _), (5, .int (iZ (0))), (0, .ref t), (1, .ref o), (2, .ref u), (3, .ref w), (4, .int (iZ (x)))]) C.1 C.2.1 dL_law_503 hl (by decide) rfl (fun ls hl => ?_)
    refine lv_goto (tgt := 2207) C.1 C.2.1 dL_law_505 (by decide) ?_
    exact kk _ _ _ _ _ _ _ _ _ _ _ _ G (by omega) (by omega) (lv_sub hl [2, 3, 4, 5, 6] rfl)
  · skip
    refine lv_aload_n C.1 C.2.1 dL_law_468 rfl (lv_at hl 1 rfl) ?_
    refine lv_aload_n C.1 C.2.1 dL_law_469 rfl (lv_at hl 0 rfl) ?_
    refine lv_iload C.1 C.2.1 dL_law_470 (lv_at hl 4 rfl) ?_
    refine z_iconst C dL_law_472 ?_
    refine z_iadd C dL_law_473 ?_
    refine zd_ld C Z G q1 (x.toNat + 1) e1 (by omega) (by omega) dL_law_474 ?_
    refine lv_aload_n C.1 C.2.1 dL_law_475 rfl (lv_at hl 0 rfl) ?_
    refine lv_iload C.1 C.2.1 dL_law_476 (lv_at hl 4 rfl) ?_
    refine z_iconst C dL_law_478 ?_
    refine z_iadd C dL_law_479 ?_
    refine zd_ld C Z G q2 (x.toNat + 2) e2 (by omega) (by omega) dL_law_480 ?_
    refine lv_aload_n C.1 C.2.1 dL_law_481 rfl (lv_at hl 3 rfl) ?_
    refine zd_W (as := [.ref o, .int (iZ (q1)), .int (iZ (q2)), .ref w]) C Z Y G (c_L_copy_badc l hlq D cJ o a _ _ _ _ (q1) (q2) (by first | assumption | omega) (by first | assumption | omega) (by first | assumption | omega) w _ _) ml_L_191 ⟨Nat.le_of_ble_eq_true rfl, Nat.le_of_ble_eq_true rfl⟩ ⟨by show cells + 0 + 1 ≤ 665987; omega, by show slots + 0 + 6 ≤ 7103520; omega⟩ hl (Nat.le_of_ble_eq_true rfl) rfl dL_law_482 (fun H locs G => ?_)
    refine lv_istore (lv' := [(5, .int (iZ (1))), (0, .ref t), (1, .ref o), (2, .ref u), (3, .ref w), (4, .int (iZ (x)))]) C.1 C.2.1 dL_law_485 hl (by decide) rfl (fun ls hl => ?_)
    refine lv_aload_n C.1 C.2.1 dL_law_487 rfl (lv_at hl 3 rfl) ?_
    refine lv_aload_n C.1 C.2.1 dL_law_488 rfl (lv_at hl 1 rfl) ?_
    refine lv_iload C.1 C.2.1 dL_law_489 (lv_at hl 5 rfl) ?_
    refine z_iconst C dL_law_491 ?_
    refine z_iadd C dL_law_492 ?_
    refine zd_ld C Z G q1 (x.toNat + 1) e1 (by omega) (by omega) dL_law_493 ?_
    refine lv_aload_n C.1 C.2.1 dL_law_494 rfl (lv_at hl 1 rfl) ?_
    refine lv_iload C.1 C.2.1 dL_law_495 (lv_at hl 5 rfl) ?_
    refine z_iconst C dL_law_497 ?_
    refine z_iadd C dL_law_498 ?_
    refine zd_ld C Z G q2 (x.toNat + 2) e2 (by omega) (by omega) dL_law_499 ?_
    refine zd_M (as := [.int (iZ (q1)), .int (iZ (q2))]) C Y G (c_X5_copy_bad1 l D cJ u v _ _ _ _ _ (q1) (q2) (by first | assumption | omega) (by first | assumption | omega) (by first | assumption | omega)) ml_L_193 rfl ⟨Nat.le_of_ble_eq_true rfl, Nat.le_of_ble_eq_true rfl⟩ ⟨by show cells + 1 + 0 ≤ 665987; omega, by show slots + 6 + 0 ≤ 7103520; omega⟩ hl (Nat.le_of_ble_eq_true rfl) rfl dL_law_500 (fun y9 H locs hy9 G => ?_)
    subst hy9
    refine lv_istore (lv' := [(6, _), (5, .int (iZ (1))), (0, .ref t), (1, .ref o), (2, .ref u), (3, .ref w), (4, .int (iZ (x)))]) C.1 C.2.1 dL_law_503 hl (by decide) rfl (fun ls hl => ?_)
    refine lv_goto (tgt := 2207) C.1 C.2.1 dL_law_505 (by decide) ?_
    exact kk _ _ _ _ _ _ _ _ _ _ _ _ G (by omega) (by omega) (lv_sub hl [2, 3, 4, 5, 6] rfl)
set_option maxHeartbeats 4000000 in
set_option maxRecDepth 100000 in
theorem lk_5 (hlq : l.stackTraces = false) (C : CallFix p m c0 cL_law 7 s args T0 RL) (Z : zLw D cB t N g s) (Y : zAd o a u v w s) {c : Nat → Nat} {ac re kn : Int32} {th : Int} {n : Int64} {sv : Value} {H : Heap} {locs : List Loc} {ls : Array Slot} {cells slots : Nat} (G : zG D cJ o a u v w c [.int ac, .int re, .int kn] c [.int (iZ th), .int ac, .int re, .int kn] n sv s H locs) (x : Int) (hx : 0 ≤ x ∧ x + 5 ≤ (N : Int)) (hf : cells + 150 ≤ 665987 ∧ slots + 75000 ≤ 7103520) (hl : lv_has ls 7 [(0, .ref t), (1, .ref o), (2, .ref u), (3, .ref w), (4, .int (iZ (x)))])
    (kk : zNx p l e s m args below meth c0 D cJ t o a u v w x cells slots Qw 2207) : W p l e room_1 s m args below meth c0 H locs cells slots Qw (F0 m 508 ls []) := by
  have hc := G.1.2.2.2
  obtain ⟨q1, e1⟩ : ∃ z, g (x.toNat + 1) = z := ⟨_, rfl⟩
  have r1 : -2147483648 ≤ q1 ∧ q1 ≤ 2147483647 := e1 ▸ Z.2.2.2.2.2.1 _
  obtain ⟨q2, e2⟩ : ∃ z, g (x.toNat + 2) = z := ⟨_, rfl⟩
  have r2 : -2147483648 ≤ q2 ∧ q2 ≤ 2147483647 := e2 ▸ Z.2.2.2.2.2.1 _
  by_cases hcel : (0 ≤ q1 ∧ q1 ≤ 5) ∧ (0 ≤ q2 ∧ q2 ≤ 5)
  · skip
    refine lv_aload_n C.1 C.2.1 dL_law_508 rfl (lv_at hl 1 rfl) ?_
    refine lv_aload_n C.1 C.2.1 dL_law_509 rfl (lv_at hl 0 rfl) ?_
    refine lv_iload C.1 C.2.1 dL_law_510 (lv_at hl 4 rfl) ?_
    refine z_iconst C dL_law_512 ?_
    refine z_iadd C dL_law_513 ?_
    refine zd_ld C Z G q1 (x.toNat + 1) e1 (by omega) (by omega) dL_law_514 ?_
    refine lv_aload_n C.1 C.2.1 dL_law_515 rfl (lv_at hl 0 rfl) ?_
    refine lv_iload C.1 C.2.1 dL_law_516 (lv_at hl 4 rfl) ?_
    refine z_iconst C dL_law_518 ?_
    refine z_iadd C dL_law_519 ?_
    refine zd_ld C Z G q2 (x.toNat + 2) e2 (by omega) (by omega) dL_law_520 ?_
    refine lv_aload_n C.1 C.2.1 dL_law_521 rfl (lv_at hl 3 rfl) ?_
    refine zd_W (as := [.ref o, .int (iZ (q1)), .int (iZ (q2)), .ref w]) C Z Y G (c_L_swap l D cJ o a _ _ _ _ (q1) (q2) (by first | assumption | omega) (by first | assumption | omega) w _ _) ml_L_194 ⟨Nat.le_of_ble_eq_true rfl, Nat.le_of_ble_eq_true rfl⟩ ⟨by show cells + 0 + 0 ≤ 665987; omega, by show slots + 0 + 0 ≤ 7103520; omega⟩ hl (Nat.le_of_ble_eq_true rfl) rfl dL_law_522 (fun H locs G => ?_)
    refine lv_istore (lv' := [(5, .int (iZ (0))), (0, .ref t), (1, .ref o), (2, .ref u), (3, .ref w), (4, .int (iZ (x)))]) C.1 C.2.1 dL_law_525 hl (by decide) rfl (fun ls hl => ?_)
    refine lv_aload_n C.1 C.2.1 dL_law_527 rfl (lv_at hl 3 rfl) ?_
    refine lv_aload_n C.1 C.2.1 dL_law_528 rfl (lv_at hl 1 rfl) ?_
    refine lv_iload C.1 C.2.1 dL_law_529 (lv_at hl 5 rfl) ?_
    refine z_iconst C dL_law_531 ?_
    refine z_iadd C dL_law_532 ?_
    refine zd_ld C Z G q1 (x.toNat + 1) e1 (by omega) (by omega) dL_law_533 ?_
    refine lv_aload_n C.1 C.2.1 dL_law_534 rfl (lv_at hl 1 rfl) ?_
    refine lv_iload C.1 C.2.1 dL_law_535 (lv_at hl 5 rfl) ?_
    refine z_iconst C dL_law_537 ?_
    refine z_iadd C dL_law_538 ?_
    refine zd_ld C Z G q2 (x.toNat + 2) e2 (by omega) (by omega) dL_law_539 ?_
    refine zd_M (as := [.int (iZ (q1)), .int (iZ (q2))]) C Y G (c_X5_swap l D cJ u v _ _ _ _ _ (q1) (q2) (by first | assumption | omega) (by first | assumption | omega)) ml_L_196 rfl ⟨Nat.le_of_ble_eq_true rfl, Nat.le_of_ble_eq_true rfl⟩ ⟨by show cells + 0 + 0 ≤ 665987; omega, by show slots + 0 + 0 ≤ 7103520; omega⟩ hl (Nat.le_of_ble_eq_true rfl) rfl dL_law_540 (fun y9 H locs hy9 G => ?_)
    subst hy9
    refine lv_istore (lv' := [(6, _), (5, .int (iZ (0))), (0, .ref t), (1, .ref o), (2, .ref u), (3, .ref w), (4, .int (iZ (x)))]) C.1 C.2.1 dL_law_543 hl (by decide) rfl (fun ls hl => ?_)
    refine lv_goto (tgt := 2207) C.1 C.2.1 dL_law_545 (by decide) ?_
    exact kk _ _ _ _ _ _ _ _ _ _ _ _ G (by omega) (by omega) (lv_sub hl [2, 3, 4, 5, 6] rfl)
  · skip
    refine lv_aload_n C.1 C.2.1 dL_law_508 rfl (lv_at hl 1 rfl) ?_
    refine lv_aload_n C.1 C.2.1 dL_law_509 rfl (lv_at hl 0 rfl) ?_
    refine lv_iload C.1 C.2.1 dL_law_510 (lv_at hl 4 rfl) ?_
    refine z_iconst C dL_law_512 ?_
    refine z_iadd C dL_law_513 ?_
    refine zd_ld C Z G q1 (x.toNat + 1) e1 (by omega) (by omega) dL_law_514 ?_
    refine lv_aload_n C.1 C.2.1 dL_law_515 rfl (lv_at hl 0 rfl) ?_
    refine lv_iload C.1 C.2.1 dL_law_516 (lv_at hl 4 rfl) ?_
    refine z_iconst C dL_law_518 ?_
    refine z_iadd C dL_law_519 ?_
    refine zd_ld C Z G q2 (x.toNat + 2) e2 (by omega) (by omega) dL_law_520 ?_
    refine lv_aload_n C.1 C.2.1 dL_law_521 rfl (lv_at hl 3 rfl) ?_
    refine zd_W (as := [.ref o, .int (iZ (q1)), .int (iZ (q2)), .ref w]) C Z Y G (c_L_swap_badc l hlq D cJ o a _ _ _ _ (q1) (q2) (by first | assumption | omega) (by first | assumption | omega) (by first | assumption | omega) w _ _) ml_L_194 ⟨Nat.le_of_ble_eq_true rfl, Nat.le_of_ble_eq_true rfl⟩ ⟨by show cells + 0 + 1 ≤ 665987; omega, by show slots + 0 + 6 ≤ 7103520; omega⟩ hl (Nat.le_of_ble_eq_true rfl) rfl dL_law_522 (fun H locs G => ?_)
    refine lv_istore (lv' := [(5, .int (iZ (1))), (0, .ref t), (1, .ref o), (2, .ref u), (3, .ref w), (4, .int (iZ (x)))]) C.1 C.2.1 dL_law_525 hl (by decide) rfl (fun ls hl => ?_)
    refine lv_aload_n C.1 C.2.1 dL_law_527 rfl (lv_at hl 3 rfl) ?_
    refine lv_aload_n C.1 C.2.1 dL_law_528 rfl (lv_at hl 1 rfl) ?_
    refine lv_iload C.1 C.2.1 dL_law_529 (lv_at hl 5 rfl) ?_
    refine z_iconst C dL_law_531 ?_
    refine z_iadd C dL_law_532 ?_
    refine zd_ld C Z G q1 (x.toNat + 1) e1 (by omega) (by omega) dL_law_533 ?_
    refine lv_aload_n C.1 C.2.1 dL_law_534 rfl (lv_at hl 1 rfl) ?_
    refine lv_iload C.1 C.2.1 dL_law_535 (lv_at hl 5 rfl) ?_
    refine z_iconst C dL_law_537 ?_
    refine z_iadd C dL_law_538 ?_
    refine zd_ld C Z G q2 (x.toNat + 2) e2 (by omega) (by omega) dL_law_539 ?_
    refine zd_M (as := [.int (iZ (q1)), .int (iZ (q2))]) C Y G (c_X5_swap_bad1 l D cJ u v _ _ _ _ _ (q1) (q2) (by first | assumption | omega) (by first | assumption | omega) (by first | assumption | omega)) ml_L_196 rfl ⟨Nat.le_of_ble_eq_true rfl, Nat.le_of_ble_eq_true rfl⟩ ⟨by show cells + 1 + 0 ≤ 665987; omega, by show slots + 6 + 0 ≤ 7103520; omega⟩ hl (Nat.le_of_ble_eq_true rfl) rfl dL_law_540 (fun y9 H locs hy9 G => ?_)
    subst hy9
    refine lv_istore (lv' := [(6, _), (5, .int (iZ (1))), (0, .ref t), (1, .ref o), (2, .ref u), (3, .ref w), (4, .int (iZ (x)))]) C.1 C.2.1 dL_law_543 hl (by decide) rfl (fun ls hl => ?_)
    refine lv_goto (tgt := 2207) C.1 C.2.1 dL_law_545 (by decide) ?_
    exact kk _ _ _ _ _ _ _ _ _ _ _ _ G (by omega) (by omega) (lv_sub hl [2, 3, 4, 5, 6] rfl)
set_option maxHeartbeats 4000000 in
set_option maxRecDepth 100000 in
theorem lk_6 (hlq : l.stackTraces = false) (C : CallFix p m c0 cL_law 7 s args T0 RL) (Z : zLw D cB t N g s) (Y : zAd o a u v w s) {c : Nat → Nat} {ac re kn : Int32} {th : Int} {n : Int64} {sv : Value} {H : Heap} {locs : List Loc} {ls : Array Slot} {cells slots : Nat} (G : zG D cJ o a u v w c [.int ac, .int re, .int kn] c [.int (iZ th), .int ac, .int re, .int kn] n sv s H locs) (x : Int) (hx : 0 ≤ x ∧ x + 5 ≤ (N : Int)) (hf : cells + 150 ≤ 665987 ∧ slots + 75000 ≤ 7103520) (hl : lv_has ls 7 [(0, .ref t), (1, .ref o), (2, .ref u), (3, .ref w), (4, .int (iZ (x)))])
    (kk : zNx p l e s m args below meth c0 D cJ t o a u v w x cells slots Qw 2207) : W p l e room_1 s m args below meth c0 H locs cells slots Qw (F0 m 548 ls []) := by
  have hc := G.1.2.2.2
  obtain ⟨q1, e1⟩ : ∃ z, g (x.toNat + 1) = z := ⟨_, rfl⟩
  have r1 : -2147483648 ≤ q1 ∧ q1 ≤ 2147483647 := e1 ▸ Z.2.2.2.2.2.1 _
  obtain ⟨q2, e2⟩ : ∃ z, g (x.toNat + 2) = z := ⟨_, rfl⟩
  have r2 : -2147483648 ≤ q2 ∧ q2 ≤ 2147483647 := e2 ▸ Z.2.2.2.2.2.1 _
  obtain ⟨q3, e3⟩ : ∃ z, g (x.toNat + 3) = z := ⟨_, rfl⟩
  have r3 : -2147483648 ≤ q3 ∧ q3 ≤ 2147483647 := e3 ▸ Z.2.2.2.2.2.1 _
  obtain ⟨q4, e4⟩ : ∃ z, g (x.toNat + 4) = z := ⟨_, rfl⟩
  have r4 : -2147483648 ≤ q4 ∧ q4 ≤ 2147483647 := e4 ▸ Z.2.2.2.2.2.1 _
  by_cases hcel : (0 ≤ q1 ∧ q1 ≤ 5) ∧ (0 ≤ q2 ∧ q2 ≤ 5) ∧ (0 ≤ q4 ∧ q4 ≤ 5)
  · skip
    refine lv_aload_n C.1 C.2.1 dL_law_548 rfl (lv_at hl 1 rfl) ?_
    refine lv_aload_n C.1 C.2.1 dL_law_549 rfl (lv_at hl 0 rfl) ?_
    refine lv_iload C.1 C.2.1 dL_law_550 (lv_at hl 4 rfl) ?_
    refine z_iconst C dL_law_552 ?_
    refine z_iadd C dL_law_553 ?_
    refine zd_ld C Z G q1 (x.toNat + 1) e1 (by omega) (by omega) dL_law_554 ?_
    refine lv_aload_n C.1 C.2.1 dL_law_555 rfl (lv_at hl 0 rfl) ?_
    refine lv_iload C.1 C.2.1 dL_law_556 (lv_at hl 4 rfl) ?_
    refine z_iconst C dL_law_558 ?_
    refine z_iadd C dL_law_559 ?_
    refine zd_ld C Z G q2 (x.toNat + 2) e2 (by omega) (by omega) dL_law_560 ?_
    refine lv_aload_n C.1 C.2.1 dL_law_561 rfl (lv_at hl 0 rfl) ?_
    refine lv_iload C.1 C.2.1 dL_law_562 (lv_at hl 4 rfl) ?_
    refine z_iconst C dL_law_564 ?_
    refine z_iadd C dL_law_565 ?_
    refine zd_ld C Z G q3 (x.toNat + 3) e3 (by omega) (by omega) dL_law_566 ?_
    refine zd_nz C (by omega) dL_law_567 dL_law_570 dL_law_571 dL_law_574 ?_
    refine lv_aload_n C.1 C.2.1 dL_law_575 rfl (lv_at hl 0 rfl) ?_
    refine lv_iload C.1 C.2.1 dL_law_576 (lv_at hl 4 rfl) ?_
    refine z_iconst C dL_law_578 ?_
    refine z_iadd C dL_law_579 ?_
    refine zd_ld C Z G q4 (x.toNat + 4) e4 (by omega) (by omega) dL_law_580 ?_
    refine lv_aload_n C.1 C.2.1 dL_law_581 rfl (lv_at hl 3 rfl) ?_
    refine zd_W (as := [.ref o, .int (iZ (q1)), .int (iZ (q2)), .int (iZ (zB (decide (q3 ≠ 0)))), .int (iZ (q4)), .ref w]) C Z Y G (c_L_end l D cJ o a _ _ _ _ (q1) (q2) (decide (q3 ≠ 0)) (q4) (by first | assumption | omega) (by first | assumption | omega) (by first | assumption | omega) w _ _) ml_L_197 ⟨Nat.le_of_ble_eq_true rfl, Nat.le_of_ble_eq_true rfl⟩ ⟨by show cells + 0 + 0 ≤ 665987; omega, by show slots + 0 + 0 ≤ 7103520; omega⟩ hl (Nat.le_of_ble_eq_true rfl) rfl dL_law_582 (fun H locs G => ?_)
    refine lv_istore (lv' := [(5, .int (iZ (0))), (0, .ref t), (1, .ref o), (2, .ref u), (3, .ref w), (4, .int (iZ (x)))]) C.1 C.2.1 dL_law_585 hl (by decide) rfl (fun ls hl => ?_)
    refine lv_aload_n C.1 C.2.1 dL_law_587 rfl (lv_at hl 3 rfl) ?_
    refine lv_aload_n C.1 C.2.1 dL_law_588 rfl (lv_at hl 1 rfl) ?_
    refine lv_iload C.1 C.2.1 dL_law_589 (lv_at hl 5 rfl) ?_
    refine z_iconst C dL_law_591 ?_
    refine z_iadd C dL_law_592 ?_
    refine zd_ld C Z G q1 (x.toNat + 1) e1 (by omega) (by omega) dL_law_593 ?_
    refine lv_aload_n C.1 C.2.1 dL_law_594 rfl (lv_at hl 1 rfl) ?_
    refine lv_iload C.1 C.2.1 dL_law_595 (lv_at hl 5 rfl) ?_
    refine z_iconst C dL_law_597 ?_
    refine z_iadd C dL_law_598 ?_
    refine zd_ld C Z G q2 (x.toNat + 2) e2 (by omega) (by omega) dL_law_599 ?_
    refine lv_aload_n C.1 C.2.1 dL_law_600 rfl (lv_at hl 1 rfl) ?_
    refine lv_iload C.1 C.2.1 dL_law_601 (lv_at hl 5 rfl) ?_
    refine z_iconst C dL_law_603 ?_
    refine z_iadd C dL_law_604 ?_
    refine zd_ld C Z G q3 (x.toNat + 3) e3 (by omega) (by omega) dL_law_605 ?_
    refine zd_nz C (by omega) dL_law_606 dL_law_609 dL_law_610 dL_law_613 ?_
    refine lv_aload_n C.1 C.2.1 dL_law_614 rfl (lv_at hl 1 rfl) ?_
    refine lv_iload C.1 C.2.1 dL_law_615 (lv_at hl 5 rfl) ?_
    refine z_iconst C dL_law_617 ?_
    refine z_iadd C dL_law_618 ?_
    refine zd_ld C Z G q4 (x.toNat + 4) e4 (by omega) (by omega) dL_law_619 ?_
    refine zd_M (as := [.int (iZ (q1)), .int (iZ (q2)), .int (iZ (zB (decide (q3 ≠ 0)))), .int (iZ (q4))]) C Y G (c_X5_end l D cJ u v _ _ _ _ _ (q1) (q2) (decide (q3 ≠ 0)) (q4) (by first | assumption | omega) (by first | assumption | omega) (by first | assumption | omega)) ml_L_200 rfl ⟨Nat.le_of_ble_eq_true rfl, Nat.le_of_ble_eq_true rfl⟩ ⟨by show cells + 0 + 0 ≤ 665987; omega, by show slots + 0 + 0 ≤ 7103520; omega⟩ hl (Nat.le_of_ble_eq_true rfl) rfl dL_law_620 (fun y9 H locs hy9 G => ?_)
    subst hy9
    refine lv_istore (lv' := [(6, _), (5, .int (iZ (0))), (0, .ref t), (1, .ref o), (2, .ref u), (3, .ref w), (4, .int (iZ (x)))]) C.1 C.2.1 dL_law_623 hl (by decide) rfl (fun ls hl => ?_)
    refine lv_goto (tgt := 2207) C.1 C.2.1 dL_law_625 (by decide) ?_
    exact kk _ _ _ _ _ _ _ _ _ _ _ _ G (by omega) (by omega) (lv_sub hl [2, 3, 4, 5, 6] rfl)
  · skip
    refine lv_aload_n C.1 C.2.1 dL_law_548 rfl (lv_at hl 1 rfl) ?_
    refine lv_aload_n C.1 C.2.1 dL_law_549 rfl (lv_at hl 0 rfl) ?_
    refine lv_iload C.1 C.2.1 dL_law_550 (lv_at hl 4 rfl) ?_
    refine z_iconst C dL_law_552 ?_
    refine z_iadd C dL_law_553 ?_
    refine zd_ld C Z G q1 (x.toNat + 1) e1 (by omega) (by omega) dL_law_554 ?_
    refine lv_aload_n C.1 C.2.1 dL_law_555 rfl (lv_at hl 0 rfl) ?_
    refine lv_iload C.1 C.2.1 dL_law_556 (lv_at hl 4 rfl) ?_
    refine z_iconst C dL_law_558 ?_
    refine z_iadd C dL_law_559 ?_
    refine zd_ld C Z G q2 (x.toNat + 2) e2 (by omega) (by omega) dL_law_560 ?_
    refine lv_aload_n C.1 C.2.1 dL_law_561 rfl (lv_at hl 0 rfl) ?_
    refine lv_iload C.1 C.2.1 dL_law_562 (lv_at hl 4 rfl) ?_
    refine z_iconst C dL_law_564 ?_
    refine z_iadd C dL_law_565 ?_
    refine zd_ld C Z G q3 (x.toNat + 3) e3 (by omega) (by omega) dL_law_566 ?_
    refine zd_nz C (by omega) dL_law_567 dL_law_570 dL_law_571 dL_law_574 ?_
    refine lv_aload_n C.1 C.2.1 dL_law_575 rfl (lv_at hl 0 rfl) ?_
    refine lv_iload C.1 C.2.1 dL_law_576 (lv_at hl 4 rfl) ?_
    refine z_iconst C dL_law_578 ?_
    refine z_iadd C dL_law_579 ?_
    refine zd_ld C Z G q4 (x.toNat + 4) e4 (by omega) (by omega) dL_law_580 ?_
    refine lv_aload_n C.1 C.2.1 dL_law_581 rfl (lv_at hl 3 rfl) ?_
    refine zd_W (as := [.ref o, .int (iZ (q1)), .int (iZ (q2)), .int (iZ (zB (decide (q3 ≠ 0)))), .int (iZ (q4)), .ref w]) C Z Y G (c_L_end_badc l hlq D cJ o a _ _ _ _ (q1) (q2) (decide (q3 ≠ 0)) (q4) (by first | assumption | omega) (by first | assumption | omega) (by first | assumption | omega) (by first | assumption | omega) w _ _) ml_L_197 ⟨Nat.le_of_ble_eq_true rfl, Nat.le_of_ble_eq_true rfl⟩ ⟨by show cells + 0 + 1 ≤ 665987; omega, by show slots + 0 + 6 ≤ 7103520; omega⟩ hl (Nat.le_of_ble_eq_true rfl) rfl dL_law_582 (fun H locs G => ?_)
    refine lv_istore (lv' := [(5, .int (iZ (1))), (0, .ref t), (1, .ref o), (2, .ref u), (3, .ref w), (4, .int (iZ (x)))]) C.1 C.2.1 dL_law_585 hl (by decide) rfl (fun ls hl => ?_)
    refine lv_aload_n C.1 C.2.1 dL_law_587 rfl (lv_at hl 3 rfl) ?_
    refine lv_aload_n C.1 C.2.1 dL_law_588 rfl (lv_at hl 1 rfl) ?_
    refine lv_iload C.1 C.2.1 dL_law_589 (lv_at hl 5 rfl) ?_
    refine z_iconst C dL_law_591 ?_
    refine z_iadd C dL_law_592 ?_
    refine zd_ld C Z G q1 (x.toNat + 1) e1 (by omega) (by omega) dL_law_593 ?_
    refine lv_aload_n C.1 C.2.1 dL_law_594 rfl (lv_at hl 1 rfl) ?_
    refine lv_iload C.1 C.2.1 dL_law_595 (lv_at hl 5 rfl) ?_
    refine z_iconst C dL_law_597 ?_
    refine z_iadd C dL_law_598 ?_
    refine zd_ld C Z G q2 (x.toNat + 2) e2 (by omega) (by omega) dL_law_599 ?_
    refine lv_aload_n C.1 C.2.1 dL_law_600 rfl (lv_at hl 1 rfl) ?_
    refine lv_iload C.1 C.2.1 dL_law_601 (lv_at hl 5 rfl) ?_
    refine z_iconst C dL_law_603 ?_
    refine z_iadd C dL_law_604 ?_
    refine zd_ld C Z G q3 (x.toNat + 3) e3 (by omega) (by omega) dL_law_605 ?_
    refine zd_nz C (by omega) dL_law_606 dL_law_609 dL_law_610 dL_law_613 ?_
    refine lv_aload_n C.1 C.2.1 dL_law_614 rfl (lv_at hl 1 rfl) ?_
    refine lv_iload C.1 C.2.1 dL_law_615 (lv_at hl 5 rfl) ?_
    refine z_iconst C dL_law_617 ?_
    refine z_iadd C dL_law_618 ?_
    refine zd_ld C Z G q4 (x.toNat + 4) e4 (by omega) (by omega) dL_law_619 ?_
    refine zd_M (as := [.int (iZ (q1)), .int (iZ (q2)), .int (iZ (zB (decide (q3 ≠ 0)))), .int (iZ (q4))]) C Y G (c_X5_end_bad1 l D cJ u v _ _ _ _ _ (q1) (q2) (decide (q3 ≠ 0)) (q4) (by first | assumption | omega) (by first | assumption | omega) (by first | assumption | omega) (by first | assumption | omega)) ml_L_200 rfl ⟨Nat.le_of_ble_eq_true rfl, Nat.le_of_ble_eq_true rfl⟩ ⟨by show cells + 1 + 0 ≤ 665987; omega, by show slots + 6 + 0 ≤ 7103520; omega⟩ hl (Nat.le_of_ble_eq_true rfl) rfl dL_law_620 (fun y9 H locs hy9 G => ?_)
    subst hy9
    refine lv_istore (lv' := [(6, _), (5, .int (iZ (1))), (0, .ref t), (1, .ref o), (2, .ref u), (3, .ref w), (4, .int (iZ (x)))]) C.1 C.2.1 dL_law_623 hl (by decide) rfl (fun ls hl => ?_)
    refine lv_goto (tgt := 2207) C.1 C.2.1 dL_law_625 (by decide) ?_
    exact kk _ _ _ _ _ _ _ _ _ _ _ _ G (by omega) (by omega) (lv_sub hl [2, 3, 4, 5, 6] rfl)
set_option maxHeartbeats 4000000 in
set_option maxRecDepth 100000 in
theorem lk_7 (hlq : l.stackTraces = false) (C : CallFix p m c0 cL_law 7 s args T0 RL) (Z : zLw D cB t N g s) (Y : zAd o a u v w s) {c : Nat → Nat} {ac re kn : Int32} {th : Int} {n : Int64} {sv : Value} {H : Heap} {locs : List Loc} {ls : Array Slot} {cells slots : Nat} (G : zG D cJ o a u v w c [.int ac, .int re, .int kn] c [.int (iZ th), .int ac, .int re, .int kn] n sv s H locs) (x : Int) (hx : 0 ≤ x ∧ x + 5 ≤ (N : Int)) (hf : cells + 150 ≤ 665987 ∧ slots + 75000 ≤ 7103520) (hl : lv_has ls 7 [(0, .ref t), (1, .ref o), (2, .ref u), (3, .ref w), (4, .int (iZ (x)))])
    (kk : zNx p l e s m args below meth c0 D cJ t o a u v w x cells slots Qw 2207) : W p l e room_1 s m args below meth c0 H locs cells slots Qw (F0 m 628 ls []) := by
  have hc := G.1.2.2.2
  obtain ⟨q1, e1⟩ : ∃ z, g (x.toNat + 1) = z := ⟨_, rfl⟩
  have r1 : -2147483648 ≤ q1 ∧ q1 ≤ 2147483647 := e1 ▸ Z.2.2.2.2.2.1 _
  obtain ⟨q2, e2⟩ : ∃ z, g (x.toNat + 2) = z := ⟨_, rfl⟩
  have r2 : -2147483648 ≤ q2 ∧ q2 ≤ 2147483647 := e2 ▸ Z.2.2.2.2.2.1 _
  obtain ⟨q3, e3⟩ : ∃ z, g (x.toNat + 3) = z := ⟨_, rfl⟩
  have r3 : -2147483648 ≤ q3 ∧ q3 ≤ 2147483647 := e3 ▸ Z.2.2.2.2.2.1 _
  obtain ⟨q4, e4⟩ : ∃ z, g (x.toNat + 4) = z := ⟨_, rfl⟩
  have r4 : -2147483648 ≤ q4 ∧ q4 ≤ 2147483647 := e4 ▸ Z.2.2.2.2.2.1 _
  by_cases hcel : (0 ≤ q1 ∧ q1 ≤ 5) ∧ (0 ≤ q2 ∧ q2 ≤ 5) ∧ (0 ≤ q4 ∧ q4 ≤ 5)
  · skip
    by_cases hrng : (0 ≤ q3 ∧ q3 ≤ 3)
    · skip
      refine lv_aload_n C.1 C.2.1 dL_law_628 rfl (lv_at hl 1 rfl) ?_
      refine lv_aload_n C.1 C.2.1 dL_law_629 rfl (lv_at hl 0 rfl) ?_
      refine lv_iload C.1 C.2.1 dL_law_630 (lv_at hl 4 rfl) ?_
      refine z_iconst C dL_law_632 ?_
      refine z_iadd C dL_law_633 ?_
      refine zd_ld C Z G q1 (x.toNat + 1) e1 (by omega) (by omega) dL_law_634 ?_
      refine lv_aload_n C.1 C.2.1 dL_law_635 rfl (lv_at hl 0 rfl) ?_
      refine lv_iload C.1 C.2.1 dL_law_636 (lv_at hl 4 rfl) ?_
      refine z_iconst C dL_law_638 ?_
      refine z_iadd C dL_law_639 ?_
      refine zd_ld C Z G q2 (x.toNat + 2) e2 (by omega) (by omega) dL_law_640 ?_
      refine lv_aload_n C.1 C.2.1 dL_law_641 rfl (lv_at hl 0 rfl) ?_
      refine lv_iload C.1 C.2.1 dL_law_642 (lv_at hl 4 rfl) ?_
      refine z_iconst C dL_law_644 ?_
      refine z_iadd C dL_law_645 ?_
      refine zd_ld C Z G q3 (x.toNat + 3) e3 (by omega) (by omega) dL_law_646 ?_
      refine lv_aload_n C.1 C.2.1 dL_law_647 rfl (lv_at hl 0 rfl) ?_
      refine lv_iload C.1 C.2.1 dL_law_648 (lv_at hl 4 rfl) ?_
      refine z_iconst C dL_law_650 ?_
      refine z_iadd C dL_law_651 ?_
      refine zd_ld C Z G q4 (x.toNat + 4) e4 (by omega) (by omega) dL_law_652 ?_
      refine lv_aload_n C.1 C.2.1 dL_law_653 rfl (lv_at hl 3 rfl) ?_
      refine zd_W (as := [.ref o, .int (iZ (q1)), .int (iZ (q2)), .int (iZ (q3)), .int (iZ (q4)), .ref w]) C Z Y G (c_L_join l D cJ o a _ _ _ _ (q1) (q2) (q3) (q4) (by first | assumption | omega) (by first | assumption | omega) (by first | assumption | omega) (by first | assumption | omega) w _ _) ml_L_201 ⟨Nat.le_of_ble_eq_true rfl, Nat.le_of_ble_eq_true rfl⟩ ⟨by show cells + 0 + 0 ≤ 665987; omega, by show slots + 0 + 0 ≤ 7103520; omega⟩ hl (Nat.le_of_ble_eq_true rfl) rfl dL_law_654 (fun H locs G => ?_)
      refine lv_istore (lv' := [(5, .int (iZ (0))), (0, .ref t), (1, .ref o), (2, .ref u), (3, .ref w), (4, .int (iZ (x)))]) C.1 C.2.1 dL_law_657 hl (by decide) rfl (fun ls hl => ?_)
      refine lv_aload_n C.1 C.2.1 dL_law_659 rfl (lv_at hl 3 rfl) ?_
      refine lv_aload_n C.1 C.2.1 dL_law_660 rfl (lv_at hl 1 rfl) ?_
      refine lv_iload C.1 C.2.1 dL_law_661 (lv_at hl 5 rfl) ?_
      refine z_iconst C dL_law_663 ?_
      refine z_iadd C dL_law_664 ?_
      refine zd_ld C Z G q1 (x.toNat + 1) e1 (by omega) (by omega) dL_law_665 ?_
      refine lv_aload_n C.1 C.2.1 dL_law_666 rfl (lv_at hl 1 rfl) ?_
      refine lv_iload C.1 C.2.1 dL_law_667 (lv_at hl 5 rfl) ?_
      refine z_iconst C dL_law_669 ?_
      refine z_iadd C dL_law_670 ?_
      refine zd_ld C Z G q2 (x.toNat + 2) e2 (by omega) (by omega) dL_law_671 ?_
      refine lv_aload_n C.1 C.2.1 dL_law_672 rfl (lv_at hl 1 rfl) ?_
      refine lv_iload C.1 C.2.1 dL_law_673 (lv_at hl 5 rfl) ?_
      refine z_iconst C dL_law_675 ?_
      refine z_iadd C dL_law_676 ?_
      refine zd_ld C Z G q3 (x.toNat + 3) e3 (by omega) (by omega) dL_law_677 ?_
      refine lv_aload_n C.1 C.2.1 dL_law_678 rfl (lv_at hl 1 rfl) ?_
      refine lv_iload C.1 C.2.1 dL_law_679 (lv_at hl 5 rfl) ?_
      refine z_iconst C dL_law_681 ?_
      refine z_iadd C dL_law_682 ?_
      refine zd_ld C Z G q4 (x.toNat + 4) e4 (by omega) (by omega) dL_law_683 ?_
      refine zd_M (as := [.int (iZ (q1)), .int (iZ (q2)), .int (iZ (q3)), .int (iZ (q4))]) C Y G (c_X5_join l D cJ u v _ _ _ _ _ (q1) (q2) (q3) (q4) (by first | assumption | omega) (by first | assumption | omega) (by first | assumption | omega) (by first | assumption | omega)) ml_L_204 rfl ⟨Nat.le_of_ble_eq_true rfl, Nat.le_of_ble_eq_true rfl⟩ ⟨by show cells + 0 + 0 ≤ 665987; omega, by show slots + 0 + 0 ≤ 7103520; omega⟩ hl (Nat.le_of_ble_eq_true rfl) rfl dL_law_684 (fun y9 H locs hy9 G => ?_)
      subst hy9
      refine lv_istore (lv' := [(6, _), (5, .int (iZ (0))), (0, .ref t), (1, .ref o), (2, .ref u), (3, .ref w), (4, .int (iZ (x)))]) C.1 C.2.1 dL_law_687 hl (by decide) rfl (fun ls hl => ?_)
      refine lv_goto (tgt := 2207) C.1 C.2.1 dL_law_689 (by decide) ?_
      exact kk _ _ _ _ _ _ _ _ _ _ _ _ G (by omega) (by omega) (lv_sub hl [2, 3, 4, 5, 6] rfl)
    · skip
      refine lv_aload_n C.1 C.2.1 dL_law_628 rfl (lv_at hl 1 rfl) ?_
      refine lv_aload_n C.1 C.2.1 dL_law_629 rfl (lv_at hl 0 rfl) ?_
      refine lv_iload C.1 C.2.1 dL_law_630 (lv_at hl 4 rfl) ?_
      refine z_iconst C dL_law_632 ?_
      refine z_iadd C dL_law_633 ?_
      refine zd_ld C Z G q1 (x.toNat + 1) e1 (by omega) (by omega) dL_law_634 ?_
      refine lv_aload_n C.1 C.2.1 dL_law_635 rfl (lv_at hl 0 rfl) ?_
      refine lv_iload C.1 C.2.1 dL_law_636 (lv_at hl 4 rfl) ?_
      refine z_iconst C dL_law_638 ?_
      refine z_iadd C dL_law_639 ?_
      refine zd_ld C Z G q2 (x.toNat + 2) e2 (by omega) (by omega) dL_law_640 ?_
      refine lv_aload_n C.1 C.2.1 dL_law_641 rfl (lv_at hl 0 rfl) ?_
      refine lv_iload C.1 C.2.1 dL_law_642 (lv_at hl 4 rfl) ?_
      refine z_iconst C dL_law_644 ?_
      refine z_iadd C dL_law_645 ?_
      refine zd_ld C Z G q3 (x.toNat + 3) e3 (by omega) (by omega) dL_law_646 ?_
      refine lv_aload_n C.1 C.2.1 dL_law_647 rfl (lv_at hl 0 rfl) ?_
      refine lv_iload C.1 C.2.1 dL_law_648 (lv_at hl 4 rfl) ?_
      refine z_iconst C dL_law_650 ?_
      refine z_iadd C dL_law_651 ?_
      refine zd_ld C Z G q4 (x.toNat + 4) e4 (by omega) (by omega) dL_law_652 ?_
      refine lv_aload_n C.1 C.2.1 dL_law_653 rfl (lv_at hl 3 rfl) ?_
      refine zd_W (as := [.ref o, .int (iZ (q1)), .int (iZ (q2)), .int (iZ (q3)), .int (iZ (q4)), .ref w]) C Z Y G (c_L_join_badr l hlq D cJ o a _ _ _ _ (q1) (q2) (q3) (q4) (by first | assumption | omega) (by first | assumption | omega) (by first | assumption | omega) (by first | assumption | omega) (by first | assumption | omega) (by first | assumption | omega) (by first | assumption | omega) (by first | assumption | omega) w _ _) ml_L_201 ⟨Nat.le_of_ble_eq_true rfl, Nat.le_of_ble_eq_true rfl⟩ ⟨by show cells + 0 + 1 ≤ 665987; omega, by show slots + 0 + 6 ≤ 7103520; omega⟩ hl (Nat.le_of_ble_eq_true rfl) rfl dL_law_654 (fun H locs G => ?_)
      refine lv_istore (lv' := [(5, .int (iZ (2))), (0, .ref t), (1, .ref o), (2, .ref u), (3, .ref w), (4, .int (iZ (x)))]) C.1 C.2.1 dL_law_657 hl (by decide) rfl (fun ls hl => ?_)
      refine lv_aload_n C.1 C.2.1 dL_law_659 rfl (lv_at hl 3 rfl) ?_
      refine lv_aload_n C.1 C.2.1 dL_law_660 rfl (lv_at hl 1 rfl) ?_
      refine lv_iload C.1 C.2.1 dL_law_661 (lv_at hl 5 rfl) ?_
      refine z_iconst C dL_law_663 ?_
      refine z_iadd C dL_law_664 ?_
      refine zd_ld C Z G q1 (x.toNat + 1) e1 (by omega) (by omega) dL_law_665 ?_
      refine lv_aload_n C.1 C.2.1 dL_law_666 rfl (lv_at hl 1 rfl) ?_
      refine lv_iload C.1 C.2.1 dL_law_667 (lv_at hl 5 rfl) ?_
      refine z_iconst C dL_law_669 ?_
      refine z_iadd C dL_law_670 ?_
      refine zd_ld C Z G q2 (x.toNat + 2) e2 (by omega) (by omega) dL_law_671 ?_
      refine lv_aload_n C.1 C.2.1 dL_law_672 rfl (lv_at hl 1 rfl) ?_
      refine lv_iload C.1 C.2.1 dL_law_673 (lv_at hl 5 rfl) ?_
      refine z_iconst C dL_law_675 ?_
      refine z_iadd C dL_law_676 ?_
      refine zd_ld C Z G q3 (x.toNat + 3) e3 (by omega) (by omega) dL_law_677 ?_
      refine lv_aload_n C.1 C.2.1 dL_law_678 rfl (lv_at hl 1 rfl) ?_
      refine lv_iload C.1 C.2.1 dL_law_679 (lv_at hl 5 rfl) ?_
      refine z_iconst C dL_law_681 ?_
      refine z_iadd C dL_law_682 ?_
      refine zd_ld C Z G q4 (x.toNat + 4) e4 (by omega) (by omega) dL_law_683 ?_
      refine zd_M (as := [.int (iZ (q1)), .int (iZ (q2)), .int (iZ (q3)), .int (iZ (q4))]) C Y G (c_X5_join_bad2 l D cJ u v _ _ _ _ _ (q1) (q2) (q3) (q4) (by first | assumption | omega) (by first | assumption | omega) (by first | assumption | omega) (by first | assumption | omega) (by first | assumption | omega) (by first | assumption | omega)) ml_L_204 rfl ⟨Nat.le_of_ble_eq_true rfl, Nat.le_of_ble_eq_true rfl⟩ ⟨by show cells + 1 + 0 ≤ 665987; omega, by show slots + 6 + 0 ≤ 7103520; omega⟩ hl (Nat.le_of_ble_eq_true rfl) rfl dL_law_684 (fun y9 H locs hy9 G => ?_)
      subst hy9
      refine lv_istore (lv' := [(6, _), (5, .int (iZ (2))), (0, .ref t), (1, .ref o), (2, .ref u), (3, .ref w), (4, .int (iZ (x)))]) C.1 C.2.1 dL_law_687 hl (by decide) rfl (fun ls hl => ?_)
      refine lv_goto (tgt := 2207) C.1 C.2.1 dL_law_689 (by decide) ?_
      exact kk _ _ _ _ _ _ _ _ _ _ _ _ G (by omega) (by omega) (lv_sub hl [2, 3, 4, 5, 6] rfl)
  · skip
    refine lv_aload_n C.1 C.2.1 dL_law_628 rfl (lv_at hl 1 rfl) ?_
    refine lv_aload_n C.1 C.2.1 dL_law_629 rfl (lv_at hl 0 rfl) ?_
    refine lv_iload C.1 C.2.1 dL_law_630 (lv_at hl 4 rfl) ?_
    refine z_iconst C dL_law_632 ?_
    refine z_iadd C dL_law_633 ?_
    refine zd_ld C Z G q1 (x.toNat + 1) e1 (by omega) (by omega) dL_law_634 ?_
    refine lv_aload_n C.1 C.2.1 dL_law_635 rfl (lv_at hl 0 rfl) ?_
    refine lv_iload C.1 C.2.1 dL_law_636 (lv_at hl 4 rfl) ?_
    refine z_iconst C dL_law_638 ?_
    refine z_iadd C dL_law_639 ?_
    refine zd_ld C Z G q2 (x.toNat + 2) e2 (by omega) (by omega) dL_law_640 ?_
    refine lv_aload_n C.1 C.2.1 dL_law_641 rfl (lv_at hl 0 rfl) ?_
    refine lv_iload C.1 C.2.1 dL_law_642 (lv_at hl 4 rfl) ?_
    refine z_iconst C dL_law_644 ?_
    refine z_iadd C dL_law_645 ?_
    refine zd_ld C Z G q3 (x.toNat + 3) e3 (by omega) (by omega) dL_law_646 ?_
    refine lv_aload_n C.1 C.2.1 dL_law_647 rfl (lv_at hl 0 rfl) ?_
    refine lv_iload C.1 C.2.1 dL_law_648 (lv_at hl 4 rfl) ?_
    refine z_iconst C dL_law_650 ?_
    refine z_iadd C dL_law_651 ?_
    refine zd_ld C Z G q4 (x.toNat + 4) e4 (by omega) (by omega) dL_law_652 ?_
    refine lv_aload_n C.1 C.2.1 dL_law_653 rfl (lv_at hl 3 rfl) ?_
    refine zd_W (as := [.ref o, .int (iZ (q1)), .int (iZ (q2)), .int (iZ (q3)), .int (iZ (q4)), .ref w]) C Z Y G (c_L_join_badc l hlq D cJ o a _ _ _ _ (q1) (q2) (q3) (q4) (by first | assumption | omega) (by first | assumption | omega) (by first | assumption | omega) (by first | assumption | omega) (by first | assumption | omega) w _ _) ml_L_201 ⟨Nat.le_of_ble_eq_true rfl, Nat.le_of_ble_eq_true rfl⟩ ⟨by show cells + 0 + 1 ≤ 665987; omega, by show slots + 0 + 6 ≤ 7103520; omega⟩ hl (Nat.le_of_ble_eq_true rfl) rfl dL_law_654 (fun H locs G => ?_)
    refine lv_istore (lv' := [(5, .int (iZ (1))), (0, .ref t), (1, .ref o), (2, .ref u), (3, .ref w), (4, .int (iZ (x)))]) C.1 C.2.1 dL_law_657 hl (by decide) rfl (fun ls hl => ?_)
    refine lv_aload_n C.1 C.2.1 dL_law_659 rfl (lv_at hl 3 rfl) ?_
    refine lv_aload_n C.1 C.2.1 dL_law_660 rfl (lv_at hl 1 rfl) ?_
    refine lv_iload C.1 C.2.1 dL_law_661 (lv_at hl 5 rfl) ?_
    refine z_iconst C dL_law_663 ?_
    refine z_iadd C dL_law_664 ?_
    refine zd_ld C Z G q1 (x.toNat + 1) e1 (by omega) (by omega) dL_law_665 ?_
    refine lv_aload_n C.1 C.2.1 dL_law_666 rfl (lv_at hl 1 rfl) ?_
    refine lv_iload C.1 C.2.1 dL_law_667 (lv_at hl 5 rfl) ?_
    refine z_iconst C dL_law_669 ?_
    refine z_iadd C dL_law_670 ?_
    refine zd_ld C Z G q2 (x.toNat + 2) e2 (by omega) (by omega) dL_law_671 ?_
    refine lv_aload_n C.1 C.2.1 dL_law_672 rfl (lv_at hl 1 rfl) ?_
    refine lv_iload C.1 C.2.1 dL_law_673 (lv_at hl 5 rfl) ?_
    refine z_iconst C dL_law_675 ?_
    refine z_iadd C dL_law_676 ?_
    refine zd_ld C Z G q3 (x.toNat + 3) e3 (by omega) (by omega) dL_law_677 ?_
    refine lv_aload_n C.1 C.2.1 dL_law_678 rfl (lv_at hl 1 rfl) ?_
    refine lv_iload C.1 C.2.1 dL_law_679 (lv_at hl 5 rfl) ?_
    refine z_iconst C dL_law_681 ?_
    refine z_iadd C dL_law_682 ?_
    refine zd_ld C Z G q4 (x.toNat + 4) e4 (by omega) (by omega) dL_law_683 ?_
    refine zd_M (as := [.int (iZ (q1)), .int (iZ (q2)), .int (iZ (q3)), .int (iZ (q4))]) C Y G (c_X5_join_bad1 l D cJ u v _ _ _ _ _ (q1) (q2) (q3) (q4) (by first | assumption | omega) (by first | assumption | omega) (by first | assumption | omega) (by first | assumption | omega) (by first | assumption | omega)) ml_L_204 rfl ⟨Nat.le_of_ble_eq_true rfl, Nat.le_of_ble_eq_true rfl⟩ ⟨by show cells + 1 + 0 ≤ 665987; omega, by show slots + 6 + 0 ≤ 7103520; omega⟩ hl (Nat.le_of_ble_eq_true rfl) rfl dL_law_684 (fun y9 H locs hy9 G => ?_)
    subst hy9
    refine lv_istore (lv' := [(6, _), (5, .int (iZ (1))), (0, .ref t), (1, .ref o), (2, .ref u), (3, .ref w), (4, .int (iZ (x)))]) C.1 C.2.1 dL_law_687 hl (by decide) rfl (fun ls hl => ?_)
    refine lv_goto (tgt := 2207) C.1 C.2.1 dL_law_689 (by decide) ?_
    exact kk _ _ _ _ _ _ _ _ _ _ _ _ G (by omega) (by omega) (lv_sub hl [2, 3, 4, 5, 6] rfl)
set_option maxHeartbeats 4000000 in
set_option maxRecDepth 100000 in
theorem lk_8 (hlq : l.stackTraces = false) (C : CallFix p m c0 cL_law 7 s args T0 RL) (Z : zLw D cB t N g s) (Y : zAd o a u v w s) {c : Nat → Nat} {ac re kn : Int32} {th : Int} {n : Int64} {sv : Value} {H : Heap} {locs : List Loc} {ls : Array Slot} {cells slots : Nat} (G : zG D cJ o a u v w c [.int ac, .int re, .int kn] c [.int (iZ th), .int ac, .int re, .int kn] n sv s H locs) (x : Int) (hx : 0 ≤ x ∧ x + 5 ≤ (N : Int)) (hf : cells + 150 ≤ 665987 ∧ slots + 75000 ≤ 7103520) (hl : lv_has ls 7 [(0, .ref t), (1, .ref o), (2, .ref u), (3, .ref w), (4, .int (iZ (x)))])
    (kk : zNx p l e s m args below meth c0 D cJ t o a u v w x cells slots Qw 2207) : W p l e room_1 s m args below meth c0 H locs cells slots Qw (F0 m 692 ls []) := by
  have hc := G.1.2.2.2
  obtain ⟨q1, e1⟩ : ∃ z, g (x.toNat + 1) = z := ⟨_, rfl⟩
  have r1 : -2147483648 ≤ q1 ∧ q1 ≤ 2147483647 := e1 ▸ Z.2.2.2.2.2.1 _
  obtain ⟨q2, e2⟩ : ∃ z, g (x.toNat + 2) = z := ⟨_, rfl⟩
  have r2 : -2147483648 ≤ q2 ∧ q2 ≤ 2147483647 := e2 ▸ Z.2.2.2.2.2.1 _
  obtain ⟨q3, e3⟩ : ∃ z, g (x.toNat + 3) = z := ⟨_, rfl⟩
  have r3 : -2147483648 ≤ q3 ∧ q3 ≤ 2147483647 := e3 ▸ Z.2.2.2.2.2.1 _
  by_cases hcel : (0 ≤ q1 ∧ q1 ≤ 5) ∧ (0 ≤ q2 ∧ q2 ≤ 5) ∧ (0 ≤ q3 ∧ q3 ≤ 5)
  · skip
    refine lv_aload_n C.1 C.2.1 dL_law_692 rfl (lv_at hl 1 rfl) ?_
    refine lv_aload_n C.1 C.2.1 dL_law_693 rfl (lv_at hl 0 rfl) ?_
    refine lv_iload C.1 C.2.1 dL_law_694 (lv_at hl 4 rfl) ?_
    refine z_iconst C dL_law_696 ?_
    refine z_iadd C dL_law_697 ?_
    refine zd_ld C Z G q1 (x.toNat + 1) e1 (by omega) (by omega) dL_law_698 ?_
    refine lv_aload_n C.1 C.2.1 dL_law_699 rfl (lv_at hl 0 rfl) ?_
    refine lv_iload C.1 C.2.1 dL_law_700 (lv_at hl 4 rfl) ?_
    refine z_iconst C dL_law_702 ?_
    refine z_iadd C dL_law_703 ?_
    refine zd_ld C Z G q2 (x.toNat + 2) e2 (by omega) (by omega) dL_law_704 ?_
    refine lv_aload_n C.1 C.2.1 dL_law_705 rfl (lv_at hl 0 rfl) ?_
    refine lv_iload C.1 C.2.1 dL_law_706 (lv_at hl 4 rfl) ?_
    refine z_iconst C dL_law_708 ?_
    refine z_iadd C dL_law_709 ?_
    refine zd_ld C Z G q3 (x.toNat + 3) e3 (by omega) (by omega) dL_law_710 ?_
    refine lv_aload_n C.1 C.2.1 dL_law_711 rfl (lv_at hl 3 rfl) ?_
    refine zd_W (as := [.ref o, .int (iZ (q1)), .int (iZ (q2)), .int (iZ (q3)), .ref w]) C Z Y G (c_L_times l D cJ o a _ _ _ _ (q1) (q2) (q3) (by first | assumption | omega) (by first | assumption | omega) (by first | assumption | omega) w _ _) ml_L_205 ⟨Nat.le_of_ble_eq_true rfl, Nat.le_of_ble_eq_true rfl⟩ ⟨by show cells + 0 + 0 ≤ 665987; omega, by show slots + 0 + 0 ≤ 7103520; omega⟩ hl (Nat.le_of_ble_eq_true rfl) rfl dL_law_712 (fun H locs G => ?_)
    refine lv_istore (lv' := [(5, .int (iZ (0))), (0, .ref t), (1, .ref o), (2, .ref u), (3, .ref w), (4, .int (iZ (x)))]) C.1 C.2.1 dL_law_715 hl (by decide) rfl (fun ls hl => ?_)
    refine lv_aload_n C.1 C.2.1 dL_law_717 rfl (lv_at hl 3 rfl) ?_
    refine lv_aload_n C.1 C.2.1 dL_law_718 rfl (lv_at hl 1 rfl) ?_
    refine lv_iload C.1 C.2.1 dL_law_719 (lv_at hl 5 rfl) ?_
    refine z_iconst C dL_law_721 ?_
    refine z_iadd C dL_law_722 ?_
    refine zd_ld C Z G q1 (x.toNat + 1) e1 (by omega) (by omega) dL_law_723 ?_
    refine lv_aload_n C.1 C.2.1 dL_law_724 rfl (lv_at hl 1 rfl) ?_
    refine lv_iload C.1 C.2.1 dL_law_725 (lv_at hl 5 rfl) ?_
    refine z_iconst C dL_law_727 ?_
    refine z_iadd C dL_law_728 ?_
    refine zd_ld C Z G q2 (x.toNat + 2) e2 (by omega) (by omega) dL_law_729 ?_
    refine lv_aload_n C.1 C.2.1 dL_law_730 rfl (lv_at hl 1 rfl) ?_
    refine lv_iload C.1 C.2.1 dL_law_731 (lv_at hl 5 rfl) ?_
    refine z_iconst C dL_law_733 ?_
    refine z_iadd C dL_law_734 ?_
    refine zd_ld C Z G q3 (x.toNat + 3) e3 (by omega) (by omega) dL_law_735 ?_
    refine zd_M (as := [.int (iZ (q1)), .int (iZ (q2)), .int (iZ (q3))]) C Y G (c_X5_times l D cJ u v _ _ _ _ _ (q1) (q2) (q3) (by first | assumption | omega) (by first | assumption | omega) (by first | assumption | omega)) ml_L_208 rfl ⟨Nat.le_of_ble_eq_true rfl, Nat.le_of_ble_eq_true rfl⟩ ⟨by show cells + 0 + 0 ≤ 665987; omega, by show slots + 0 + 0 ≤ 7103520; omega⟩ hl (Nat.le_of_ble_eq_true rfl) rfl dL_law_736 (fun y9 H locs hy9 G => ?_)
    subst hy9
    refine lv_istore (lv' := [(6, _), (5, .int (iZ (0))), (0, .ref t), (1, .ref o), (2, .ref u), (3, .ref w), (4, .int (iZ (x)))]) C.1 C.2.1 dL_law_739 hl (by decide) rfl (fun ls hl => ?_)
    refine lv_goto (tgt := 2207) C.1 C.2.1 dL_law_741 (by decide) ?_
    exact kk _ _ _ _ _ _ _ _ _ _ _ _ G (by omega) (by omega) (lv_sub hl [2, 3, 4, 5, 6] rfl)
  · skip
    refine lv_aload_n C.1 C.2.1 dL_law_692 rfl (lv_at hl 1 rfl) ?_
    refine lv_aload_n C.1 C.2.1 dL_law_693 rfl (lv_at hl 0 rfl) ?_
    refine lv_iload C.1 C.2.1 dL_law_694 (lv_at hl 4 rfl) ?_
    refine z_iconst C dL_law_696 ?_
    refine z_iadd C dL_law_697 ?_
    refine zd_ld C Z G q1 (x.toNat + 1) e1 (by omega) (by omega) dL_law_698 ?_
    refine lv_aload_n C.1 C.2.1 dL_law_699 rfl (lv_at hl 0 rfl) ?_
    refine lv_iload C.1 C.2.1 dL_law_700 (lv_at hl 4 rfl) ?_
    refine z_iconst C dL_law_702 ?_
    refine z_iadd C dL_law_703 ?_
    refine zd_ld C Z G q2 (x.toNat + 2) e2 (by omega) (by omega) dL_law_704 ?_
    refine lv_aload_n C.1 C.2.1 dL_law_705 rfl (lv_at hl 0 rfl) ?_
    refine lv_iload C.1 C.2.1 dL_law_706 (lv_at hl 4 rfl) ?_
    refine z_iconst C dL_law_708 ?_
    refine z_iadd C dL_law_709 ?_
    refine zd_ld C Z G q3 (x.toNat + 3) e3 (by omega) (by omega) dL_law_710 ?_
    refine lv_aload_n C.1 C.2.1 dL_law_711 rfl (lv_at hl 3 rfl) ?_
    refine zd_W (as := [.ref o, .int (iZ (q1)), .int (iZ (q2)), .int (iZ (q3)), .ref w]) C Z Y G (c_L_times_badc l hlq D cJ o a _ _ _ _ (q1) (q2) (q3) (by first | assumption | omega) (by first | assumption | omega) (by first | assumption | omega) (by first | assumption | omega) w _ _) ml_L_205 ⟨Nat.le_of_ble_eq_true rfl, Nat.le_of_ble_eq_true rfl⟩ ⟨by show cells + 0 + 1 ≤ 665987; omega, by show slots + 0 + 6 ≤ 7103520; omega⟩ hl (Nat.le_of_ble_eq_true rfl) rfl dL_law_712 (fun H locs G => ?_)
    refine lv_istore (lv' := [(5, .int (iZ (1))), (0, .ref t), (1, .ref o), (2, .ref u), (3, .ref w), (4, .int (iZ (x)))]) C.1 C.2.1 dL_law_715 hl (by decide) rfl (fun ls hl => ?_)
    refine lv_aload_n C.1 C.2.1 dL_law_717 rfl (lv_at hl 3 rfl) ?_
    refine lv_aload_n C.1 C.2.1 dL_law_718 rfl (lv_at hl 1 rfl) ?_
    refine lv_iload C.1 C.2.1 dL_law_719 (lv_at hl 5 rfl) ?_
    refine z_iconst C dL_law_721 ?_
    refine z_iadd C dL_law_722 ?_
    refine zd_ld C Z G q1 (x.toNat + 1) e1 (by omega) (by omega) dL_law_723 ?_
    refine lv_aload_n C.1 C.2.1 dL_law_724 rfl (lv_at hl 1 rfl) ?_
    refine lv_iload C.1 C.2.1 dL_law_725 (lv_at hl 5 rfl) ?_
    refine z_iconst C dL_law_727 ?_
    refine z_iadd C dL_law_728 ?_
    refine zd_ld C Z G q2 (x.toNat + 2) e2 (by omega) (by omega) dL_law_729 ?_
    refine lv_aload_n C.1 C.2.1 dL_law_730 rfl (lv_at hl 1 rfl) ?_
    refine lv_iload C.1 C.2.1 dL_law_731 (lv_at hl 5 rfl) ?_
    refine z_iconst C dL_law_733 ?_
    refine z_iadd C dL_law_734 ?_
    refine zd_ld C Z G q3 (x.toNat + 3) e3 (by omega) (by omega) dL_law_735 ?_
    refine zd_M (as := [.int (iZ (q1)), .int (iZ (q2)), .int (iZ (q3))]) C Y G (c_X5_times_bad1 l D cJ u v _ _ _ _ _ (q1) (q2) (q3) (by first | assumption | omega) (by first | assumption | omega) (by first | assumption | omega) (by first | assumption | omega)) ml_L_208 rfl ⟨Nat.le_of_ble_eq_true rfl, Nat.le_of_ble_eq_true rfl⟩ ⟨by show cells + 1 + 0 ≤ 665987; omega, by show slots + 6 + 0 ≤ 7103520; omega⟩ hl (Nat.le_of_ble_eq_true rfl) rfl dL_law_736 (fun y9 H locs hy9 G => ?_)
    subst hy9
    refine lv_istore (lv' := [(6, _), (5, .int (iZ (1))), (0, .ref t), (1, .ref o), (2, .ref u), (3, .ref w), (4, .int (iZ (x)))]) C.1 C.2.1 dL_law_739 hl (by decide) rfl (fun ls hl => ?_)
    refine lv_goto (tgt := 2207) C.1 C.2.1 dL_law_741 (by decide) ?_
    exact kk _ _ _ _ _ _ _ _ _ _ _ _ G (by omega) (by omega) (lv_sub hl [2, 3, 4, 5, 6] rfl)
set_option maxHeartbeats 4000000 in
set_option maxRecDepth 100000 in
theorem lk_9 (hlq : l.stackTraces = false) (C : CallFix p m c0 cL_law 7 s args T0 RL) (Z : zLw D cB t N g s) (Y : zAd o a u v w s) {c : Nat → Nat} {ac re kn : Int32} {th : Int} {n : Int64} {sv : Value} {H : Heap} {locs : List Loc} {ls : Array Slot} {cells slots : Nat} (G : zG D cJ o a u v w c [.int ac, .int re, .int kn] c [.int (iZ th), .int ac, .int re, .int kn] n sv s H locs) (x : Int) (hx : 0 ≤ x ∧ x + 5 ≤ (N : Int)) (hf : cells + 150 ≤ 665987 ∧ slots + 75000 ≤ 7103520) (hl : lv_has ls 7 [(0, .ref t), (1, .ref o), (2, .ref u), (3, .ref w), (4, .int (iZ (x)))])
    (kk : zNx p l e s m args below meth c0 D cJ t o a u v w x cells slots Qw 2207) : W p l e room_1 s m args below meth c0 H locs cells slots Qw (F0 m 744 ls []) := by
  have hc := G.1.2.2.2
  obtain ⟨q1, e1⟩ : ∃ z, g (x.toNat + 1) = z := ⟨_, rfl⟩
  have r1 : -2147483648 ≤ q1 ∧ q1 ≤ 2147483647 := e1 ▸ Z.2.2.2.2.2.1 _
  obtain ⟨q2, e2⟩ : ∃ z, g (x.toNat + 2) = z := ⟨_, rfl⟩
  have r2 : -2147483648 ≤ q2 ∧ q2 ≤ 2147483647 := e2 ▸ Z.2.2.2.2.2.1 _
  by_cases hcel : (0 ≤ q1 ∧ q1 ≤ 5) ∧ (0 ≤ q2 ∧ q2 ≤ 5)
  · skip
    refine lv_aload_n C.1 C.2.1 dL_law_744 rfl (lv_at hl 1 rfl) ?_
    refine lv_aload_n C.1 C.2.1 dL_law_745 rfl (lv_at hl 0 rfl) ?_
    refine lv_iload C.1 C.2.1 dL_law_746 (lv_at hl 4 rfl) ?_
    refine z_iconst C dL_law_748 ?_
    refine z_iadd C dL_law_749 ?_
    refine zd_ld C Z G q1 (x.toNat + 1) e1 (by omega) (by omega) dL_law_750 ?_
    refine lv_aload_n C.1 C.2.1 dL_law_751 rfl (lv_at hl 0 rfl) ?_
    refine lv_iload C.1 C.2.1 dL_law_752 (lv_at hl 4 rfl) ?_
    refine z_iconst C dL_law_754 ?_
    refine z_iadd C dL_law_755 ?_
    refine zd_ld C Z G q2 (x.toNat + 2) e2 (by omega) (by omega) dL_law_756 ?_
    refine lv_aload_n C.1 C.2.1 dL_law_757 rfl (lv_at hl 3 rfl) ?_
    refine zd_W (as := [.ref o, .int (iZ (q1)), .int (iZ (q2)), .ref w]) C Z Y G (c_L_square l D cJ o a _ _ _ _ (q1) (q2) (by first | assumption | omega) (by first | assumption | omega) w _ _) ml_L_209 ⟨Nat.le_of_ble_eq_true rfl, Nat.le_of_ble_eq_true rfl⟩ ⟨by show cells + 0 + 0 ≤ 665987; omega, by show slots + 0 + 0 ≤ 7103520; omega⟩ hl (Nat.le_of_ble_eq_true rfl) rfl dL_law_758 (fun H locs G => ?_)
    refine lv_istore (lv' := [(5, .int (iZ (0))), (0, .ref t), (1, .ref o), (2, .ref u), (3, .ref w), (4, .int (iZ (x)))]) C.1 C.2.1 dL_law_761 hl (by decide) rfl (fun ls hl => ?_)
    refine lv_aload_n C.1 C.2.1 dL_law_763 rfl (lv_at hl 3 rfl) ?_
    refine lv_aload_n C.1 C.2.1 dL_law_764 rfl (lv_at hl 1 rfl) ?_
    refine lv_iload C.1 C.2.1 dL_law_765 (lv_at hl 5 rfl) ?_
    refine z_iconst C dL_law_767 ?_
    refine z_iadd C dL_law_768 ?_
    refine zd_ld C Z G q1 (x.toNat + 1) e1 (by omega) (by omega) dL_law_769 ?_
    refine lv_aload_n C.1 C.2.1 dL_law_770 rfl (lv_at hl 1 rfl) ?_
    refine lv_iload C.1 C.2.1 dL_law_771 (lv_at hl 5 rfl) ?_
    refine z_iconst C dL_law_773 ?_
    refine z_iadd C dL_law_774 ?_
    refine zd_ld C Z G q2 (x.toNat + 2) e2 (by omega) (by omega) dL_law_775 ?_
    refine zd_M (as := [.int (iZ (q1)), .int (iZ (q2))]) C Y G (c_X5_square l D cJ u v _ _ _ _ _ (q1) (q2) (by first | assumption | omega) (by first | assumption | omega)) ml_L_211 rfl ⟨Nat.le_of_ble_eq_true rfl, Nat.le_of_ble_eq_true rfl⟩ ⟨by show cells + 0 + 0 ≤ 665987; omega, by show slots + 0 + 0 ≤ 7103520; omega⟩ hl (Nat.le_of_ble_eq_true rfl) rfl dL_law_776 (fun y9 H locs hy9 G => ?_)
    subst hy9
    refine lv_istore (lv' := [(6, _), (5, .int (iZ (0))), (0, .ref t), (1, .ref o), (2, .ref u), (3, .ref w), (4, .int (iZ (x)))]) C.1 C.2.1 dL_law_779 hl (by decide) rfl (fun ls hl => ?_)
    refine lv_goto (tgt := 2207) C.1 C.2.1 dL_law_781 (by decide) ?_
    exact kk _ _ _ _ _ _ _ _ _ _ _ _ G (by omega) (by omega) (lv_sub hl [2, 3, 4, 5, 6] rfl)
  · skip
    refine lv_aload_n C.1 C.2.1 dL_law_744 rfl (lv_at hl 1 rfl) ?_
    refine lv_aload_n C.1 C.2.1 dL_law_745 rfl (lv_at hl 0 rfl) ?_
    refine lv_iload C.1 C.2.1 dL_law_746 (lv_at hl 4 rfl) ?_
    refine z_iconst C dL_law_748 ?_
    refine z_iadd C dL_law_749 ?_
    refine zd_ld C Z G q1 (x.toNat + 1) e1 (by omega) (by omega) dL_law_750 ?_
    refine lv_aload_n C.1 C.2.1 dL_law_751 rfl (lv_at hl 0 rfl) ?_
    refine lv_iload C.1 C.2.1 dL_law_752 (lv_at hl 4 rfl) ?_
    refine z_iconst C dL_law_754 ?_
    refine z_iadd C dL_law_755 ?_
    refine zd_ld C Z G q2 (x.toNat + 2) e2 (by omega) (by omega) dL_law_756 ?_
    refine lv_aload_n C.1 C.2.1 dL_law_757 rfl (lv_at hl 3 rfl) ?_
    refine zd_W (as := [.ref o, .int (iZ (q1)), .int (iZ (q2)), .ref w]) C Z Y G (c_L_square_badc l hlq D cJ o a _ _ _ _ (q1) (q2) (by first | assumption | omega) (by first | assumption | omega) (by first | assumption | omega) w _ _) ml_L_209 ⟨Nat.le_of_ble_eq_true rfl, Nat.le_of_ble_eq_true rfl⟩ ⟨by show cells + 0 + 1 ≤ 665987; omega, by show slots + 0 + 6 ≤ 7103520; omega⟩ hl (Nat.le_of_ble_eq_true rfl) rfl dL_law_758 (fun H locs G => ?_)
    refine lv_istore (lv' := [(5, .int (iZ (1))), (0, .ref t), (1, .ref o), (2, .ref u), (3, .ref w), (4, .int (iZ (x)))]) C.1 C.2.1 dL_law_761 hl (by decide) rfl (fun ls hl => ?_)
    refine lv_aload_n C.1 C.2.1 dL_law_763 rfl (lv_at hl 3 rfl) ?_
    refine lv_aload_n C.1 C.2.1 dL_law_764 rfl (lv_at hl 1 rfl) ?_
    refine lv_iload C.1 C.2.1 dL_law_765 (lv_at hl 5 rfl) ?_
    refine z_iconst C dL_law_767 ?_
    refine z_iadd C dL_law_768 ?_
    refine zd_ld C Z G q1 (x.toNat + 1) e1 (by omega) (by omega) dL_law_769 ?_
    refine lv_aload_n C.1 C.2.1 dL_law_770 rfl (lv_at hl 1 rfl) ?_
    refine lv_iload C.1 C.2.1 dL_law_771 (lv_at hl 5 rfl) ?_
    refine z_iconst C dL_law_773 ?_
    refine z_iadd C dL_law_774 ?_
    refine zd_ld C Z G q2 (x.toNat + 2) e2 (by omega) (by omega) dL_law_775 ?_
    refine zd_M (as := [.int (iZ (q1)), .int (iZ (q2))]) C Y G (c_X5_square_bad1 l D cJ u v _ _ _ _ _ (q1) (q2) (by first | assumption | omega) (by first | assumption | omega) (by first | assumption | omega)) ml_L_211 rfl ⟨Nat.le_of_ble_eq_true rfl, Nat.le_of_ble_eq_true rfl⟩ ⟨by show cells + 1 + 0 ≤ 665987; omega, by show slots + 6 + 0 ≤ 7103520; omega⟩ hl (Nat.le_of_ble_eq_true rfl) rfl dL_law_776 (fun y9 H locs hy9 G => ?_)
    subst hy9
    refine lv_istore (lv' := [(6, _), (5, .int (iZ (1))), (0, .ref t), (1, .ref o), (2, .ref u), (3, .ref w), (4, .int (iZ (x)))]) C.1 C.2.1 dL_law_779 hl (by decide) rfl (fun ls hl => ?_)
    refine lv_goto (tgt := 2207) C.1 C.2.1 dL_law_781 (by decide) ?_
    exact kk _ _ _ _ _ _ _ _ _ _ _ _ G (by omega) (by omega) (lv_sub hl [2, 3, 4, 5, 6] rfl)
set_option maxHeartbeats 4000000 in
set_option maxRecDepth 100000 in
theorem lk_10 (hlq : l.stackTraces = false) (C : CallFix p m c0 cL_law 7 s args T0 RL) (Z : zLw D cB t N g s) (Y : zAd o a u v w s) {c : Nat → Nat} {ac re kn : Int32} {th : Int} {n : Int64} {sv : Value} {H : Heap} {locs : List Loc} {ls : Array Slot} {cells slots : Nat} (G : zG D cJ o a u v w c [.int ac, .int re, .int kn] c [.int (iZ th), .int ac, .int re, .int kn] n sv s H locs) (x : Int) (hx : 0 ≤ x ∧ x + 5 ≤ (N : Int)) (hf : cells + 150 ≤ 665987 ∧ slots + 75000 ≤ 7103520) (hl : lv_has ls 7 [(0, .ref t), (1, .ref o), (2, .ref u), (3, .ref w), (4, .int (iZ (x)))])
    (kk : zNx p l e s m args below meth c0 D cJ t o a u v w x cells slots Qw 2207) : W p l e room_1 s m args below meth c0 H locs cells slots Qw (F0 m 784 ls []) := by
  have hc := G.1.2.2.2
  obtain ⟨q1, e1⟩ : ∃ z, g (x.toNat + 1) = z := ⟨_, rfl⟩
  have r1 : -2147483648 ≤ q1 ∧ q1 ≤ 2147483647 := e1 ▸ Z.2.2.2.2.2.1 _
  obtain ⟨q2, e2⟩ : ∃ z, g (x.toNat + 2) = z := ⟨_, rfl⟩
  have r2 : -2147483648 ≤ q2 ∧ q2 ≤ 2147483647 := e2 ▸ Z.2.2.2.2.2.1 _
  obtain ⟨q3, e3⟩ : ∃ z, g (x.toNat + 3) = z := ⟨_, rfl⟩
  have r3 : -2147483648 ≤ q3 ∧ q3 ≤ 2147483647 := e3 ▸ Z.2.2.2.2.2.1 _
  by_cases hcel : (0 ≤ q1 ∧ q1 ≤ 5) ∧ (0 ≤ q3 ∧ q3 ≤ 5)
  · skip
    by_cases hrng : (-32 ≤ q2 ∧ q2 ≤ 32)
    · skip
      refine lv_aload_n C.1 C.2.1 dL_law_784 rfl (lv_at hl 1 rfl) ?_
      refine lv_aload_n C.1 C.2.1 dL_law_785 rfl (lv_at hl 0 rfl) ?_
      refine lv_iload C.1 C.2.1 dL_law_786 (lv_at hl 4 rfl) ?_
      refine z_iconst C dL_law_788 ?_
      refine z_iadd C dL_law_789 ?_
      refine zd_ld C Z G q1 (x.toNat + 1) e1 (by omega) (by omega) dL_law_790 ?_
      refine lv_aload_n C.1 C.2.1 dL_law_791 rfl (lv_at hl 0 rfl) ?_
      refine lv_iload C.1 C.2.1 dL_law_792 (lv_at hl 4 rfl) ?_
      refine z_iconst C dL_law_794 ?_
      refine z_iadd C dL_law_795 ?_
      refine zd_ld C Z G q2 (x.toNat + 2) e2 (by omega) (by omega) dL_law_796 ?_
      refine lv_aload_n C.1 C.2.1 dL_law_797 rfl (lv_at hl 0 rfl) ?_
      refine lv_iload C.1 C.2.1 dL_law_798 (lv_at hl 4 rfl) ?_
      refine z_iconst C dL_law_800 ?_
      refine z_iadd C dL_law_801 ?_
      refine zd_ld C Z G q3 (x.toNat + 3) e3 (by omega) (by omega) dL_law_802 ?_
      refine lv_aload_n C.1 C.2.1 dL_law_803 rfl (lv_at hl 3 rfl) ?_
      refine zd_W (as := [.ref o, .int (iZ (q1)), .int (iZ (q2)), .int (iZ (q3)), .ref w]) C Z Y G (c_L_shift l D cJ o a _ _ _ _ (q1) (q2) (q3) (by first | assumption | omega) (by first | assumption | omega) (by first | assumption | omega) w _ _) ml_L_212 ⟨Nat.le_of_ble_eq_true rfl, Nat.le_of_ble_eq_true rfl⟩ ⟨by show cells + 0 + 0 ≤ 665987; omega, by show slots + 0 + 0 ≤ 7103520; omega⟩ hl (Nat.le_of_ble_eq_true rfl) rfl dL_law_804 (fun H locs G => ?_)
      refine lv_istore (lv' := [(5, .int (iZ (0))), (0, .ref t), (1, .ref o), (2, .ref u), (3, .ref w), (4, .int (iZ (x)))]) C.1 C.2.1 dL_law_807 hl (by decide) rfl (fun ls hl => ?_)
      refine lv_aload_n C.1 C.2.1 dL_law_809 rfl (lv_at hl 3 rfl) ?_
      refine lv_aload_n C.1 C.2.1 dL_law_810 rfl (lv_at hl 1 rfl) ?_
      refine lv_iload C.1 C.2.1 dL_law_811 (lv_at hl 5 rfl) ?_
      refine z_iconst C dL_law_813 ?_
      refine z_iadd C dL_law_814 ?_
      refine zd_ld C Z G q1 (x.toNat + 1) e1 (by omega) (by omega) dL_law_815 ?_
      refine lv_aload_n C.1 C.2.1 dL_law_816 rfl (lv_at hl 1 rfl) ?_
      refine lv_iload C.1 C.2.1 dL_law_817 (lv_at hl 5 rfl) ?_
      refine z_iconst C dL_law_819 ?_
      refine z_iadd C dL_law_820 ?_
      refine zd_ld C Z G q2 (x.toNat + 2) e2 (by omega) (by omega) dL_law_821 ?_
      refine lv_aload_n C.1 C.2.1 dL_law_822 rfl (lv_at hl 1 rfl) ?_
      refine lv_iload C.1 C.2.1 dL_law_823 (lv_at hl 5 rfl) ?_
      refine z_iconst C dL_law_825 ?_
      refine z_iadd C dL_law_826 ?_
      refine zd_ld C Z G q3 (x.toNat + 3) e3 (by omega) (by omega) dL_law_827 ?_
      refine zd_M (as := [.int (iZ (q1)), .int (iZ (q2)), .int (iZ (q3))]) C Y G (c_X5_shift l D cJ u v _ _ _ _ _ (q1) (q2) (q3) (by first | assumption | omega) (by first | assumption | omega) (by first | assumption | omega)) ml_L_214 rfl ⟨Nat.le_of_ble_eq_true rfl, Nat.le_of_ble_eq_true rfl⟩ ⟨by show cells + 0 + 0 ≤ 665987; omega, by show slots + 0 + 0 ≤ 7103520; omega⟩ hl (Nat.le_of_ble_eq_true rfl) rfl dL_law_828 (fun y9 H locs hy9 G => ?_)
      subst hy9
      refine lv_istore (lv' := [(6, _), (5, .int (iZ (0))), (0, .ref t), (1, .ref o), (2, .ref u), (3, .ref w), (4, .int (iZ (x)))]) C.1 C.2.1 dL_law_831 hl (by decide) rfl (fun ls hl => ?_)
      refine lv_goto (tgt := 2207) C.1 C.2.1 dL_law_833 (by decide) ?_
      exact kk _ _ _ _ _ _ _ _ _ _ _ _ G (by omega) (by omega) (lv_sub hl [2, 3, 4, 5, 6] rfl)
    · skip
      refine lv_aload_n C.1 C.2.1 dL_law_784 rfl (lv_at hl 1 rfl) ?_
      refine lv_aload_n C.1 C.2.1 dL_law_785 rfl (lv_at hl 0 rfl) ?_
      refine lv_iload C.1 C.2.1 dL_law_786 (lv_at hl 4 rfl) ?_
      refine z_iconst C dL_law_788 ?_
      refine z_iadd C dL_law_789 ?_
      refine zd_ld C Z G q1 (x.toNat + 1) e1 (by omega) (by omega) dL_law_790 ?_
      refine lv_aload_n C.1 C.2.1 dL_law_791 rfl (lv_at hl 0 rfl) ?_
      refine lv_iload C.1 C.2.1 dL_law_792 (lv_at hl 4 rfl) ?_
      refine z_iconst C dL_law_794 ?_
      refine z_iadd C dL_law_795 ?_
      refine zd_ld C Z G q2 (x.toNat + 2) e2 (by omega) (by omega) dL_law_796 ?_
      refine lv_aload_n C.1 C.2.1 dL_law_797 rfl (lv_at hl 0 rfl) ?_
      refine lv_iload C.1 C.2.1 dL_law_798 (lv_at hl 4 rfl) ?_
      refine z_iconst C dL_law_800 ?_
      refine z_iadd C dL_law_801 ?_
      refine zd_ld C Z G q3 (x.toNat + 3) e3 (by omega) (by omega) dL_law_802 ?_
      refine lv_aload_n C.1 C.2.1 dL_law_803 rfl (lv_at hl 3 rfl) ?_
      refine zd_W (as := [.ref o, .int (iZ (q1)), .int (iZ (q2)), .int (iZ (q3)), .ref w]) C Z Y G (c_L_shift_badr l hlq D cJ o a _ _ _ _ (q1) (q2) (q3) (by first | assumption | omega) (by first | assumption | omega) (by first | assumption | omega) (by first | assumption | omega) (by first | assumption | omega) (by first | assumption | omega) w _ _) ml_L_212 ⟨Nat.le_of_ble_eq_true rfl, Nat.le_of_ble_eq_true rfl⟩ ⟨by show cells + 0 + 1 ≤ 665987; omega, by show slots + 0 + 6 ≤ 7103520; omega⟩ hl (Nat.le_of_ble_eq_true rfl) rfl dL_law_804 (fun H locs G => ?_)
      refine lv_istore (lv' := [(5, .int (iZ (2))), (0, .ref t), (1, .ref o), (2, .ref u), (3, .ref w), (4, .int (iZ (x)))]) C.1 C.2.1 dL_law_807 hl (by decide) rfl (fun ls hl => ?_)
      refine lv_aload_n C.1 C.2.1 dL_law_809 rfl (lv_at hl 3 rfl) ?_
      refine lv_aload_n C.1 C.2.1 dL_law_810 rfl (lv_at hl 1 rfl) ?_
      refine lv_iload C.1 C.2.1 dL_law_811 (lv_at hl 5 rfl) ?_
      refine z_iconst C dL_law_813 ?_
      refine z_iadd C dL_law_814 ?_
      refine zd_ld C Z G q1 (x.toNat + 1) e1 (by omega) (by omega) dL_law_815 ?_
      refine lv_aload_n C.1 C.2.1 dL_law_816 rfl (lv_at hl 1 rfl) ?_
      refine lv_iload C.1 C.2.1 dL_law_817 (lv_at hl 5 rfl) ?_
      refine z_iconst C dL_law_819 ?_
      refine z_iadd C dL_law_820 ?_
      refine zd_ld C Z G q2 (x.toNat + 2) e2 (by omega) (by omega) dL_law_821 ?_
      refine lv_aload_n C.1 C.2.1 dL_law_822 rfl (lv_at hl 1 rfl) ?_
      refine lv_iload C.1 C.2.1 dL_law_823 (lv_at hl 5 rfl) ?_
      refine z_iconst C dL_law_825 ?_
      refine z_iadd C dL_law_826 ?_
      refine zd_ld C Z G q3 (x.toNat + 3) e3 (by omega) (by omega) dL_law_827 ?_
      refine zd_M (as := [.int (iZ (q1)), .int (iZ (q2)), .int (iZ (q3))]) C Y G (c_X5_shift_bad2 l D cJ u v _ _ _ _ _ (q1) (q2) (q3) (by first | assumption | omega) (by first | assumption | omega) (by first | assumption | omega) (by first | assumption | omega) (by first | assumption | omega)) ml_L_214 rfl ⟨Nat.le_of_ble_eq_true rfl, Nat.le_of_ble_eq_true rfl⟩ ⟨by show cells + 1 + 0 ≤ 665987; omega, by show slots + 6 + 0 ≤ 7103520; omega⟩ hl (Nat.le_of_ble_eq_true rfl) rfl dL_law_828 (fun y9 H locs hy9 G => ?_)
      subst hy9
      refine lv_istore (lv' := [(6, _), (5, .int (iZ (2))), (0, .ref t), (1, .ref o), (2, .ref u), (3, .ref w), (4, .int (iZ (x)))]) C.1 C.2.1 dL_law_831 hl (by decide) rfl (fun ls hl => ?_)
      refine lv_goto (tgt := 2207) C.1 C.2.1 dL_law_833 (by decide) ?_
      exact kk _ _ _ _ _ _ _ _ _ _ _ _ G (by omega) (by omega) (lv_sub hl [2, 3, 4, 5, 6] rfl)
  · skip
    refine lv_aload_n C.1 C.2.1 dL_law_784 rfl (lv_at hl 1 rfl) ?_
    refine lv_aload_n C.1 C.2.1 dL_law_785 rfl (lv_at hl 0 rfl) ?_
    refine lv_iload C.1 C.2.1 dL_law_786 (lv_at hl 4 rfl) ?_
    refine z_iconst C dL_law_788 ?_
    refine z_iadd C dL_law_789 ?_
    refine zd_ld C Z G q1 (x.toNat + 1) e1 (by omega) (by omega) dL_law_790 ?_
    refine lv_aload_n C.1 C.2.1 dL_law_791 rfl (lv_at hl 0 rfl) ?_
    refine lv_iload C.1 C.2.1 dL_law_792 (lv_at hl 4 rfl) ?_
    refine z_iconst C dL_law_794 ?_
    refine z_iadd C dL_law_795 ?_
    refine zd_ld C Z G q2 (x.toNat + 2) e2 (by omega) (by omega) dL_law_796 ?_
    refine lv_aload_n C.1 C.2.1 dL_law_797 rfl (lv_at hl 0 rfl) ?_
    refine lv_iload C.1 C.2.1 dL_law_798 (lv_at hl 4 rfl) ?_
    refine z_iconst C dL_law_800 ?_
    refine z_iadd C dL_law_801 ?_
    refine zd_ld C Z G q3 (x.toNat + 3) e3 (by omega) (by omega) dL_law_802 ?_
    refine lv_aload_n C.1 C.2.1 dL_law_803 rfl (lv_at hl 3 rfl) ?_
    refine zd_W (as := [.ref o, .int (iZ (q1)), .int (iZ (q2)), .int (iZ (q3)), .ref w]) C Z Y G (c_L_shift_badc l hlq D cJ o a _ _ _ _ (q1) (q2) (q3) (by first | assumption | omega) (by first | assumption | omega) (by first | assumption | omega) (by first | assumption | omega) w _ _) ml_L_212 ⟨Nat.le_of_ble_eq_true rfl, Nat.le_of_ble_eq_true rfl⟩ ⟨by show cells + 0 + 1 ≤ 665987; omega, by show slots + 0 + 6 ≤ 7103520; omega⟩ hl (Nat.le_of_ble_eq_true rfl) rfl dL_law_804 (fun H locs G => ?_)
    refine lv_istore (lv' := [(5, .int (iZ (1))), (0, .ref t), (1, .ref o), (2, .ref u), (3, .ref w), (4, .int (iZ (x)))]) C.1 C.2.1 dL_law_807 hl (by decide) rfl (fun ls hl => ?_)
    refine lv_aload_n C.1 C.2.1 dL_law_809 rfl (lv_at hl 3 rfl) ?_
    refine lv_aload_n C.1 C.2.1 dL_law_810 rfl (lv_at hl 1 rfl) ?_
    refine lv_iload C.1 C.2.1 dL_law_811 (lv_at hl 5 rfl) ?_
    refine z_iconst C dL_law_813 ?_
    refine z_iadd C dL_law_814 ?_
    refine zd_ld C Z G q1 (x.toNat + 1) e1 (by omega) (by omega) dL_law_815 ?_
    refine lv_aload_n C.1 C.2.1 dL_law_816 rfl (lv_at hl 1 rfl) ?_
    refine lv_iload C.1 C.2.1 dL_law_817 (lv_at hl 5 rfl) ?_
    refine z_iconst C dL_law_819 ?_
    refine z_iadd C dL_law_820 ?_
    refine zd_ld C Z G q2 (x.toNat + 2) e2 (by omega) (by omega) dL_law_821 ?_
    refine lv_aload_n C.1 C.2.1 dL_law_822 rfl (lv_at hl 1 rfl) ?_
    refine lv_iload C.1 C.2.1 dL_law_823 (lv_at hl 5 rfl) ?_
    refine z_iconst C dL_law_825 ?_
    refine z_iadd C dL_law_826 ?_
    refine zd_ld C Z G q3 (x.toNat + 3) e3 (by omega) (by omega) dL_law_827 ?_
    refine zd_M (as := [.int (iZ (q1)), .int (iZ (q2)), .int (iZ (q3))]) C Y G (c_X5_shift_bad1 l D cJ u v _ _ _ _ _ (q1) (q2) (q3) (by first | assumption | omega) (by first | assumption | omega) (by first | assumption | omega) (by first | assumption | omega)) ml_L_214 rfl ⟨Nat.le_of_ble_eq_true rfl, Nat.le_of_ble_eq_true rfl⟩ ⟨by show cells + 1 + 0 ≤ 665987; omega, by show slots + 6 + 0 ≤ 7103520; omega⟩ hl (Nat.le_of_ble_eq_true rfl) rfl dL_law_828 (fun y9 H locs hy9 G => ?_)
    subst hy9
    refine lv_istore (lv' := [(6, _), (5, .int (iZ (1))), (0, .ref t), (1, .ref o), (2, .ref u), (3, .ref w), (4, .int (iZ (x)))]) C.1 C.2.1 dL_law_831 hl (by decide) rfl (fun ls hl => ?_)
    refine lv_goto (tgt := 2207) C.1 C.2.1 dL_law_833 (by decide) ?_
    exact kk _ _ _ _ _ _ _ _ _ _ _ _ G (by omega) (by omega) (lv_sub hl [2, 3, 4, 5, 6] rfl)
set_option maxHeartbeats 4000000 in
set_option maxRecDepth 100000 in
theorem lk_11 (hlq : l.stackTraces = false) (C : CallFix p m c0 cL_law 7 s args T0 RL) (Z : zLw D cB t N g s) (Y : zAd o a u v w s) {c : Nat → Nat} {ac re kn : Int32} {th : Int} {n : Int64} {sv : Value} {H : Heap} {locs : List Loc} {ls : Array Slot} {cells slots : Nat} (G : zG D cJ o a u v w c [.int ac, .int re, .int kn] c [.int (iZ th), .int ac, .int re, .int kn] n sv s H locs) (x : Int) (hx : 0 ≤ x ∧ x + 5 ≤ (N : Int)) (hf : cells + 150 ≤ 665987 ∧ slots + 75000 ≤ 7103520) (hl : lv_has ls 7 [(0, .ref t), (1, .ref o), (2, .ref u), (3, .ref w), (4, .int (iZ (x)))])
    (kk : zNx p l e s m args below meth c0 D cJ t o a u v w x cells slots Qw 2207) : W p l e room_1 s m args below meth c0 H locs cells slots Qw (F0 m 836 ls []) := by
  have hc := G.1.2.2.2
  obtain ⟨q1, e1⟩ : ∃ z, g (x.toNat + 1) = z := ⟨_, rfl⟩
  have r1 : -2147483648 ≤ q1 ∧ q1 ≤ 2147483647 := e1 ▸ Z.2.2.2.2.2.1 _
  obtain ⟨q2, e2⟩ : ∃ z, g (x.toNat + 2) = z := ⟨_, rfl⟩
  have r2 : -2147483648 ≤ q2 ∧ q2 ≤ 2147483647 := e2 ▸ Z.2.2.2.2.2.1 _
  obtain ⟨q3, e3⟩ : ∃ z, g (x.toNat + 3) = z := ⟨_, rfl⟩
  have r3 : -2147483648 ≤ q3 ∧ q3 ≤ 2147483647 := e3 ▸ Z.2.2.2.2.2.1 _
  by_cases hcel : (0 ≤ q1 ∧ q1 ≤ 5) ∧ (0 ≤ q2 ∧ q2 ≤ 5) ∧ (0 ≤ q3 ∧ q3 ≤ 5)
  · skip
    refine lv_aload_n C.1 C.2.1 dL_law_836 rfl (lv_at hl 1 rfl) ?_
    refine lv_aload_n C.1 C.2.1 dL_law_837 rfl (lv_at hl 0 rfl) ?_
    refine lv_iload C.1 C.2.1 dL_law_838 (lv_at hl 4 rfl) ?_
    refine z_iconst C dL_law_840 ?_
    refine z_iadd C dL_law_841 ?_
    refine zd_ld C Z G q1 (x.toNat + 1) e1 (by omega) (by omega) dL_law_842 ?_
    refine lv_aload_n C.1 C.2.1 dL_law_843 rfl (lv_at hl 0 rfl) ?_
    refine lv_iload C.1 C.2.1 dL_law_844 (lv_at hl 4 rfl) ?_
    refine z_iconst C dL_law_846 ?_
    refine z_iadd C dL_law_847 ?_
    refine zd_ld C Z G q2 (x.toNat + 2) e2 (by omega) (by omega) dL_law_848 ?_
    refine lv_aload_n C.1 C.2.1 dL_law_849 rfl (lv_at hl 0 rfl) ?_
    refine lv_iload C.1 C.2.1 dL_law_850 (lv_at hl 4 rfl) ?_
    refine z_iconst C dL_law_852 ?_
    refine z_iadd C dL_law_853 ?_
    refine zd_ld C Z G q3 (x.toNat + 3) e3 (by omega) (by omega) dL_law_854 ?_
    refine lv_aload_n C.1 C.2.1 dL_law_855 rfl (lv_at hl 3 rfl) ?_
    refine zd_W (as := [.ref o, .int (iZ (q1)), .int (iZ (q2)), .int (iZ (q3)), .ref w]) C Z Y G (c_L_quotient l D cJ o a _ _ _ _ (q1) (q2) (q3) (by first | assumption | omega) (by first | assumption | omega) (by first | assumption | omega) w _ _) ml_L_215 ⟨Nat.le_of_ble_eq_true rfl, Nat.le_of_ble_eq_true rfl⟩ ⟨by show cells + 0 + 0 ≤ 665987; omega, by show slots + 0 + 0 ≤ 7103520; omega⟩ hl (Nat.le_of_ble_eq_true rfl) rfl dL_law_856 (fun H locs G => ?_)
    refine lv_istore (lv' := [(5, .int (iZ (0))), (0, .ref t), (1, .ref o), (2, .ref u), (3, .ref w), (4, .int (iZ (x)))]) C.1 C.2.1 dL_law_859 hl (by decide) rfl (fun ls hl => ?_)
    refine lv_aload_n C.1 C.2.1 dL_law_861 rfl (lv_at hl 3 rfl) ?_
    refine lv_aload_n C.1 C.2.1 dL_law_862 rfl (lv_at hl 1 rfl) ?_
    refine lv_iload C.1 C.2.1 dL_law_863 (lv_at hl 5 rfl) ?_
    refine z_iconst C dL_law_865 ?_
    refine z_iadd C dL_law_866 ?_
    refine zd_ld C Z G q1 (x.toNat + 1) e1 (by omega) (by omega) dL_law_867 ?_
    refine lv_aload_n C.1 C.2.1 dL_law_868 rfl (lv_at hl 1 rfl) ?_
    refine lv_iload C.1 C.2.1 dL_law_869 (lv_at hl 5 rfl) ?_
    refine z_iconst C dL_law_871 ?_
    refine z_iadd C dL_law_872 ?_
    refine zd_ld C Z G q2 (x.toNat + 2) e2 (by omega) (by omega) dL_law_873 ?_
    refine lv_aload_n C.1 C.2.1 dL_law_874 rfl (lv_at hl 1 rfl) ?_
    refine lv_iload C.1 C.2.1 dL_law_875 (lv_at hl 5 rfl) ?_
    refine z_iconst C dL_law_877 ?_
    refine z_iadd C dL_law_878 ?_
    refine zd_ld C Z G q3 (x.toNat + 3) e3 (by omega) (by omega) dL_law_879 ?_
    refine zd_M (as := [.int (iZ (q1)), .int (iZ (q2)), .int (iZ (q3))]) C Y G (c_X5_quotient l D cJ u v _ _ _ _ _ (q1) (q2) (q3) (by first | assumption | omega) (by first | assumption | omega) (by first | assumption | omega)) ml_L_217 rfl ⟨Nat.le_of_ble_eq_true rfl, Nat.le_of_ble_eq_true rfl⟩ ⟨by show cells + 0 + 0 ≤ 665987; omega, by show slots + 0 + 0 ≤ 7103520; omega⟩ hl (Nat.le_of_ble_eq_true rfl) rfl dL_law_880 (fun y9 H locs hy9 G => ?_)
    subst hy9
    refine lv_istore (lv' := [(6, _), (5, .int (iZ (0))), (0, .ref t), (1, .ref o), (2, .ref u), (3, .ref w), (4, .int (iZ (x)))]) C.1 C.2.1 dL_law_883 hl (by decide) rfl (fun ls hl => ?_)
    refine lv_goto (tgt := 2207) C.1 C.2.1 dL_law_885 (by decide) ?_
    exact kk _ _ _ _ _ _ _ _ _ _ _ _ G (by omega) (by omega) (lv_sub hl [2, 3, 4, 5, 6] rfl)
  · skip
    refine lv_aload_n C.1 C.2.1 dL_law_836 rfl (lv_at hl 1 rfl) ?_
    refine lv_aload_n C.1 C.2.1 dL_law_837 rfl (lv_at hl 0 rfl) ?_
    refine lv_iload C.1 C.2.1 dL_law_838 (lv_at hl 4 rfl) ?_
    refine z_iconst C dL_law_840 ?_
    refine z_iadd C dL_law_841 ?_
    refine zd_ld C Z G q1 (x.toNat + 1) e1 (by omega) (by omega) dL_law_842 ?_
    refine lv_aload_n C.1 C.2.1 dL_law_843 rfl (lv_at hl 0 rfl) ?_
    refine lv_iload C.1 C.2.1 dL_law_844 (lv_at hl 4 rfl) ?_
    refine z_iconst C dL_law_846 ?_
    refine z_iadd C dL_law_847 ?_
    refine zd_ld C Z G q2 (x.toNat + 2) e2 (by omega) (by omega) dL_law_848 ?_
    refine lv_aload_n C.1 C.2.1 dL_law_849 rfl (lv_at hl 0 rfl) ?_
    refine lv_iload C.1 C.2.1 dL_law_850 (lv_at hl 4 rfl) ?_
    refine z_iconst C dL_law_852 ?_
    refine z_iadd C dL_law_853 ?_
    refine zd_ld C Z G q3 (x.toNat + 3) e3 (by omega) (by omega) dL_law_854 ?_
    refine lv_aload_n C.1 C.2.1 dL_law_855 rfl (lv_at hl 3 rfl) ?_
    refine zd_W (as := [.ref o, .int (iZ (q1)), .int (iZ (q2)), .int (iZ (q3)), .ref w]) C Z Y G (c_L_quotient_badc l hlq D cJ o a _ _ _ _ (q1) (q2) (q3) (by first | assumption | omega) (by first | assumption | omega) (by first | assumption | omega) (by first | assumption | omega) w _ _) ml_L_215 ⟨Nat.le_of_ble_eq_true rfl, Nat.le_of_ble_eq_true rfl⟩ ⟨by show cells + 0 + 1 ≤ 665987; omega, by show slots + 0 + 6 ≤ 7103520; omega⟩ hl (Nat.le_of_ble_eq_true rfl) rfl dL_law_856 (fun H locs G => ?_)
    refine lv_istore (lv' := [(5, .int (iZ (1))), (0, .ref t), (1, .ref o), (2, .ref u), (3, .ref w), (4, .int (iZ (x)))]) C.1 C.2.1 dL_law_859 hl (by decide) rfl (fun ls hl => ?_)
    refine lv_aload_n C.1 C.2.1 dL_law_861 rfl (lv_at hl 3 rfl) ?_
    refine lv_aload_n C.1 C.2.1 dL_law_862 rfl (lv_at hl 1 rfl) ?_
    refine lv_iload C.1 C.2.1 dL_law_863 (lv_at hl 5 rfl) ?_
    refine z_iconst C dL_law_865 ?_
    refine z_iadd C dL_law_866 ?_
    refine zd_ld C Z G q1 (x.toNat + 1) e1 (by omega) (by omega) dL_law_867 ?_
    refine lv_aload_n C.1 C.2.1 dL_law_868 rfl (lv_at hl 1 rfl) ?_
    refine lv_iload C.1 C.2.1 dL_law_869 (lv_at hl 5 rfl) ?_
    refine z_iconst C dL_law_871 ?_
    refine z_iadd C dL_law_872 ?_
    refine zd_ld C Z G q2 (x.toNat + 2) e2 (by omega) (by omega) dL_law_873 ?_
    refine lv_aload_n C.1 C.2.1 dL_law_874 rfl (lv_at hl 1 rfl) ?_
    refine lv_iload C.1 C.2.1 dL_law_875 (lv_at hl 5 rfl) ?_
    refine z_iconst C dL_law_877 ?_
    refine z_iadd C dL_law_878 ?_
    refine zd_ld C Z G q3 (x.toNat + 3) e3 (by omega) (by omega) dL_law_879 ?_
    refine zd_M (as := [.int (iZ (q1)), .int (iZ (q2)), .int (iZ (q3))]) C Y G (c_X5_quotient_bad1 l D cJ u v _ _ _ _ _ (q1) (q2) (q3) (by first | assumption | omega) (by first | assumption | omega) (by first | assumption | omega) (by first | assumption | omega)) ml_L_217 rfl ⟨Nat.le_of_ble_eq_true rfl, Nat.le_of_ble_eq_true rfl⟩ ⟨by show cells + 1 + 0 ≤ 665987; omega, by show slots + 6 + 0 ≤ 7103520; omega⟩ hl (Nat.le_of_ble_eq_true rfl) rfl dL_law_880 (fun y9 H locs hy9 G => ?_)
    subst hy9
    refine lv_istore (lv' := [(6, _), (5, .int (iZ (1))), (0, .ref t), (1, .ref o), (2, .ref u), (3, .ref w), (4, .int (iZ (x)))]) C.1 C.2.1 dL_law_883 hl (by decide) rfl (fun ls hl => ?_)
    refine lv_goto (tgt := 2207) C.1 C.2.1 dL_law_885 (by decide) ?_
    exact kk _ _ _ _ _ _ _ _ _ _ _ _ G (by omega) (by omega) (lv_sub hl [2, 3, 4, 5, 6] rfl)
set_option maxHeartbeats 4000000 in
set_option maxRecDepth 100000 in
theorem lk_12 (hlq : l.stackTraces = false) (C : CallFix p m c0 cL_law 7 s args T0 RL) (Z : zLw D cB t N g s) (Y : zAd o a u v w s) {c : Nat → Nat} {ac re kn : Int32} {th : Int} {n : Int64} {sv : Value} {H : Heap} {locs : List Loc} {ls : Array Slot} {cells slots : Nat} (G : zG D cJ o a u v w c [.int ac, .int re, .int kn] c [.int (iZ th), .int ac, .int re, .int kn] n sv s H locs) (x : Int) (hx : 0 ≤ x ∧ x + 5 ≤ (N : Int)) (hf : cells + 150 ≤ 665987 ∧ slots + 75000 ≤ 7103520) (hl : lv_has ls 7 [(0, .ref t), (1, .ref o), (2, .ref u), (3, .ref w), (4, .int (iZ (x)))])
    (kk : zNx p l e s m args below meth c0 D cJ t o a u v w x cells slots Qw 2207) : W p l e room_1 s m args below meth c0 H locs cells slots Qw (F0 m 888 ls []) := by
  have hc := G.1.2.2.2
  obtain ⟨q1, e1⟩ : ∃ z, g (x.toNat + 1) = z := ⟨_, rfl⟩
  have r1 : -2147483648 ≤ q1 ∧ q1 ≤ 2147483647 := e1 ▸ Z.2.2.2.2.2.1 _
  obtain ⟨q2, e2⟩ : ∃ z, g (x.toNat + 2) = z := ⟨_, rfl⟩
  have r2 : -2147483648 ≤ q2 ∧ q2 ≤ 2147483647 := e2 ▸ Z.2.2.2.2.2.1 _
  obtain ⟨q3, e3⟩ : ∃ z, g (x.toNat + 3) = z := ⟨_, rfl⟩
  have r3 : -2147483648 ≤ q3 ∧ q3 ≤ 2147483647 := e3 ▸ Z.2.2.2.2.2.1 _
  by_cases hcel : (0 ≤ q1 ∧ q1 ≤ 5) ∧ (0 ≤ q2 ∧ q2 ≤ 5) ∧ (0 ≤ q3 ∧ q3 ≤ 5)
  · skip
    refine lv_aload_n C.1 C.2.1 dL_law_888 rfl (lv_at hl 1 rfl) ?_
    refine lv_aload_n C.1 C.2.1 dL_law_889 rfl (lv_at hl 0 rfl) ?_
    refine lv_iload C.1 C.2.1 dL_law_890 (lv_at hl 4 rfl) ?_
    refine z_iconst C dL_law_892 ?_
    refine z_iadd C dL_law_893 ?_
    refine zd_ld C Z G q1 (x.toNat + 1) e1 (by omega) (by omega) dL_law_894 ?_
    refine lv_aload_n C.1 C.2.1 dL_law_895 rfl (lv_at hl 0 rfl) ?_
    refine lv_iload C.1 C.2.1 dL_law_896 (lv_at hl 4 rfl) ?_
    refine z_iconst C dL_law_898 ?_
    refine z_iadd C dL_law_899 ?_
    refine zd_ld C Z G q2 (x.toNat + 2) e2 (by omega) (by omega) dL_law_900 ?_
    refine lv_aload_n C.1 C.2.1 dL_law_901 rfl (lv_at hl 0 rfl) ?_
    refine lv_iload C.1 C.2.1 dL_law_902 (lv_at hl 4 rfl) ?_
    refine z_iconst C dL_law_904 ?_
    refine z_iadd C dL_law_905 ?_
    refine zd_ld C Z G q3 (x.toNat + 3) e3 (by omega) (by omega) dL_law_906 ?_
    refine lv_aload_n C.1 C.2.1 dL_law_907 rfl (lv_at hl 3 rfl) ?_
    refine zd_W (as := [.ref o, .int (iZ (q1)), .int (iZ (q2)), .int (iZ (q3)), .ref w]) C Z Y G (c_L_rest l D cJ o a _ _ _ _ (q1) (q2) (q3) (by first | assumption | omega) (by first | assumption | omega) (by first | assumption | omega) w _ _) ml_L_218 ⟨Nat.le_of_ble_eq_true rfl, Nat.le_of_ble_eq_true rfl⟩ ⟨by show cells + 0 + 0 ≤ 665987; omega, by show slots + 0 + 0 ≤ 7103520; omega⟩ hl (Nat.le_of_ble_eq_true rfl) rfl dL_law_908 (fun H locs G => ?_)
    refine lv_istore (lv' := [(5, .int (iZ (0))), (0, .ref t), (1, .ref o), (2, .ref u), (3, .ref w), (4, .int (iZ (x)))]) C.1 C.2.1 dL_law_911 hl (by decide) rfl (fun ls hl => ?_)
    refine lv_aload_n C.1 C.2.1 dL_law_913 rfl (lv_at hl 3 rfl) ?_
    refine lv_aload_n C.1 C.2.1 dL_law_914 rfl (lv_at hl 1 rfl) ?_
    refine lv_iload C.1 C.2.1 dL_law_915 (lv_at hl 5 rfl) ?_
    refine z_iconst C dL_law_917 ?_
    refine z_iadd C dL_law_918 ?_
    refine zd_ld C Z G q1 (x.toNat + 1) e1 (by omega) (by omega) dL_law_919 ?_
    refine lv_aload_n C.1 C.2.1 dL_law_920 rfl (lv_at hl 1 rfl) ?_
    refine lv_iload C.1 C.2.1 dL_law_921 (lv_at hl 5 rfl) ?_
    refine z_iconst C dL_law_923 ?_
    refine z_iadd C dL_law_924 ?_
    refine zd_ld C Z G q2 (x.toNat + 2) e2 (by omega) (by omega) dL_law_925 ?_
    refine lv_aload_n C.1 C.2.1 dL_law_926 rfl (lv_at hl 1 rfl) ?_
    refine lv_iload C.1 C.2.1 dL_law_927 (lv_at hl 5 rfl) ?_
    refine z_iconst C dL_law_929 ?_
    refine z_iadd C dL_law_930 ?_
    refine zd_ld C Z G q3 (x.toNat + 3) e3 (by omega) (by omega) dL_law_931 ?_
    refine zd_M (as := [.int (iZ (q1)), .int (iZ (q2)), .int (iZ (q3))]) C Y G (c_X5_rest l D cJ u v _ _ _ _ _ (q1) (q2) (q3) (by first | assumption | omega) (by first | assumption | omega) (by first | assumption | omega)) ml_L_220 rfl ⟨Nat.le_of_ble_eq_true rfl, Nat.le_of_ble_eq_true rfl⟩ ⟨by show cells + 0 + 0 ≤ 665987; omega, by show slots + 0 + 0 ≤ 7103520; omega⟩ hl (Nat.le_of_ble_eq_true rfl) rfl dL_law_932 (fun y9 H locs hy9 G => ?_)
    subst hy9
    refine lv_istore (lv' := [(6, _), (5, .int (iZ (0))), (0, .ref t), (1, .ref o), (2, .ref u), (3, .ref w), (4, .int (iZ (x)))]) C.1 C.2.1 dL_law_935 hl (by decide) rfl (fun ls hl => ?_)
    refine lv_goto (tgt := 2207) C.1 C.2.1 dL_law_937 (by decide) ?_
    exact kk _ _ _ _ _ _ _ _ _ _ _ _ G (by omega) (by omega) (lv_sub hl [2, 3, 4, 5, 6] rfl)
  · skip
    refine lv_aload_n C.1 C.2.1 dL_law_888 rfl (lv_at hl 1 rfl) ?_
    refine lv_aload_n C.1 C.2.1 dL_law_889 rfl (lv_at hl 0 rfl) ?_
    refine lv_iload C.1 C.2.1 dL_law_890 (lv_at hl 4 rfl) ?_
    refine z_iconst C dL_law_892 ?_
    refine z_iadd C dL_law_893 ?_
    refine zd_ld C Z G q1 (x.toNat + 1) e1 (by omega) (by omega) dL_law_894 ?_
    refine lv_aload_n C.1 C.2.1 dL_law_895 rfl (lv_at hl 0 rfl) ?_
    refine lv_iload C.1 C.2.1 dL_law_896 (lv_at hl 4 rfl) ?_
    refine z_iconst C dL_law_898 ?_
    refine z_iadd C dL_law_899 ?_
    refine zd_ld C Z G q2 (x.toNat + 2) e2 (by omega) (by omega) dL_law_900 ?_
    refine lv_aload_n C.1 C.2.1 dL_law_901 rfl (lv_at hl 0 rfl) ?_
    refine lv_iload C.1 C.2.1 dL_law_902 (lv_at hl 4 rfl) ?_
    refine z_iconst C dL_law_904 ?_
    refine z_iadd C dL_law_905 ?_
    refine zd_ld C Z G q3 (x.toNat + 3) e3 (by omega) (by omega) dL_law_906 ?_
    refine lv_aload_n C.1 C.2.1 dL_law_907 rfl (lv_at hl 3 rfl) ?_
    refine zd_W (as := [.ref o, .int (iZ (q1)), .int (iZ (q2)), .int (iZ (q3)), .ref w]) C Z Y G (c_L_rest_badc l hlq D cJ o a _ _ _ _ (q1) (q2) (q3) (by first | assumption | omega) (by first | assumption | omega) (by first | assumption | omega) (by first | assumption | omega) w _ _) ml_L_218 ⟨Nat.le_of_ble_eq_true rfl, Nat.le_of_ble_eq_true rfl⟩ ⟨by show cells + 0 + 1 ≤ 665987; omega, by show slots + 0 + 6 ≤ 7103520; omega⟩ hl (Nat.le_of_ble_eq_true rfl) rfl dL_law_908 (fun H locs G => ?_)
    refine lv_istore (lv' := [(5, .int (iZ (1))), (0, .ref t), (1, .ref o), (2, .ref u), (3, .ref w), (4, .int (iZ (x)))]) C.1 C.2.1 dL_law_911 hl (by decide) rfl (fun ls hl => ?_)
    refine lv_aload_n C.1 C.2.1 dL_law_913 rfl (lv_at hl 3 rfl) ?_
    refine lv_aload_n C.1 C.2.1 dL_law_914 rfl (lv_at hl 1 rfl) ?_
    refine lv_iload C.1 C.2.1 dL_law_915 (lv_at hl 5 rfl) ?_
    refine z_iconst C dL_law_917 ?_
    refine z_iadd C dL_law_918 ?_
    refine zd_ld C Z G q1 (x.toNat + 1) e1 (by omega) (by omega) dL_law_919 ?_
    refine lv_aload_n C.1 C.2.1 dL_law_920 rfl (lv_at hl 1 rfl) ?_
    refine lv_iload C.1 C.2.1 dL_law_921 (lv_at hl 5 rfl) ?_
    refine z_iconst C dL_law_923 ?_
    refine z_iadd C dL_law_924 ?_
    refine zd_ld C Z G q2 (x.toNat + 2) e2 (by omega) (by omega) dL_law_925 ?_
    refine lv_aload_n C.1 C.2.1 dL_law_926 rfl (lv_at hl 1 rfl) ?_
    refine lv_iload C.1 C.2.1 dL_law_927 (lv_at hl 5 rfl) ?_
    refine z_iconst C dL_law_929 ?_
    refine z_iadd C dL_law_930 ?_
    refine zd_ld C Z G q3 (x.toNat + 3) e3 (by omega) (by omega) dL_law_931 ?_
    refine zd_M (as := [.int (iZ (q1)), .int (iZ (q2)), .int (iZ (q3))]) C Y G (c_X5_rest_bad1 l D cJ u v _ _ _ _ _ (q1) (q2) (q3) (by first | assumption | omega) (by first | assumption | omega) (by first | assumption | omega) (by first | assumption | omega)) ml_L_220 rfl ⟨Nat.le_of_ble_eq_true rfl, Nat.le_of_ble_eq_true rfl⟩ ⟨by show cells + 1 + 0 ≤ 665987; omega, by show slots + 6 + 0 ≤ 7103520; omega⟩ hl (Nat.le_of_ble_eq_true rfl) rfl dL_law_932 (fun y9 H locs hy9 G => ?_)
    subst hy9
    refine lv_istore (lv' := [(6, _), (5, .int (iZ (1))), (0, .ref t), (1, .ref o), (2, .ref u), (3, .ref w), (4, .int (iZ (x)))]) C.1 C.2.1 dL_law_935 hl (by decide) rfl (fun ls hl => ?_)
    refine lv_goto (tgt := 2207) C.1 C.2.1 dL_law_937 (by decide) ?_
    exact kk _ _ _ _ _ _ _ _ _ _ _ _ G (by omega) (by omega) (lv_sub hl [2, 3, 4, 5, 6] rfl)
set_option maxHeartbeats 4000000 in
set_option maxRecDepth 100000 in
theorem lk_13 (hlq : l.stackTraces = false) (C : CallFix p m c0 cL_law 7 s args T0 RL) (Z : zLw D cB t N g s) (Y : zAd o a u v w s) {c : Nat → Nat} {ac re kn : Int32} {th : Int} {n : Int64} {sv : Value} {H : Heap} {locs : List Loc} {ls : Array Slot} {cells slots : Nat} (G : zG D cJ o a u v w c [.int ac, .int re, .int kn] c [.int (iZ th), .int ac, .int re, .int kn] n sv s H locs) (x : Int) (hx : 0 ≤ x ∧ x + 5 ≤ (N : Int)) (hf : cells + 150 ≤ 665987 ∧ slots + 75000 ≤ 7103520) (hl : lv_has ls 7 [(0, .ref t), (1, .ref o), (2, .ref u), (3, .ref w), (4, .int (iZ (x)))])
    (kk : zNx p l e s m args below meth c0 D cJ t o a u v w x cells slots Qw 2207) : W p l e room_1 s m args below meth c0 H locs cells slots Qw (F0 m 940 ls []) := by
  have hc := G.1.2.2.2
  obtain ⟨q1, e1⟩ : ∃ z, g (x.toNat + 1) = z := ⟨_, rfl⟩
  have r1 : -2147483648 ≤ q1 ∧ q1 ≤ 2147483647 := e1 ▸ Z.2.2.2.2.2.1 _
  obtain ⟨q2, e2⟩ : ∃ z, g (x.toNat + 2) = z := ⟨_, rfl⟩
  have r2 : -2147483648 ≤ q2 ∧ q2 ≤ 2147483647 := e2 ▸ Z.2.2.2.2.2.1 _
  obtain ⟨q3, e3⟩ : ∃ z, g (x.toNat + 3) = z := ⟨_, rfl⟩
  have r3 : -2147483648 ≤ q3 ∧ q3 ≤ 2147483647 := e3 ▸ Z.2.2.2.2.2.1 _
  by_cases hcel : (0 ≤ q1 ∧ q1 ≤ 5) ∧ (0 ≤ q2 ∧ q2 ≤ 5) ∧ (0 ≤ q3 ∧ q3 ≤ 5)
  · skip
    refine lv_aload_n C.1 C.2.1 dL_law_940 rfl (lv_at hl 1 rfl) ?_
    refine lv_aload_n C.1 C.2.1 dL_law_941 rfl (lv_at hl 0 rfl) ?_
    refine lv_iload C.1 C.2.1 dL_law_942 (lv_at hl 4 rfl) ?_
    refine z_iconst C dL_law_944 ?_
    refine z_iadd C dL_law_945 ?_
    refine zd_ld C Z G q1 (x.toNat + 1) e1 (by omega) (by omega) dL_law_946 ?_
    refine lv_aload_n C.1 C.2.1 dL_law_947 rfl (lv_at hl 0 rfl) ?_
    refine lv_iload C.1 C.2.1 dL_law_948 (lv_at hl 4 rfl) ?_
    refine z_iconst C dL_law_950 ?_
    refine z_iadd C dL_law_951 ?_
    refine zd_ld C Z G q2 (x.toNat + 2) e2 (by omega) (by omega) dL_law_952 ?_
    refine lv_aload_n C.1 C.2.1 dL_law_953 rfl (lv_at hl 0 rfl) ?_
    refine lv_iload C.1 C.2.1 dL_law_954 (lv_at hl 4 rfl) ?_
    refine z_iconst C dL_law_956 ?_
    refine z_iadd C dL_law_957 ?_
    refine zd_ld C Z G q3 (x.toNat + 3) e3 (by omega) (by omega) dL_law_958 ?_
    refine lv_aload_n C.1 C.2.1 dL_law_959 rfl (lv_at hl 3 rfl) ?_
    refine zd_W (as := [.ref o, .int (iZ (q1)), .int (iZ (q2)), .int (iZ (q3)), .ref w]) C Z Y G (c_L_gcd l D cJ o a _ _ _ _ (q1) (q2) (q3) (by first | assumption | omega) (by first | assumption | omega) (by first | assumption | omega) w _ _) ml_L_221 ⟨Nat.le_of_ble_eq_true rfl, Nat.le_of_ble_eq_true rfl⟩ ⟨by show cells + 0 + 0 ≤ 665987; omega, by show slots + 0 + 0 ≤ 7103520; omega⟩ hl (Nat.le_of_ble_eq_true rfl) rfl dL_law_960 (fun H locs G => ?_)
    refine lv_istore (lv' := [(5, .int (iZ (0))), (0, .ref t), (1, .ref o), (2, .ref u), (3, .ref w), (4, .int (iZ (x)))]) C.1 C.2.1 dL_law_963 hl (by decide) rfl (fun ls hl => ?_)
    refine lv_aload_n C.1 C.2.1 dL_law_965 rfl (lv_at hl 3 rfl) ?_
    refine lv_aload_n C.1 C.2.1 dL_law_966 rfl (lv_at hl 1 rfl) ?_
    refine lv_iload C.1 C.2.1 dL_law_967 (lv_at hl 5 rfl) ?_
    refine z_iconst C dL_law_969 ?_
    refine z_iadd C dL_law_970 ?_
    refine zd_ld C Z G q1 (x.toNat + 1) e1 (by omega) (by omega) dL_law_971 ?_
    refine lv_aload_n C.1 C.2.1 dL_law_972 rfl (lv_at hl 1 rfl) ?_
    refine lv_iload C.1 C.2.1 dL_law_973 (lv_at hl 5 rfl) ?_
    refine z_iconst C dL_law_975 ?_
    refine z_iadd C dL_law_976 ?_
    refine zd_ld C Z G q2 (x.toNat + 2) e2 (by omega) (by omega) dL_law_977 ?_
    refine lv_aload_n C.1 C.2.1 dL_law_978 rfl (lv_at hl 1 rfl) ?_
    refine lv_iload C.1 C.2.1 dL_law_979 (lv_at hl 5 rfl) ?_
    refine z_iconst C dL_law_981 ?_
    refine z_iadd C dL_law_982 ?_
    refine zd_ld C Z G q3 (x.toNat + 3) e3 (by omega) (by omega) dL_law_983 ?_
    refine zd_M (as := [.int (iZ (q1)), .int (iZ (q2)), .int (iZ (q3))]) C Y G (c_X5_gcd l D cJ u v _ _ _ _ _ (q1) (q2) (q3) (by first | assumption | omega) (by first | assumption | omega) (by first | assumption | omega)) ml_L_223 rfl ⟨Nat.le_of_ble_eq_true rfl, Nat.le_of_ble_eq_true rfl⟩ ⟨by show cells + 0 + 0 ≤ 665987; omega, by show slots + 0 + 0 ≤ 7103520; omega⟩ hl (Nat.le_of_ble_eq_true rfl) rfl dL_law_984 (fun y9 H locs hy9 G => ?_)
    subst hy9
    refine lv_istore (lv' := [(6, _), (5, .int (iZ (0))), (0, .ref t), (1, .ref o), (2, .ref u), (3, .ref w), (4, .int (iZ (x)))]) C.1 C.2.1 dL_law_987 hl (by decide) rfl (fun ls hl => ?_)
    refine lv_goto (tgt := 2207) C.1 C.2.1 dL_law_989 (by decide) ?_
    exact kk _ _ _ _ _ _ _ _ _ _ _ _ G (by omega) (by omega) (lv_sub hl [2, 3, 4, 5, 6] rfl)
  · skip
    refine lv_aload_n C.1 C.2.1 dL_law_940 rfl (lv_at hl 1 rfl) ?_
    refine lv_aload_n C.1 C.2.1 dL_law_941 rfl (lv_at hl 0 rfl) ?_
    refine lv_iload C.1 C.2.1 dL_law_942 (lv_at hl 4 rfl) ?_
    refine z_iconst C dL_law_944 ?_
    refine z_iadd C dL_law_945 ?_
    refine zd_ld C Z G q1 (x.toNat + 1) e1 (by omega) (by omega) dL_law_946 ?_
    refine lv_aload_n C.1 C.2.1 dL_law_947 rfl (lv_at hl 0 rfl) ?_
    refine lv_iload C.1 C.2.1 dL_law_948 (lv_at hl 4 rfl) ?_
    refine z_iconst C dL_law_950 ?_
    refine z_iadd C dL_law_951 ?_
    refine zd_ld C Z G q2 (x.toNat + 2) e2 (by omega) (by omega) dL_law_952 ?_
    refine lv_aload_n C.1 C.2.1 dL_law_953 rfl (lv_at hl 0 rfl) ?_
    refine lv_iload C.1 C.2.1 dL_law_954 (lv_at hl 4 rfl) ?_
    refine z_iconst C dL_law_956 ?_
    refine z_iadd C dL_law_957 ?_
    refine zd_ld C Z G q3 (x.toNat + 3) e3 (by omega) (by omega) dL_law_958 ?_
    refine lv_aload_n C.1 C.2.1 dL_law_959 rfl (lv_at hl 3 rfl) ?_
    refine zd_W (as := [.ref o, .int (iZ (q1)), .int (iZ (q2)), .int (iZ (q3)), .ref w]) C Z Y G (c_L_gcd_badc l hlq D cJ o a _ _ _ _ (q1) (q2) (q3) (by first | assumption | omega) (by first | assumption | omega) (by first | assumption | omega) (by first | assumption | omega) w _ _) ml_L_221 ⟨Nat.le_of_ble_eq_true rfl, Nat.le_of_ble_eq_true rfl⟩ ⟨by show cells + 0 + 1 ≤ 665987; omega, by show slots + 0 + 6 ≤ 7103520; omega⟩ hl (Nat.le_of_ble_eq_true rfl) rfl dL_law_960 (fun H locs G => ?_)
    refine lv_istore (lv' := [(5, .int (iZ (1))), (0, .ref t), (1, .ref o), (2, .ref u), (3, .ref w), (4, .int (iZ (x)))]) C.1 C.2.1 dL_law_963 hl (by decide) rfl (fun ls hl => ?_)
    refine lv_aload_n C.1 C.2.1 dL_law_965 rfl (lv_at hl 3 rfl) ?_
    refine lv_aload_n C.1 C.2.1 dL_law_966 rfl (lv_at hl 1 rfl) ?_
    refine lv_iload C.1 C.2.1 dL_law_967 (lv_at hl 5 rfl) ?_
    refine z_iconst C dL_law_969 ?_
    refine z_iadd C dL_law_970 ?_
    refine zd_ld C Z G q1 (x.toNat + 1) e1 (by omega) (by omega) dL_law_971 ?_
    refine lv_aload_n C.1 C.2.1 dL_law_972 rfl (lv_at hl 1 rfl) ?_
    refine lv_iload C.1 C.2.1 dL_law_973 (lv_at hl 5 rfl) ?_
    refine z_iconst C dL_law_975 ?_
    refine z_iadd C dL_law_976 ?_
    refine zd_ld C Z G q2 (x.toNat + 2) e2 (by omega) (by omega) dL_law_977 ?_
    refine lv_aload_n C.1 C.2.1 dL_law_978 rfl (lv_at hl 1 rfl) ?_
    refine lv_iload C.1 C.2.1 dL_law_979 (lv_at hl 5 rfl) ?_
    refine z_iconst C dL_law_981 ?_
    refine z_iadd C dL_law_982 ?_
    refine zd_ld C Z G q3 (x.toNat + 3) e3 (by omega) (by omega) dL_law_983 ?_
    refine zd_M (as := [.int (iZ (q1)), .int (iZ (q2)), .int (iZ (q3))]) C Y G (c_X5_gcd_bad1 l D cJ u v _ _ _ _ _ (q1) (q2) (q3) (by first | assumption | omega) (by first | assumption | omega) (by first | assumption | omega) (by first | assumption | omega)) ml_L_223 rfl ⟨Nat.le_of_ble_eq_true rfl, Nat.le_of_ble_eq_true rfl⟩ ⟨by show cells + 1 + 0 ≤ 665987; omega, by show slots + 6 + 0 ≤ 7103520; omega⟩ hl (Nat.le_of_ble_eq_true rfl) rfl dL_law_984 (fun y9 H locs hy9 G => ?_)
    subst hy9
    refine lv_istore (lv' := [(6, _), (5, .int (iZ (1))), (0, .ref t), (1, .ref o), (2, .ref u), (3, .ref w), (4, .int (iZ (x)))]) C.1 C.2.1 dL_law_987 hl (by decide) rfl (fun ls hl => ?_)
    refine lv_goto (tgt := 2207) C.1 C.2.1 dL_law_989 (by decide) ?_
    exact kk _ _ _ _ _ _ _ _ _ _ _ _ G (by omega) (by omega) (lv_sub hl [2, 3, 4, 5, 6] rfl)
set_option maxHeartbeats 4000000 in
set_option maxRecDepth 100000 in
theorem lk_14 (hlq : l.stackTraces = false) (C : CallFix p m c0 cL_law 7 s args T0 RL) (Z : zLw D cB t N g s) (Y : zAd o a u v w s) {c : Nat → Nat} {ac re kn : Int32} {th : Int} {n : Int64} {sv : Value} {H : Heap} {locs : List Loc} {ls : Array Slot} {cells slots : Nat} (G : zG D cJ o a u v w c [.int ac, .int re, .int kn] c [.int (iZ th), .int ac, .int re, .int kn] n sv s H locs) (x : Int) (hx : 0 ≤ x ∧ x + 5 ≤ (N : Int)) (hf : cells + 150 ≤ 665987 ∧ slots + 75000 ≤ 7103520) (hl : lv_has ls 7 [(0, .ref t), (1, .ref o), (2, .ref u), (3, .ref w), (4, .int (iZ (x)))])
    (kk : zNx p l e s m args below meth c0 D cJ t o a u v w x cells slots Qw 2207) : W p l e room_1 s m args below meth c0 H locs cells slots Qw (F0 m 992 ls []) := by
  have hc := G.1.2.2.2
  obtain ⟨q1, e1⟩ : ∃ z, g (x.toNat + 1) = z := ⟨_, rfl⟩
  have r1 : -2147483648 ≤ q1 ∧ q1 ≤ 2147483647 := e1 ▸ Z.2.2.2.2.2.1 _
  obtain ⟨q2, e2⟩ : ∃ z, g (x.toNat + 2) = z := ⟨_, rfl⟩
  have r2 : -2147483648 ≤ q2 ∧ q2 ≤ 2147483647 := e2 ▸ Z.2.2.2.2.2.1 _
  obtain ⟨q3, e3⟩ : ∃ z, g (x.toNat + 3) = z := ⟨_, rfl⟩
  have r3 : -2147483648 ≤ q3 ∧ q3 ≤ 2147483647 := e3 ▸ Z.2.2.2.2.2.1 _
  by_cases hcel : (0 ≤ q1 ∧ q1 ≤ 5) ∧ (0 ≤ q2 ∧ q2 ≤ 5) ∧ (0 ≤ q3 ∧ q3 ≤ 5)
  · skip
    refine lv_aload_n C.1 C.2.1 dL_law_992 rfl (lv_at hl 1 rfl) ?_
    refine lv_aload_n C.1 C.2.1 dL_law_993 rfl (lv_at hl 0 rfl) ?_
    refine lv_iload C.1 C.2.1 dL_law_994 (lv_at hl 4 rfl) ?_
    refine z_iconst C dL_law_996 ?_
    refine z_iadd C dL_law_997 ?_
    refine zd_ld C Z G q1 (x.toNat + 1) e1 (by omega) (by omega) dL_law_998 ?_
    refine lv_aload_n C.1 C.2.1 dL_law_999 rfl (lv_at hl 0 rfl) ?_
    refine lv_iload C.1 C.2.1 dL_law_1000 (lv_at hl 4 rfl) ?_
    refine z_iconst C dL_law_1002 ?_
    refine z_iadd C dL_law_1003 ?_
    refine zd_ld C Z G q2 (x.toNat + 2) e2 (by omega) (by omega) dL_law_1004 ?_
    refine lv_aload_n C.1 C.2.1 dL_law_1005 rfl (lv_at hl 0 rfl) ?_
    refine lv_iload C.1 C.2.1 dL_law_1006 (lv_at hl 4 rfl) ?_
    refine z_iconst C dL_law_1008 ?_
    refine z_iadd C dL_law_1009 ?_
    refine zd_ld C Z G q3 (x.toNat + 3) e3 (by omega) (by omega) dL_law_1010 ?_
    refine lv_aload_n C.1 C.2.1 dL_law_1011 rfl (lv_at hl 3 rfl) ?_
    refine zd_W (as := [.ref o, .int (iZ (q1)), .int (iZ (q2)), .int (iZ (q3)), .ref w]) C Z Y G (c_L_lcm l D cJ o a _ _ _ _ (q1) (q2) (q3) (by first | assumption | omega) (by first | assumption | omega) (by first | assumption | omega) w _ _) ml_L_224 ⟨Nat.le_of_ble_eq_true rfl, Nat.le_of_ble_eq_true rfl⟩ ⟨by show cells + 0 + 0 ≤ 665987; omega, by show slots + 0 + 0 ≤ 7103520; omega⟩ hl (Nat.le_of_ble_eq_true rfl) rfl dL_law_1012 (fun H locs G => ?_)
    refine lv_istore (lv' := [(5, .int (iZ (0))), (0, .ref t), (1, .ref o), (2, .ref u), (3, .ref w), (4, .int (iZ (x)))]) C.1 C.2.1 dL_law_1015 hl (by decide) rfl (fun ls hl => ?_)
    refine lv_aload_n C.1 C.2.1 dL_law_1017 rfl (lv_at hl 3 rfl) ?_
    refine lv_aload_n C.1 C.2.1 dL_law_1018 rfl (lv_at hl 1 rfl) ?_
    refine lv_iload C.1 C.2.1 dL_law_1019 (lv_at hl 5 rfl) ?_
    refine z_iconst C dL_law_1021 ?_
    refine z_iadd C dL_law_1022 ?_
    refine zd_ld C Z G q1 (x.toNat + 1) e1 (by omega) (by omega) dL_law_1023 ?_
    refine lv_aload_n C.1 C.2.1 dL_law_1024 rfl (lv_at hl 1 rfl) ?_
    refine lv_iload C.1 C.2.1 dL_law_1025 (lv_at hl 5 rfl) ?_
    refine z_iconst C dL_law_1027 ?_
    refine z_iadd C dL_law_1028 ?_
    refine zd_ld C Z G q2 (x.toNat + 2) e2 (by omega) (by omega) dL_law_1029 ?_
    refine lv_aload_n C.1 C.2.1 dL_law_1030 rfl (lv_at hl 1 rfl) ?_
    refine lv_iload C.1 C.2.1 dL_law_1031 (lv_at hl 5 rfl) ?_
    refine z_iconst C dL_law_1033 ?_
    refine z_iadd C dL_law_1034 ?_
    refine zd_ld C Z G q3 (x.toNat + 3) e3 (by omega) (by omega) dL_law_1035 ?_
    refine zd_M (as := [.int (iZ (q1)), .int (iZ (q2)), .int (iZ (q3))]) C Y G (c_X5_lcm l D cJ u v _ _ _ _ _ (q1) (q2) (q3) (by first | assumption | omega) (by first | assumption | omega) (by first | assumption | omega)) ml_L_226 rfl ⟨Nat.le_of_ble_eq_true rfl, Nat.le_of_ble_eq_true rfl⟩ ⟨by show cells + 0 + 0 ≤ 665987; omega, by show slots + 0 + 0 ≤ 7103520; omega⟩ hl (Nat.le_of_ble_eq_true rfl) rfl dL_law_1036 (fun y9 H locs hy9 G => ?_)
    subst hy9
    refine lv_istore (lv' := [(6, _), (5, .int (iZ (0))), (0, .ref t), (1, .ref o), (2, .ref u), (3, .ref w), (4, .int (iZ (x)))]) C.1 C.2.1 dL_law_1039 hl (by decide) rfl (fun ls hl => ?_)
    refine lv_goto (tgt := 2207) C.1 C.2.1 dL_law_1041 (by decide) ?_
    rw [lcm_eq (hc _) (hc _)] at G
    exact kk _ _ _ _ _ _ _ _ _ _ _ _ G (by omega) (by omega) (lv_sub hl [2, 3, 4, 5, 6] rfl)
  · skip
    refine lv_aload_n C.1 C.2.1 dL_law_992 rfl (lv_at hl 1 rfl) ?_
    refine lv_aload_n C.1 C.2.1 dL_law_993 rfl (lv_at hl 0 rfl) ?_
    refine lv_iload C.1 C.2.1 dL_law_994 (lv_at hl 4 rfl) ?_
    refine z_iconst C dL_law_996 ?_
    refine z_iadd C dL_law_997 ?_
    refine zd_ld C Z G q1 (x.toNat + 1) e1 (by omega) (by omega) dL_law_998 ?_
    refine lv_aload_n C.1 C.2.1 dL_law_999 rfl (lv_at hl 0 rfl) ?_
    refine lv_iload C.1 C.2.1 dL_law_1000 (lv_at hl 4 rfl) ?_
    refine z_iconst C dL_law_1002 ?_
    refine z_iadd C dL_law_1003 ?_
    refine zd_ld C Z G q2 (x.toNat + 2) e2 (by omega) (by omega) dL_law_1004 ?_
    refine lv_aload_n C.1 C.2.1 dL_law_1005 rfl (lv_at hl 0 rfl) ?_
    refine lv_iload C.1 C.2.1 dL_law_1006 (lv_at hl 4 rfl) ?_
    refine z_iconst C dL_law_1008 ?_
    refine z_iadd C dL_law_1009 ?_
    refine zd_ld C Z G q3 (x.toNat + 3) e3 (by omega) (by omega) dL_law_1010 ?_
    refine lv_aload_n C.1 C.2.1 dL_law_1011 rfl (lv_at hl 3 rfl) ?_
    refine zd_W (as := [.ref o, .int (iZ (q1)), .int (iZ (q2)), .int (iZ (q3)), .ref w]) C Z Y G (c_L_lcm_badc l hlq D cJ o a _ _ _ _ (q1) (q2) (q3) (by first | assumption | omega) (by first | assumption | omega) (by first | assumption | omega) (by first | assumption | omega) w _ _) ml_L_224 ⟨Nat.le_of_ble_eq_true rfl, Nat.le_of_ble_eq_true rfl⟩ ⟨by show cells + 0 + 1 ≤ 665987; omega, by show slots + 0 + 6 ≤ 7103520; omega⟩ hl (Nat.le_of_ble_eq_true rfl) rfl dL_law_1012 (fun H locs G => ?_)
    refine lv_istore (lv' := [(5, .int (iZ (1))), (0, .ref t), (1, .ref o), (2, .ref u), (3, .ref w), (4, .int (iZ (x)))]) C.1 C.2.1 dL_law_1015 hl (by decide) rfl (fun ls hl => ?_)
    refine lv_aload_n C.1 C.2.1 dL_law_1017 rfl (lv_at hl 3 rfl) ?_
    refine lv_aload_n C.1 C.2.1 dL_law_1018 rfl (lv_at hl 1 rfl) ?_
    refine lv_iload C.1 C.2.1 dL_law_1019 (lv_at hl 5 rfl) ?_
    refine z_iconst C dL_law_1021 ?_
    refine z_iadd C dL_law_1022 ?_
    refine zd_ld C Z G q1 (x.toNat + 1) e1 (by omega) (by omega) dL_law_1023 ?_
    refine lv_aload_n C.1 C.2.1 dL_law_1024 rfl (lv_at hl 1 rfl) ?_
    refine lv_iload C.1 C.2.1 dL_law_1025 (lv_at hl 5 rfl) ?_
    refine z_iconst C dL_law_1027 ?_
    refine z_iadd C dL_law_1028 ?_
    refine zd_ld C Z G q2 (x.toNat + 2) e2 (by omega) (by omega) dL_law_1029 ?_
    refine lv_aload_n C.1 C.2.1 dL_law_1030 rfl (lv_at hl 1 rfl) ?_
    refine lv_iload C.1 C.2.1 dL_law_1031 (lv_at hl 5 rfl) ?_
    refine z_iconst C dL_law_1033 ?_
    refine z_iadd C dL_law_1034 ?_
    refine zd_ld C Z G q3 (x.toNat + 3) e3 (by omega) (by omega) dL_law_1035 ?_
    refine zd_M (as := [.int (iZ (q1)), .int (iZ (q2)), .int (iZ (q3))]) C Y G (c_X5_lcm_bad1 l D cJ u v _ _ _ _ _ (q1) (q2) (q3) (by first | assumption | omega) (by first | assumption | omega) (by first | assumption | omega) (by first | assumption | omega)) ml_L_226 rfl ⟨Nat.le_of_ble_eq_true rfl, Nat.le_of_ble_eq_true rfl⟩ ⟨by show cells + 1 + 0 ≤ 665987; omega, by show slots + 6 + 0 ≤ 7103520; omega⟩ hl (Nat.le_of_ble_eq_true rfl) rfl dL_law_1036 (fun y9 H locs hy9 G => ?_)
    subst hy9
    refine lv_istore (lv' := [(6, _), (5, .int (iZ (1))), (0, .ref t), (1, .ref o), (2, .ref u), (3, .ref w), (4, .int (iZ (x)))]) C.1 C.2.1 dL_law_1039 hl (by decide) rfl (fun ls hl => ?_)
    refine lv_goto (tgt := 2207) C.1 C.2.1 dL_law_1041 (by decide) ?_
    exact kk _ _ _ _ _ _ _ _ _ _ _ _ G (by omega) (by omega) (lv_sub hl [2, 3, 4, 5, 6] rfl)
set_option maxHeartbeats 4000000 in
set_option maxRecDepth 100000 in
theorem lk_15 (hlq : l.stackTraces = false) (C : CallFix p m c0 cL_law 7 s args T0 RL) (Z : zLw D cB t N g s) (Y : zAd o a u v w s) {c : Nat → Nat} {ac re kn : Int32} {th : Int} {n : Int64} {sv : Value} {H : Heap} {locs : List Loc} {ls : Array Slot} {cells slots : Nat} (G : zG D cJ o a u v w c [.int ac, .int re, .int kn] c [.int (iZ th), .int ac, .int re, .int kn] n sv s H locs) (x : Int) (hx : 0 ≤ x ∧ x + 5 ≤ (N : Int)) (hf : cells + 150 ≤ 665987 ∧ slots + 75000 ≤ 7103520) (hl : lv_has ls 7 [(0, .ref t), (1, .ref o), (2, .ref u), (3, .ref w), (4, .int (iZ (x)))])
    (kk : zNx p l e s m args below meth c0 D cJ t o a u v w x cells slots Qw 2207) : W p l e room_1 s m args below meth c0 H locs cells slots Qw (F0 m 1044 ls []) := by
  have hc := G.1.2.2.2
  obtain ⟨q1, e1⟩ : ∃ z, g (x.toNat + 1) = z := ⟨_, rfl⟩
  have r1 : -2147483648 ≤ q1 ∧ q1 ≤ 2147483647 := e1 ▸ Z.2.2.2.2.2.1 _
  obtain ⟨q2, e2⟩ : ∃ z, g (x.toNat + 2) = z := ⟨_, rfl⟩
  have r2 : -2147483648 ≤ q2 ∧ q2 ≤ 2147483647 := e2 ▸ Z.2.2.2.2.2.1 _
  obtain ⟨q3, e3⟩ : ∃ z, g (x.toNat + 3) = z := ⟨_, rfl⟩
  have r3 : -2147483648 ≤ q3 ∧ q3 ≤ 2147483647 := e3 ▸ Z.2.2.2.2.2.1 _
  obtain ⟨q4, e4⟩ : ∃ z, g (x.toNat + 4) = z := ⟨_, rfl⟩
  have r4 : -2147483648 ≤ q4 ∧ q4 ≤ 2147483647 := e4 ▸ Z.2.2.2.2.2.1 _
  by_cases hcel : (0 ≤ q1 ∧ q1 ≤ 5) ∧ (0 ≤ q2 ∧ q2 ≤ 5) ∧ (0 ≤ q4 ∧ q4 ≤ 5)
  · skip
    refine lv_aload_n C.1 C.2.1 dL_law_1044 rfl (lv_at hl 1 rfl) ?_
    refine lv_aload_n C.1 C.2.1 dL_law_1045 rfl (lv_at hl 0 rfl) ?_
    refine lv_iload C.1 C.2.1 dL_law_1046 (lv_at hl 4 rfl) ?_
    refine z_iconst C dL_law_1048 ?_
    refine z_iadd C dL_law_1049 ?_
    refine zd_ld C Z G q1 (x.toNat + 1) e1 (by omega) (by omega) dL_law_1050 ?_
    refine lv_aload_n C.1 C.2.1 dL_law_1051 rfl (lv_at hl 0 rfl) ?_
    refine lv_iload C.1 C.2.1 dL_law_1052 (lv_at hl 4 rfl) ?_
    refine z_iconst C dL_law_1054 ?_
    refine z_iadd C dL_law_1055 ?_
    refine zd_ld C Z G q2 (x.toNat + 2) e2 (by omega) (by omega) dL_law_1056 ?_
    refine lv_aload_n C.1 C.2.1 dL_law_1057 rfl (lv_at hl 0 rfl) ?_
    refine lv_iload C.1 C.2.1 dL_law_1058 (lv_at hl 4 rfl) ?_
    refine z_iconst C dL_law_1060 ?_
    refine z_iadd C dL_law_1061 ?_
    refine zd_ld C Z G q3 (x.toNat + 3) e3 (by omega) (by omega) dL_law_1062 ?_
    refine zd_nz C (by omega) dL_law_1063 dL_law_1066 dL_law_1067 dL_law_1070 ?_
    refine lv_aload_n C.1 C.2.1 dL_law_1071 rfl (lv_at hl 0 rfl) ?_
    refine lv_iload C.1 C.2.1 dL_law_1072 (lv_at hl 4 rfl) ?_
    refine z_iconst C dL_law_1074 ?_
    refine z_iadd C dL_law_1075 ?_
    refine zd_ld C Z G q4 (x.toNat + 4) e4 (by omega) (by omega) dL_law_1076 ?_
    refine lv_aload_n C.1 C.2.1 dL_law_1077 rfl (lv_at hl 3 rfl) ?_
    refine zd_W (as := [.ref o, .int (iZ (q1)), .int (iZ (q2)), .int (iZ (zB (decide (q3 ≠ 0)))), .int (iZ (q4)), .ref w]) C Z Y G (c_L_bezout l D cJ o a _ _ _ _ (q1) (q2) (decide (q3 ≠ 0)) (q4) (by first | assumption | omega) (by first | assumption | omega) (by first | assumption | omega) w _ _) ml_L_227 ⟨Nat.le_of_ble_eq_true rfl, Nat.le_of_ble_eq_true rfl⟩ ⟨by show cells + 0 + 0 ≤ 665987; omega, by show slots + 0 + 0 ≤ 7103520; omega⟩ hl (Nat.le_of_ble_eq_true rfl) rfl dL_law_1078 (fun H locs G => ?_)
    refine lv_istore (lv' := [(5, .int (iZ (0))), (0, .ref t), (1, .ref o), (2, .ref u), (3, .ref w), (4, .int (iZ (x)))]) C.1 C.2.1 dL_law_1081 hl (by decide) rfl (fun ls hl => ?_)
    refine lv_aload_n C.1 C.2.1 dL_law_1083 rfl (lv_at hl 3 rfl) ?_
    refine lv_aload_n C.1 C.2.1 dL_law_1084 rfl (lv_at hl 1 rfl) ?_
    refine lv_iload C.1 C.2.1 dL_law_1085 (lv_at hl 5 rfl) ?_
    refine z_iconst C dL_law_1087 ?_
    refine z_iadd C dL_law_1088 ?_
    refine zd_ld C Z G q1 (x.toNat + 1) e1 (by omega) (by omega) dL_law_1089 ?_
    refine lv_aload_n C.1 C.2.1 dL_law_1090 rfl (lv_at hl 1 rfl) ?_
    refine lv_iload C.1 C.2.1 dL_law_1091 (lv_at hl 5 rfl) ?_
    refine z_iconst C dL_law_1093 ?_
    refine z_iadd C dL_law_1094 ?_
    refine zd_ld C Z G q2 (x.toNat + 2) e2 (by omega) (by omega) dL_law_1095 ?_
    refine lv_aload_n C.1 C.2.1 dL_law_1096 rfl (lv_at hl 1 rfl) ?_
    refine lv_iload C.1 C.2.1 dL_law_1097 (lv_at hl 5 rfl) ?_
    refine z_iconst C dL_law_1099 ?_
    refine z_iadd C dL_law_1100 ?_
    refine zd_ld C Z G q3 (x.toNat + 3) e3 (by omega) (by omega) dL_law_1101 ?_
    refine zd_nz C (by omega) dL_law_1102 dL_law_1105 dL_law_1106 dL_law_1109 ?_
    refine lv_aload_n C.1 C.2.1 dL_law_1110 rfl (lv_at hl 1 rfl) ?_
    refine lv_iload C.1 C.2.1 dL_law_1111 (lv_at hl 5 rfl) ?_
    refine z_iconst C dL_law_1113 ?_
    refine z_iadd C dL_law_1114 ?_
    refine zd_ld C Z G q4 (x.toNat + 4) e4 (by omega) (by omega) dL_law_1115 ?_
    refine zd_M (as := [.int (iZ (q1)), .int (iZ (q2)), .int (iZ (zB (decide (q3 ≠ 0)))), .int (iZ (q4))]) C Y G (c_X5_bezout l D cJ u v _ _ _ _ _ (q1) (q2) (decide (q3 ≠ 0)) (q4) (by first | assumption | omega) (by first | assumption | omega) (by first | assumption | omega)) ml_L_229 rfl ⟨Nat.le_of_ble_eq_true rfl, Nat.le_of_ble_eq_true rfl⟩ ⟨by show cells + 0 + 0 ≤ 665987; omega, by show slots + 0 + 0 ≤ 7103520; omega⟩ hl (Nat.le_of_ble_eq_true rfl) rfl dL_law_1116 (fun y9 H locs hy9 G => ?_)
    subst hy9
    refine lv_istore (lv' := [(6, _), (5, .int (iZ (0))), (0, .ref t), (1, .ref o), (2, .ref u), (3, .ref w), (4, .int (iZ (x)))]) C.1 C.2.1 dL_law_1119 hl (by decide) rfl (fun ls hl => ?_)
    refine lv_goto (tgt := 2207) C.1 C.2.1 dL_law_1121 (by decide) ?_
    exact kk _ _ _ _ _ _ _ _ _ _ _ _ G (by omega) (by omega) (lv_sub hl [2, 3, 4, 5, 6] rfl)
  · skip
    refine lv_aload_n C.1 C.2.1 dL_law_1044 rfl (lv_at hl 1 rfl) ?_
    refine lv_aload_n C.1 C.2.1 dL_law_1045 rfl (lv_at hl 0 rfl) ?_
    refine lv_iload C.1 C.2.1 dL_law_1046 (lv_at hl 4 rfl) ?_
    refine z_iconst C dL_law_1048 ?_
    refine z_iadd C dL_law_1049 ?_
    refine zd_ld C Z G q1 (x.toNat + 1) e1 (by omega) (by omega) dL_law_1050 ?_
    refine lv_aload_n C.1 C.2.1 dL_law_1051 rfl (lv_at hl 0 rfl) ?_
    refine lv_iload C.1 C.2.1 dL_law_1052 (lv_at hl 4 rfl) ?_
    refine z_iconst C dL_law_1054 ?_
    refine z_iadd C dL_law_1055 ?_
    refine zd_ld C Z G q2 (x.toNat + 2) e2 (by omega) (by omega) dL_law_1056 ?_
    refine lv_aload_n C.1 C.2.1 dL_law_1057 rfl (lv_at hl 0 rfl) ?_
    refine lv_iload C.1 C.2.1 dL_law_1058 (lv_at hl 4 rfl) ?_
    refine z_iconst C dL_law_1060 ?_
    refine z_iadd C dL_law_1061 ?_
    refine zd_ld C Z G q3 (x.toNat + 3) e3 (by omega) (by omega) dL_law_1062 ?_
    refine zd_nz C (by omega) dL_law_1063 dL_law_1066 dL_law_1067 dL_law_1070 ?_
    refine lv_aload_n C.1 C.2.1 dL_law_1071 rfl (lv_at hl 0 rfl) ?_
    refine lv_iload C.1 C.2.1 dL_law_1072 (lv_at hl 4 rfl) ?_
    refine z_iconst C dL_law_1074 ?_
    refine z_iadd C dL_law_1075 ?_
    refine zd_ld C Z G q4 (x.toNat + 4) e4 (by omega) (by omega) dL_law_1076 ?_
    refine lv_aload_n C.1 C.2.1 dL_law_1077 rfl (lv_at hl 3 rfl) ?_
    refine zd_W (as := [.ref o, .int (iZ (q1)), .int (iZ (q2)), .int (iZ (zB (decide (q3 ≠ 0)))), .int (iZ (q4)), .ref w]) C Z Y G (c_L_bezout_badc l hlq D cJ o a _ _ _ _ (q1) (q2) (decide (q3 ≠ 0)) (q4) (by first | assumption | omega) (by first | assumption | omega) (by first | assumption | omega) (by first | assumption | omega) w _ _) ml_L_227 ⟨Nat.le_of_ble_eq_true rfl, Nat.le_of_ble_eq_true rfl⟩ ⟨by show cells + 0 + 1 ≤ 665987; omega, by show slots + 0 + 6 ≤ 7103520; omega⟩ hl (Nat.le_of_ble_eq_true rfl) rfl dL_law_1078 (fun H locs G => ?_)
    refine lv_istore (lv' := [(5, .int (iZ (1))), (0, .ref t), (1, .ref o), (2, .ref u), (3, .ref w), (4, .int (iZ (x)))]) C.1 C.2.1 dL_law_1081 hl (by decide) rfl (fun ls hl => ?_)
    refine lv_aload_n C.1 C.2.1 dL_law_1083 rfl (lv_at hl 3 rfl) ?_
    refine lv_aload_n C.1 C.2.1 dL_law_1084 rfl (lv_at hl 1 rfl) ?_
    refine lv_iload C.1 C.2.1 dL_law_1085 (lv_at hl 5 rfl) ?_
    refine z_iconst C dL_law_1087 ?_
    refine z_iadd C dL_law_1088 ?_
    refine zd_ld C Z G q1 (x.toNat + 1) e1 (by omega) (by omega) dL_law_1089 ?_
    refine lv_aload_n C.1 C.2.1 dL_law_1090 rfl (lv_at hl 1 rfl) ?_
    refine lv_iload C.1 C.2.1 dL_law_1091 (lv_at hl 5 rfl) ?_
    refine z_iconst C dL_law_1093 ?_
    refine z_iadd C dL_law_1094 ?_
    refine zd_ld C Z G q2 (x.toNat + 2) e2 (by omega) (by omega) dL_law_1095 ?_
    refine lv_aload_n C.1 C.2.1 dL_law_1096 rfl (lv_at hl 1 rfl) ?_
    refine lv_iload C.1 C.2.1 dL_law_1097 (lv_at hl 5 rfl) ?_
    refine z_iconst C dL_law_1099 ?_
    refine z_iadd C dL_law_1100 ?_
    refine zd_ld C Z G q3 (x.toNat + 3) e3 (by omega) (by omega) dL_law_1101 ?_
    refine zd_nz C (by omega) dL_law_1102 dL_law_1105 dL_law_1106 dL_law_1109 ?_
    refine lv_aload_n C.1 C.2.1 dL_law_1110 rfl (lv_at hl 1 rfl) ?_
    refine lv_iload C.1 C.2.1 dL_law_1111 (lv_at hl 5 rfl) ?_
    refine z_iconst C dL_law_1113 ?_
    refine z_iadd C dL_law_1114 ?_
    refine zd_ld C Z G q4 (x.toNat + 4) e4 (by omega) (by omega) dL_law_1115 ?_
    refine zd_M (as := [.int (iZ (q1)), .int (iZ (q2)), .int (iZ (zB (decide (q3 ≠ 0)))), .int (iZ (q4))]) C Y G (c_X5_bezout_bad1 l D cJ u v _ _ _ _ _ (q1) (q2) (decide (q3 ≠ 0)) (q4) (by first | assumption | omega) (by first | assumption | omega) (by first | assumption | omega) (by first | assumption | omega)) ml_L_229 rfl ⟨Nat.le_of_ble_eq_true rfl, Nat.le_of_ble_eq_true rfl⟩ ⟨by show cells + 1 + 0 ≤ 665987; omega, by show slots + 6 + 0 ≤ 7103520; omega⟩ hl (Nat.le_of_ble_eq_true rfl) rfl dL_law_1116 (fun y9 H locs hy9 G => ?_)
    subst hy9
    refine lv_istore (lv' := [(6, _), (5, .int (iZ (1))), (0, .ref t), (1, .ref o), (2, .ref u), (3, .ref w), (4, .int (iZ (x)))]) C.1 C.2.1 dL_law_1119 hl (by decide) rfl (fun ls hl => ?_)
    refine lv_goto (tgt := 2207) C.1 C.2.1 dL_law_1121 (by decide) ?_
    exact kk _ _ _ _ _ _ _ _ _ _ _ _ G (by omega) (by omega) (lv_sub hl [2, 3, 4, 5, 6] rfl)
set_option maxHeartbeats 4000000 in
set_option maxRecDepth 100000 in
theorem lk_16 (hlq : l.stackTraces = false) (C : CallFix p m c0 cL_law 7 s args T0 RL) (Z : zLw D cB t N g s) (Y : zAd o a u v w s) {c : Nat → Nat} {ac re kn : Int32} {th : Int} {n : Int64} {sv : Value} {H : Heap} {locs : List Loc} {ls : Array Slot} {cells slots : Nat} (G : zG D cJ o a u v w c [.int ac, .int re, .int kn] c [.int (iZ th), .int ac, .int re, .int kn] n sv s H locs) (x : Int) (hx : 0 ≤ x ∧ x + 5 ≤ (N : Int)) (hf : cells + 150 ≤ 665987 ∧ slots + 75000 ≤ 7103520) (hl : lv_has ls 7 [(0, .ref t), (1, .ref o), (2, .ref u), (3, .ref w), (4, .int (iZ (x)))])
    (kk : zNx p l e s m args below meth c0 D cJ t o a u v w x cells slots Qw 2207) : W p l e room_1 s m args below meth c0 H locs cells slots Qw (F0 m 1124 ls []) := by
  have hc := G.1.2.2.2
  obtain ⟨q1, e1⟩ : ∃ z, g (x.toNat + 1) = z := ⟨_, rfl⟩
  have r1 : -2147483648 ≤ q1 ∧ q1 ≤ 2147483647 := e1 ▸ Z.2.2.2.2.2.1 _
  obtain ⟨q2, e2⟩ : ∃ z, g (x.toNat + 2) = z := ⟨_, rfl⟩
  have r2 : -2147483648 ≤ q2 ∧ q2 ≤ 2147483647 := e2 ▸ Z.2.2.2.2.2.1 _
  by_cases hcel : (0 ≤ q1 ∧ q1 ≤ 5) ∧ (0 ≤ q2 ∧ q2 ≤ 5)
  · skip
    refine lv_aload_n C.1 C.2.1 dL_law_1124 rfl (lv_at hl 1 rfl) ?_
    refine lv_aload_n C.1 C.2.1 dL_law_1125 rfl (lv_at hl 0 rfl) ?_
    refine lv_iload C.1 C.2.1 dL_law_1126 (lv_at hl 4 rfl) ?_
    refine z_iconst C dL_law_1128 ?_
    refine z_iadd C dL_law_1129 ?_
    refine zd_ld C Z G q1 (x.toNat + 1) e1 (by omega) (by omega) dL_law_1130 ?_
    refine lv_aload_n C.1 C.2.1 dL_law_1131 rfl (lv_at hl 0 rfl) ?_
    refine lv_iload C.1 C.2.1 dL_law_1132 (lv_at hl 4 rfl) ?_
    refine z_iconst C dL_law_1134 ?_
    refine z_iadd C dL_law_1135 ?_
    refine zd_ld C Z G q2 (x.toNat + 2) e2 (by omega) (by omega) dL_law_1136 ?_
    refine lv_aload_n C.1 C.2.1 dL_law_1137 rfl (lv_at hl 3 rfl) ?_
    refine zd_W (as := [.ref o, .int (iZ (q1)), .int (iZ (q2)), .ref w]) C Z Y G (c_L_derive l D cJ o a _ _ _ _ (q1) (q2) (by first | assumption | omega) (by first | assumption | omega) w _ _) ml_L_230 ⟨Nat.le_of_ble_eq_true rfl, Nat.le_of_ble_eq_true rfl⟩ ⟨by show cells + 0 + 0 ≤ 665987; omega, by show slots + 0 + 0 ≤ 7103520; omega⟩ hl (Nat.le_of_ble_eq_true rfl) rfl dL_law_1138 (fun H locs G => ?_)
    refine lv_istore (lv' := [(5, .int (iZ (0))), (0, .ref t), (1, .ref o), (2, .ref u), (3, .ref w), (4, .int (iZ (x)))]) C.1 C.2.1 dL_law_1141 hl (by decide) rfl (fun ls hl => ?_)
    refine lv_aload_n C.1 C.2.1 dL_law_1143 rfl (lv_at hl 3 rfl) ?_
    refine lv_aload_n C.1 C.2.1 dL_law_1144 rfl (lv_at hl 1 rfl) ?_
    refine lv_iload C.1 C.2.1 dL_law_1145 (lv_at hl 5 rfl) ?_
    refine z_iconst C dL_law_1147 ?_
    refine z_iadd C dL_law_1148 ?_
    refine zd_ld C Z G q1 (x.toNat + 1) e1 (by omega) (by omega) dL_law_1149 ?_
    refine lv_aload_n C.1 C.2.1 dL_law_1150 rfl (lv_at hl 1 rfl) ?_
    refine lv_iload C.1 C.2.1 dL_law_1151 (lv_at hl 5 rfl) ?_
    refine z_iconst C dL_law_1153 ?_
    refine z_iadd C dL_law_1154 ?_
    refine zd_ld C Z G q2 (x.toNat + 2) e2 (by omega) (by omega) dL_law_1155 ?_
    refine zd_M (as := [.int (iZ (q1)), .int (iZ (q2))]) C Y G (c_X5_derive l D cJ u v _ _ _ _ _ (q1) (q2) (by first | assumption | omega) (by first | assumption | omega)) ml_L_232 rfl ⟨Nat.le_of_ble_eq_true rfl, Nat.le_of_ble_eq_true rfl⟩ ⟨by show cells + 0 + 0 ≤ 665987; omega, by show slots + 0 + 0 ≤ 7103520; omega⟩ hl (Nat.le_of_ble_eq_true rfl) rfl dL_law_1156 (fun y9 H locs hy9 G => ?_)
    subst hy9
    refine lv_istore (lv' := [(6, _), (5, .int (iZ (0))), (0, .ref t), (1, .ref o), (2, .ref u), (3, .ref w), (4, .int (iZ (x)))]) C.1 C.2.1 dL_law_1159 hl (by decide) rfl (fun ls hl => ?_)
    refine lv_goto (tgt := 2207) C.1 C.2.1 dL_law_1161 (by decide) ?_
    rw [dv_eq (hc _)] at G
    exact kk _ _ _ _ _ _ _ _ _ _ _ _ G (by omega) (by omega) (lv_sub hl [2, 3, 4, 5, 6] rfl)
  · skip
    refine lv_aload_n C.1 C.2.1 dL_law_1124 rfl (lv_at hl 1 rfl) ?_
    refine lv_aload_n C.1 C.2.1 dL_law_1125 rfl (lv_at hl 0 rfl) ?_
    refine lv_iload C.1 C.2.1 dL_law_1126 (lv_at hl 4 rfl) ?_
    refine z_iconst C dL_law_1128 ?_
    refine z_iadd C dL_law_1129 ?_
    refine zd_ld C Z G q1 (x.toNat + 1) e1 (by omega) (by omega) dL_law_1130 ?_
    refine lv_aload_n C.1 C.2.1 dL_law_1131 rfl (lv_at hl 0 rfl) ?_
    refine lv_iload C.1 C.2.1 dL_law_1132 (lv_at hl 4 rfl) ?_
    refine z_iconst C dL_law_1134 ?_
    refine z_iadd C dL_law_1135 ?_
    refine zd_ld C Z G q2 (x.toNat + 2) e2 (by omega) (by omega) dL_law_1136 ?_
    refine lv_aload_n C.1 C.2.1 dL_law_1137 rfl (lv_at hl 3 rfl) ?_
    refine zd_W (as := [.ref o, .int (iZ (q1)), .int (iZ (q2)), .ref w]) C Z Y G (c_L_derive_badc l hlq D cJ o a _ _ _ _ (q1) (q2) (by first | assumption | omega) (by first | assumption | omega) (by first | assumption | omega) w _ _) ml_L_230 ⟨Nat.le_of_ble_eq_true rfl, Nat.le_of_ble_eq_true rfl⟩ ⟨by show cells + 0 + 1 ≤ 665987; omega, by show slots + 0 + 6 ≤ 7103520; omega⟩ hl (Nat.le_of_ble_eq_true rfl) rfl dL_law_1138 (fun H locs G => ?_)
    refine lv_istore (lv' := [(5, .int (iZ (1))), (0, .ref t), (1, .ref o), (2, .ref u), (3, .ref w), (4, .int (iZ (x)))]) C.1 C.2.1 dL_law_1141 hl (by decide) rfl (fun ls hl => ?_)
    refine lv_aload_n C.1 C.2.1 dL_law_1143 rfl (lv_at hl 3 rfl) ?_
    refine lv_aload_n C.1 C.2.1 dL_law_1144 rfl (lv_at hl 1 rfl) ?_
    refine lv_iload C.1 C.2.1 dL_law_1145 (lv_at hl 5 rfl) ?_
    refine z_iconst C dL_law_1147 ?_
    refine z_iadd C dL_law_1148 ?_
    refine zd_ld C Z G q1 (x.toNat + 1) e1 (by omega) (by omega) dL_law_1149 ?_
    refine lv_aload_n C.1 C.2.1 dL_law_1150 rfl (lv_at hl 1 rfl) ?_
    refine lv_iload C.1 C.2.1 dL_law_1151 (lv_at hl 5 rfl) ?_
    refine z_iconst C dL_law_1153 ?_
    refine z_iadd C dL_law_1154 ?_
    refine zd_ld C Z G q2 (x.toNat + 2) e2 (by omega) (by omega) dL_law_1155 ?_
    refine zd_M (as := [.int (iZ (q1)), .int (iZ (q2))]) C Y G (c_X5_derive_bad1 l D cJ u v _ _ _ _ _ (q1) (q2) (by first | assumption | omega) (by first | assumption | omega) (by first | assumption | omega)) ml_L_232 rfl ⟨Nat.le_of_ble_eq_true rfl, Nat.le_of_ble_eq_true rfl⟩ ⟨by show cells + 1 + 0 ≤ 665987; omega, by show slots + 6 + 0 ≤ 7103520; omega⟩ hl (Nat.le_of_ble_eq_true rfl) rfl dL_law_1156 (fun y9 H locs hy9 G => ?_)
    subst hy9
    refine lv_istore (lv' := [(6, _), (5, .int (iZ (1))), (0, .ref t), (1, .ref o), (2, .ref u), (3, .ref w), (4, .int (iZ (x)))]) C.1 C.2.1 dL_law_1159 hl (by decide) rfl (fun ls hl => ?_)
    refine lv_goto (tgt := 2207) C.1 C.2.1 dL_law_1161 (by decide) ?_
    exact kk _ _ _ _ _ _ _ _ _ _ _ _ G (by omega) (by omega) (lv_sub hl [2, 3, 4, 5, 6] rfl)
set_option maxHeartbeats 4000000 in
set_option maxRecDepth 100000 in
theorem lk_17 (hlq : l.stackTraces = false) (C : CallFix p m c0 cL_law 7 s args T0 RL) (Z : zLw D cB t N g s) (Y : zAd o a u v w s) {c : Nat → Nat} {ac re kn : Int32} {th : Int} {n : Int64} {sv : Value} {H : Heap} {locs : List Loc} {ls : Array Slot} {cells slots : Nat} (G : zG D cJ o a u v w c [.int ac, .int re, .int kn] c [.int (iZ th), .int ac, .int re, .int kn] n sv s H locs) (x : Int) (hx : 0 ≤ x ∧ x + 5 ≤ (N : Int)) (hf : cells + 150 ≤ 665987 ∧ slots + 75000 ≤ 7103520) (hl : lv_has ls 7 [(0, .ref t), (1, .ref o), (2, .ref u), (3, .ref w), (4, .int (iZ (x)))])
    (kk : zNx p l e s m args below meth c0 D cJ t o a u v w x cells slots Qw 2207) : W p l e room_1 s m args below meth c0 H locs cells slots Qw (F0 m 1164 ls []) := by
  have hc := G.1.2.2.2
  obtain ⟨q1, e1⟩ : ∃ z, g (x.toNat + 1) = z := ⟨_, rfl⟩
  have r1 : -2147483648 ≤ q1 ∧ q1 ≤ 2147483647 := e1 ▸ Z.2.2.2.2.2.1 _
  obtain ⟨q2, e2⟩ : ∃ z, g (x.toNat + 2) = z := ⟨_, rfl⟩
  have r2 : -2147483648 ≤ q2 ∧ q2 ≤ 2147483647 := e2 ▸ Z.2.2.2.2.2.1 _
  by_cases hcel : (0 ≤ q1 ∧ q1 ≤ 5) ∧ (0 ≤ q2 ∧ q2 ≤ 5)
  · skip
    refine lv_aload_n C.1 C.2.1 dL_law_1164 rfl (lv_at hl 1 rfl) ?_
    refine lv_aload_n C.1 C.2.1 dL_law_1165 rfl (lv_at hl 0 rfl) ?_
    refine lv_iload C.1 C.2.1 dL_law_1166 (lv_at hl 4 rfl) ?_
    refine z_iconst C dL_law_1168 ?_
    refine z_iadd C dL_law_1169 ?_
    refine zd_ld C Z G q1 (x.toNat + 1) e1 (by omega) (by omega) dL_law_1170 ?_
    refine lv_aload_n C.1 C.2.1 dL_law_1171 rfl (lv_at hl 0 rfl) ?_
    refine lv_iload C.1 C.2.1 dL_law_1172 (lv_at hl 4 rfl) ?_
    refine z_iconst C dL_law_1174 ?_
    refine z_iadd C dL_law_1175 ?_
    refine zd_ld C Z G q2 (x.toNat + 2) e2 (by omega) (by omega) dL_law_1176 ?_
    refine lv_aload_n C.1 C.2.1 dL_law_1177 rfl (lv_at hl 3 rfl) ?_
    refine zd_W (as := [.ref o, .int (iZ (q1)), .int (iZ (q2)), .ref w]) C Z Y G (c_L_root l D cJ o a _ _ _ _ (q1) (q2) (by first | assumption | omega) (by first | assumption | omega) w _ _) ml_L_233 ⟨Nat.le_of_ble_eq_true rfl, Nat.le_of_ble_eq_true rfl⟩ ⟨by show cells + 0 + 0 ≤ 665987; omega, by show slots + 0 + 0 ≤ 7103520; omega⟩ hl (Nat.le_of_ble_eq_true rfl) rfl dL_law_1178 (fun H locs G => ?_)
    refine lv_istore (lv' := [(5, .int (iZ (0))), (0, .ref t), (1, .ref o), (2, .ref u), (3, .ref w), (4, .int (iZ (x)))]) C.1 C.2.1 dL_law_1181 hl (by decide) rfl (fun ls hl => ?_)
    refine lv_aload_n C.1 C.2.1 dL_law_1183 rfl (lv_at hl 3 rfl) ?_
    refine lv_aload_n C.1 C.2.1 dL_law_1184 rfl (lv_at hl 1 rfl) ?_
    refine lv_iload C.1 C.2.1 dL_law_1185 (lv_at hl 5 rfl) ?_
    refine z_iconst C dL_law_1187 ?_
    refine z_iadd C dL_law_1188 ?_
    refine zd_ld C Z G q1 (x.toNat + 1) e1 (by omega) (by omega) dL_law_1189 ?_
    refine lv_aload_n C.1 C.2.1 dL_law_1190 rfl (lv_at hl 1 rfl) ?_
    refine lv_iload C.1 C.2.1 dL_law_1191 (lv_at hl 5 rfl) ?_
    refine z_iconst C dL_law_1193 ?_
    refine z_iadd C dL_law_1194 ?_
    refine zd_ld C Z G q2 (x.toNat + 2) e2 (by omega) (by omega) dL_law_1195 ?_
    refine zd_M (as := [.int (iZ (q1)), .int (iZ (q2))]) C Y G (c_X5_root l D cJ u v _ _ _ _ _ (q1) (q2) (by first | assumption | omega) (by first | assumption | omega)) ml_L_235 rfl ⟨Nat.le_of_ble_eq_true rfl, Nat.le_of_ble_eq_true rfl⟩ ⟨by show cells + 0 + 0 ≤ 665987; omega, by show slots + 0 + 0 ≤ 7103520; omega⟩ hl (Nat.le_of_ble_eq_true rfl) rfl dL_law_1196 (fun y9 H locs hy9 G => ?_)
    subst hy9
    refine lv_istore (lv' := [(6, _), (5, .int (iZ (0))), (0, .ref t), (1, .ref o), (2, .ref u), (3, .ref w), (4, .int (iZ (x)))]) C.1 C.2.1 dL_law_1199 hl (by decide) rfl (fun ls hl => ?_)
    refine lv_goto (tgt := 2207) C.1 C.2.1 dL_law_1201 (by decide) ?_
    rw [wE_eq (hc _)] at G
    exact kk _ _ _ _ _ _ _ _ _ _ _ _ G (by omega) (by omega) (lv_sub hl [2, 3, 4, 5, 6] rfl)
  · skip
    refine lv_aload_n C.1 C.2.1 dL_law_1164 rfl (lv_at hl 1 rfl) ?_
    refine lv_aload_n C.1 C.2.1 dL_law_1165 rfl (lv_at hl 0 rfl) ?_
    refine lv_iload C.1 C.2.1 dL_law_1166 (lv_at hl 4 rfl) ?_
    refine z_iconst C dL_law_1168 ?_
    refine z_iadd C dL_law_1169 ?_
    refine zd_ld C Z G q1 (x.toNat + 1) e1 (by omega) (by omega) dL_law_1170 ?_
    refine lv_aload_n C.1 C.2.1 dL_law_1171 rfl (lv_at hl 0 rfl) ?_
    refine lv_iload C.1 C.2.1 dL_law_1172 (lv_at hl 4 rfl) ?_
    refine z_iconst C dL_law_1174 ?_
    refine z_iadd C dL_law_1175 ?_
    refine zd_ld C Z G q2 (x.toNat + 2) e2 (by omega) (by omega) dL_law_1176 ?_
    refine lv_aload_n C.1 C.2.1 dL_law_1177 rfl (lv_at hl 3 rfl) ?_
    refine zd_W (as := [.ref o, .int (iZ (q1)), .int (iZ (q2)), .ref w]) C Z Y G (c_L_root_badc l hlq D cJ o a _ _ _ _ (q1) (q2) (by first | assumption | omega) (by first | assumption | omega) (by first | assumption | omega) w _ _) ml_L_233 ⟨Nat.le_of_ble_eq_true rfl, Nat.le_of_ble_eq_true rfl⟩ ⟨by show cells + 0 + 1 ≤ 665987; omega, by show slots + 0 + 6 ≤ 7103520; omega⟩ hl (Nat.le_of_ble_eq_true rfl) rfl dL_law_1178 (fun H locs G => ?_)
    refine lv_istore (lv' := [(5, .int (iZ (1))), (0, .ref t), (1, .ref o), (2, .ref u), (3, .ref w), (4, .int (iZ (x)))]) C.1 C.2.1 dL_law_1181 hl (by decide) rfl (fun ls hl => ?_)
    refine lv_aload_n C.1 C.2.1 dL_law_1183 rfl (lv_at hl 3 rfl) ?_
    refine lv_aload_n C.1 C.2.1 dL_law_1184 rfl (lv_at hl 1 rfl) ?_
    refine lv_iload C.1 C.2.1 dL_law_1185 (lv_at hl 5 rfl) ?_
    refine z_iconst C dL_law_1187 ?_
    refine z_iadd C dL_law_1188 ?_
    refine zd_ld C Z G q1 (x.toNat + 1) e1 (by omega) (by omega) dL_law_1189 ?_
    refine lv_aload_n C.1 C.2.1 dL_law_1190 rfl (lv_at hl 1 rfl) ?_
    refine lv_iload C.1 C.2.1 dL_law_1191 (lv_at hl 5 rfl) ?_
    refine z_iconst C dL_law_1193 ?_
    refine z_iadd C dL_law_1194 ?_
    refine zd_ld C Z G q2 (x.toNat + 2) e2 (by omega) (by omega) dL_law_1195 ?_
    refine zd_M (as := [.int (iZ (q1)), .int (iZ (q2))]) C Y G (c_X5_root_bad1 l D cJ u v _ _ _ _ _ (q1) (q2) (by first | assumption | omega) (by first | assumption | omega) (by first | assumption | omega)) ml_L_235 rfl ⟨Nat.le_of_ble_eq_true rfl, Nat.le_of_ble_eq_true rfl⟩ ⟨by show cells + 1 + 0 ≤ 665987; omega, by show slots + 6 + 0 ≤ 7103520; omega⟩ hl (Nat.le_of_ble_eq_true rfl) rfl dL_law_1196 (fun y9 H locs hy9 G => ?_)
    subst hy9
    refine lv_istore (lv' := [(6, _), (5, .int (iZ (1))), (0, .ref t), (1, .ref o), (2, .ref u), (3, .ref w), (4, .int (iZ (x)))]) C.1 C.2.1 dL_law_1199 hl (by decide) rfl (fun ls hl => ?_)
    refine lv_goto (tgt := 2207) C.1 C.2.1 dL_law_1201 (by decide) ?_
    exact kk _ _ _ _ _ _ _ _ _ _ _ _ G (by omega) (by omega) (lv_sub hl [2, 3, 4, 5, 6] rfl)
set_option maxHeartbeats 4000000 in
set_option maxRecDepth 100000 in
theorem lk_18 (hlq : l.stackTraces = false) (C : CallFix p m c0 cL_law 7 s args T0 RL) (Z : zLw D cB t N g s) (Y : zAd o a u v w s) {c : Nat → Nat} {ac re kn : Int32} {th : Int} {n : Int64} {sv : Value} {H : Heap} {locs : List Loc} {ls : Array Slot} {cells slots : Nat} (G : zG D cJ o a u v w c [.int ac, .int re, .int kn] c [.int (iZ th), .int ac, .int re, .int kn] n sv s H locs) (x : Int) (hx : 0 ≤ x ∧ x + 5 ≤ (N : Int)) (hf : cells + 150 ≤ 665987 ∧ slots + 75000 ≤ 7103520) (hl : lv_has ls 7 [(0, .ref t), (1, .ref o), (2, .ref u), (3, .ref w), (4, .int (iZ (x)))])
    (kk : zNx p l e s m args below meth c0 D cJ t o a u v w x cells slots Qw 2207) : W p l e room_1 s m args below meth c0 H locs cells slots Qw (F0 m 1204 ls []) := by
  have hc := G.1.2.2.2
  obtain ⟨q1, e1⟩ : ∃ z, g (x.toNat + 1) = z := ⟨_, rfl⟩
  have r1 : -2147483648 ≤ q1 ∧ q1 ≤ 2147483647 := e1 ▸ Z.2.2.2.2.2.1 _
  obtain ⟨q2, e2⟩ : ∃ z, g (x.toNat + 2) = z := ⟨_, rfl⟩
  have r2 : -2147483648 ≤ q2 ∧ q2 ≤ 2147483647 := e2 ▸ Z.2.2.2.2.2.1 _
  by_cases hcel : (0 ≤ q1 ∧ q1 ≤ 5) ∧ (0 ≤ q2 ∧ q2 ≤ 5)
  · skip
    refine lv_aload_n C.1 C.2.1 dL_law_1204 rfl (lv_at hl 1 rfl) ?_
    refine lv_aload_n C.1 C.2.1 dL_law_1205 rfl (lv_at hl 0 rfl) ?_
    refine lv_iload C.1 C.2.1 dL_law_1206 (lv_at hl 4 rfl) ?_
    refine z_iconst C dL_law_1208 ?_
    refine z_iadd C dL_law_1209 ?_
    refine zd_ld C Z G q1 (x.toNat + 1) e1 (by omega) (by omega) dL_law_1210 ?_
    refine lv_aload_n C.1 C.2.1 dL_law_1211 rfl (lv_at hl 0 rfl) ?_
    refine lv_iload C.1 C.2.1 dL_law_1212 (lv_at hl 4 rfl) ?_
    refine z_iconst C dL_law_1214 ?_
    refine z_iadd C dL_law_1215 ?_
    refine zd_ld C Z G q2 (x.toNat + 2) e2 (by omega) (by omega) dL_law_1216 ?_
    refine lv_aload_n C.1 C.2.1 dL_law_1217 rfl (lv_at hl 3 rfl) ?_
    refine zd_W (as := [.ref o, .int (iZ (q1)), .int (iZ (q2)), .ref w]) C Z Y G (c_L_turn l D cJ o a _ _ _ _ (q1) (q2) (by first | assumption | omega) (by first | assumption | omega) w _ _) ml_L_236 ⟨Nat.le_of_ble_eq_true rfl, Nat.le_of_ble_eq_true rfl⟩ ⟨by show cells + 0 + 0 ≤ 665987; omega, by show slots + 0 + 0 ≤ 7103520; omega⟩ hl (Nat.le_of_ble_eq_true rfl) rfl dL_law_1218 (fun H locs G => ?_)
    refine lv_istore (lv' := [(5, .int (iZ (0))), (0, .ref t), (1, .ref o), (2, .ref u), (3, .ref w), (4, .int (iZ (x)))]) C.1 C.2.1 dL_law_1221 hl (by decide) rfl (fun ls hl => ?_)
    refine lv_aload_n C.1 C.2.1 dL_law_1223 rfl (lv_at hl 3 rfl) ?_
    refine lv_aload_n C.1 C.2.1 dL_law_1224 rfl (lv_at hl 1 rfl) ?_
    refine lv_iload C.1 C.2.1 dL_law_1225 (lv_at hl 5 rfl) ?_
    refine z_iconst C dL_law_1227 ?_
    refine z_iadd C dL_law_1228 ?_
    refine zd_ld C Z G q1 (x.toNat + 1) e1 (by omega) (by omega) dL_law_1229 ?_
    refine lv_aload_n C.1 C.2.1 dL_law_1230 rfl (lv_at hl 1 rfl) ?_
    refine lv_iload C.1 C.2.1 dL_law_1231 (lv_at hl 5 rfl) ?_
    refine z_iconst C dL_law_1233 ?_
    refine z_iadd C dL_law_1234 ?_
    refine zd_ld C Z G q2 (x.toNat + 2) e2 (by omega) (by omega) dL_law_1235 ?_
    refine zd_M (as := [.int (iZ (q1)), .int (iZ (q2))]) C Y G (c_X5_turn l D cJ u v _ _ _ _ _ (q1) (q2) (by first | assumption | omega) (by first | assumption | omega)) ml_L_238 rfl ⟨Nat.le_of_ble_eq_true rfl, Nat.le_of_ble_eq_true rfl⟩ ⟨by show cells + 0 + 0 ≤ 665987; omega, by show slots + 0 + 0 ≤ 7103520; omega⟩ hl (Nat.le_of_ble_eq_true rfl) rfl dL_law_1236 (fun y9 H locs hy9 G => ?_)
    subst hy9
    refine lv_istore (lv' := [(6, _), (5, .int (iZ (0))), (0, .ref t), (1, .ref o), (2, .ref u), (3, .ref w), (4, .int (iZ (x)))]) C.1 C.2.1 dL_law_1239 hl (by decide) rfl (fun ls hl => ?_)
    refine lv_goto (tgt := 2207) C.1 C.2.1 dL_law_1241 (by decide) ?_
    rw [tu_eq] at G
    exact kk _ _ _ _ _ _ _ _ _ _ _ _ G (by omega) (by omega) (lv_sub hl [2, 3, 4, 5, 6] rfl)
  · skip
    refine lv_aload_n C.1 C.2.1 dL_law_1204 rfl (lv_at hl 1 rfl) ?_
    refine lv_aload_n C.1 C.2.1 dL_law_1205 rfl (lv_at hl 0 rfl) ?_
    refine lv_iload C.1 C.2.1 dL_law_1206 (lv_at hl 4 rfl) ?_
    refine z_iconst C dL_law_1208 ?_
    refine z_iadd C dL_law_1209 ?_
    refine zd_ld C Z G q1 (x.toNat + 1) e1 (by omega) (by omega) dL_law_1210 ?_
    refine lv_aload_n C.1 C.2.1 dL_law_1211 rfl (lv_at hl 0 rfl) ?_
    refine lv_iload C.1 C.2.1 dL_law_1212 (lv_at hl 4 rfl) ?_
    refine z_iconst C dL_law_1214 ?_
    refine z_iadd C dL_law_1215 ?_
    refine zd_ld C Z G q2 (x.toNat + 2) e2 (by omega) (by omega) dL_law_1216 ?_
    refine lv_aload_n C.1 C.2.1 dL_law_1217 rfl (lv_at hl 3 rfl) ?_
    refine zd_W (as := [.ref o, .int (iZ (q1)), .int (iZ (q2)), .ref w]) C Z Y G (c_L_turn_badc l hlq D cJ o a _ _ _ _ (q1) (q2) (by first | assumption | omega) (by first | assumption | omega) (by first | assumption | omega) w _ _) ml_L_236 ⟨Nat.le_of_ble_eq_true rfl, Nat.le_of_ble_eq_true rfl⟩ ⟨by show cells + 0 + 1 ≤ 665987; omega, by show slots + 0 + 6 ≤ 7103520; omega⟩ hl (Nat.le_of_ble_eq_true rfl) rfl dL_law_1218 (fun H locs G => ?_)
    refine lv_istore (lv' := [(5, .int (iZ (1))), (0, .ref t), (1, .ref o), (2, .ref u), (3, .ref w), (4, .int (iZ (x)))]) C.1 C.2.1 dL_law_1221 hl (by decide) rfl (fun ls hl => ?_)
    refine lv_aload_n C.1 C.2.1 dL_law_1223 rfl (lv_at hl 3 rfl) ?_
    refine lv_aload_n C.1 C.2.1 dL_law_1224 rfl (lv_at hl 1 rfl) ?_
    refine lv_iload C.1 C.2.1 dL_law_1225 (lv_at hl 5 rfl) ?_
    refine z_iconst C dL_law_1227 ?_
    refine z_iadd C dL_law_1228 ?_
    refine zd_ld C Z G q1 (x.toNat + 1) e1 (by omega) (by omega) dL_law_1229 ?_
    refine lv_aload_n C.1 C.2.1 dL_law_1230 rfl (lv_at hl 1 rfl) ?_
    refine lv_iload C.1 C.2.1 dL_law_1231 (lv_at hl 5 rfl) ?_
    refine z_iconst C dL_law_1233 ?_
    refine z_iadd C dL_law_1234 ?_
    refine zd_ld C Z G q2 (x.toNat + 2) e2 (by omega) (by omega) dL_law_1235 ?_
    refine zd_M (as := [.int (iZ (q1)), .int (iZ (q2))]) C Y G (c_X5_turn_bad1 l D cJ u v _ _ _ _ _ (q1) (q2) (by first | assumption | omega) (by first | assumption | omega) (by first | assumption | omega)) ml_L_238 rfl ⟨Nat.le_of_ble_eq_true rfl, Nat.le_of_ble_eq_true rfl⟩ ⟨by show cells + 1 + 0 ≤ 665987; omega, by show slots + 6 + 0 ≤ 7103520; omega⟩ hl (Nat.le_of_ble_eq_true rfl) rfl dL_law_1236 (fun y9 H locs hy9 G => ?_)
    subst hy9
    refine lv_istore (lv' := [(6, _), (5, .int (iZ (1))), (0, .ref t), (1, .ref o), (2, .ref u), (3, .ref w), (4, .int (iZ (x)))]) C.1 C.2.1 dL_law_1239 hl (by decide) rfl (fun ls hl => ?_)
    refine lv_goto (tgt := 2207) C.1 C.2.1 dL_law_1241 (by decide) ?_
    exact kk _ _ _ _ _ _ _ _ _ _ _ _ G (by omega) (by omega) (lv_sub hl [2, 3, 4, 5, 6] rfl)
set_option maxHeartbeats 4000000 in
set_option maxRecDepth 100000 in
theorem lk_19 (hlq : l.stackTraces = false) (C : CallFix p m c0 cL_law 7 s args T0 RL) (Z : zLw D cB t N g s) (Y : zAd o a u v w s) {c : Nat → Nat} {ac re kn : Int32} {th : Int} {n : Int64} {sv : Value} {H : Heap} {locs : List Loc} {ls : Array Slot} {cells slots : Nat} (G : zG D cJ o a u v w c [.int ac, .int re, .int kn] c [.int (iZ th), .int ac, .int re, .int kn] n sv s H locs) (x : Int) (hx : 0 ≤ x ∧ x + 5 ≤ (N : Int)) (hf : cells + 150 ≤ 665987 ∧ slots + 75000 ≤ 7103520) (hl : lv_has ls 7 [(0, .ref t), (1, .ref o), (2, .ref u), (3, .ref w), (4, .int (iZ (x)))])
    (kk : zNx p l e s m args below meth c0 D cJ t o a u v w x cells slots Qw 2207) : W p l e room_1 s m args below meth c0 H locs cells slots Qw (F0 m 1244 ls []) := by
  have hc := G.1.2.2.2
  obtain ⟨q1, e1⟩ : ∃ z, g (x.toNat + 1) = z := ⟨_, rfl⟩
  have r1 : -2147483648 ≤ q1 ∧ q1 ≤ 2147483647 := e1 ▸ Z.2.2.2.2.2.1 _
  obtain ⟨q2, e2⟩ : ∃ z, g (x.toNat + 2) = z := ⟨_, rfl⟩
  have r2 : -2147483648 ≤ q2 ∧ q2 ≤ 2147483647 := e2 ▸ Z.2.2.2.2.2.1 _
  by_cases hcel : (0 ≤ q1 ∧ q1 ≤ 5) ∧ (0 ≤ q2 ∧ q2 ≤ 5)
  · skip
    refine lv_aload_n C.1 C.2.1 dL_law_1244 rfl (lv_at hl 1 rfl) ?_
    refine lv_aload_n C.1 C.2.1 dL_law_1245 rfl (lv_at hl 0 rfl) ?_
    refine lv_iload C.1 C.2.1 dL_law_1246 (lv_at hl 4 rfl) ?_
    refine z_iconst C dL_law_1248 ?_
    refine z_iadd C dL_law_1249 ?_
    refine zd_ld C Z G q1 (x.toNat + 1) e1 (by omega) (by omega) dL_law_1250 ?_
    refine lv_aload_n C.1 C.2.1 dL_law_1251 rfl (lv_at hl 0 rfl) ?_
    refine lv_iload C.1 C.2.1 dL_law_1252 (lv_at hl 4 rfl) ?_
    refine z_iconst C dL_law_1254 ?_
    refine z_iadd C dL_law_1255 ?_
    refine zd_ld C Z G q2 (x.toNat + 2) e2 (by omega) (by omega) dL_law_1256 ?_
    refine lv_aload_n C.1 C.2.1 dL_law_1257 rfl (lv_at hl 3 rfl) ?_
    refine zd_W (as := [.ref o, .int (iZ (q1)), .int (iZ (q2)), .ref w]) C Z Y G (c_L_move l D cJ o a _ _ _ _ (q1) (q2) (by first | assumption | omega) (by first | assumption | omega) w _ _) ml_L_239 ⟨Nat.le_of_ble_eq_true rfl, Nat.le_of_ble_eq_true rfl⟩ ⟨by show cells + 0 + 0 ≤ 665987; omega, by show slots + 0 + 0 ≤ 7103520; omega⟩ hl (Nat.le_of_ble_eq_true rfl) rfl dL_law_1258 (fun H locs G => ?_)
    refine lv_istore (lv' := [(5, .int (iZ (0))), (0, .ref t), (1, .ref o), (2, .ref u), (3, .ref w), (4, .int (iZ (x)))]) C.1 C.2.1 dL_law_1261 hl (by decide) rfl (fun ls hl => ?_)
    refine lv_aload_n C.1 C.2.1 dL_law_1263 rfl (lv_at hl 3 rfl) ?_
    refine lv_aload_n C.1 C.2.1 dL_law_1264 rfl (lv_at hl 1 rfl) ?_
    refine lv_iload C.1 C.2.1 dL_law_1265 (lv_at hl 5 rfl) ?_
    refine z_iconst C dL_law_1267 ?_
    refine z_iadd C dL_law_1268 ?_
    refine zd_ld C Z G q1 (x.toNat + 1) e1 (by omega) (by omega) dL_law_1269 ?_
    refine lv_aload_n C.1 C.2.1 dL_law_1270 rfl (lv_at hl 1 rfl) ?_
    refine lv_iload C.1 C.2.1 dL_law_1271 (lv_at hl 5 rfl) ?_
    refine z_iconst C dL_law_1273 ?_
    refine z_iadd C dL_law_1274 ?_
    refine zd_ld C Z G q2 (x.toNat + 2) e2 (by omega) (by omega) dL_law_1275 ?_
    refine zd_M (as := [.int (iZ (q1)), .int (iZ (q2))]) C Y G (c_X5_move l D cJ u v _ _ _ _ _ (q1) (q2) (by first | assumption | omega) (by first | assumption | omega)) ml_L_241 rfl ⟨Nat.le_of_ble_eq_true rfl, Nat.le_of_ble_eq_true rfl⟩ ⟨by show cells + 0 + 0 ≤ 665987; omega, by show slots + 0 + 0 ≤ 7103520; omega⟩ hl (Nat.le_of_ble_eq_true rfl) rfl dL_law_1276 (fun y9 H locs hy9 G => ?_)
    subst hy9
    refine lv_istore (lv' := [(6, _), (5, .int (iZ (0))), (0, .ref t), (1, .ref o), (2, .ref u), (3, .ref w), (4, .int (iZ (x)))]) C.1 C.2.1 dL_law_1279 hl (by decide) rfl (fun ls hl => ?_)
    refine lv_goto (tgt := 2207) C.1 C.2.1 dL_law_1281 (by decide) ?_
    rw [mv_eq (hc _)] at G
    exact kk _ _ _ _ _ _ _ _ _ _ _ _ G (by omega) (by omega) (lv_sub hl [2, 3, 4, 5, 6] rfl)
  · skip
    refine lv_aload_n C.1 C.2.1 dL_law_1244 rfl (lv_at hl 1 rfl) ?_
    refine lv_aload_n C.1 C.2.1 dL_law_1245 rfl (lv_at hl 0 rfl) ?_
    refine lv_iload C.1 C.2.1 dL_law_1246 (lv_at hl 4 rfl) ?_
    refine z_iconst C dL_law_1248 ?_
    refine z_iadd C dL_law_1249 ?_
    refine zd_ld C Z G q1 (x.toNat + 1) e1 (by omega) (by omega) dL_law_1250 ?_
    refine lv_aload_n C.1 C.2.1 dL_law_1251 rfl (lv_at hl 0 rfl) ?_
    refine lv_iload C.1 C.2.1 dL_law_1252 (lv_at hl 4 rfl) ?_
    refine z_iconst C dL_law_1254 ?_
    refine z_iadd C dL_law_1255 ?_
    refine zd_ld C Z G q2 (x.toNat + 2) e2 (by omega) (by omega) dL_law_1256 ?_
    refine lv_aload_n C.1 C.2.1 dL_law_1257 rfl (lv_at hl 3 rfl) ?_
    refine zd_W (as := [.ref o, .int (iZ (q1)), .int (iZ (q2)), .ref w]) C Z Y G (c_L_move_badc l hlq D cJ o a _ _ _ _ (q1) (q2) (by first | assumption | omega) (by first | assumption | omega) (by first | assumption | omega) w _ _) ml_L_239 ⟨Nat.le_of_ble_eq_true rfl, Nat.le_of_ble_eq_true rfl⟩ ⟨by show cells + 0 + 1 ≤ 665987; omega, by show slots + 0 + 6 ≤ 7103520; omega⟩ hl (Nat.le_of_ble_eq_true rfl) rfl dL_law_1258 (fun H locs G => ?_)
    refine lv_istore (lv' := [(5, .int (iZ (1))), (0, .ref t), (1, .ref o), (2, .ref u), (3, .ref w), (4, .int (iZ (x)))]) C.1 C.2.1 dL_law_1261 hl (by decide) rfl (fun ls hl => ?_)
    refine lv_aload_n C.1 C.2.1 dL_law_1263 rfl (lv_at hl 3 rfl) ?_
    refine lv_aload_n C.1 C.2.1 dL_law_1264 rfl (lv_at hl 1 rfl) ?_
    refine lv_iload C.1 C.2.1 dL_law_1265 (lv_at hl 5 rfl) ?_
    refine z_iconst C dL_law_1267 ?_
    refine z_iadd C dL_law_1268 ?_
    refine zd_ld C Z G q1 (x.toNat + 1) e1 (by omega) (by omega) dL_law_1269 ?_
    refine lv_aload_n C.1 C.2.1 dL_law_1270 rfl (lv_at hl 1 rfl) ?_
    refine lv_iload C.1 C.2.1 dL_law_1271 (lv_at hl 5 rfl) ?_
    refine z_iconst C dL_law_1273 ?_
    refine z_iadd C dL_law_1274 ?_
    refine zd_ld C Z G q2 (x.toNat + 2) e2 (by omega) (by omega) dL_law_1275 ?_
    refine zd_M (as := [.int (iZ (q1)), .int (iZ (q2))]) C Y G (c_X5_move_bad1 l D cJ u v _ _ _ _ _ (q1) (q2) (by first | assumption | omega) (by first | assumption | omega) (by first | assumption | omega)) ml_L_241 rfl ⟨Nat.le_of_ble_eq_true rfl, Nat.le_of_ble_eq_true rfl⟩ ⟨by show cells + 1 + 0 ≤ 665987; omega, by show slots + 6 + 0 ≤ 7103520; omega⟩ hl (Nat.le_of_ble_eq_true rfl) rfl dL_law_1276 (fun y9 H locs hy9 G => ?_)
    subst hy9
    refine lv_istore (lv' := [(6, _), (5, .int (iZ (1))), (0, .ref t), (1, .ref o), (2, .ref u), (3, .ref w), (4, .int (iZ (x)))]) C.1 C.2.1 dL_law_1279 hl (by decide) rfl (fun ls hl => ?_)
    refine lv_goto (tgt := 2207) C.1 C.2.1 dL_law_1281 (by decide) ?_
    exact kk _ _ _ _ _ _ _ _ _ _ _ _ G (by omega) (by omega) (lv_sub hl [2, 3, 4, 5, 6] rfl)
set_option maxHeartbeats 4000000 in
set_option maxRecDepth 100000 in
theorem lk_20 (hlq : l.stackTraces = false) (C : CallFix p m c0 cL_law 7 s args T0 RL) (Z : zLw D cB t N g s) (Y : zAd o a u v w s) {c : Nat → Nat} {ac re kn : Int32} {th : Int} {n : Int64} {sv : Value} {H : Heap} {locs : List Loc} {ls : Array Slot} {cells slots : Nat} (G : zG D cJ o a u v w c [.int ac, .int re, .int kn] c [.int (iZ th), .int ac, .int re, .int kn] n sv s H locs) (x : Int) (hx : 0 ≤ x ∧ x + 5 ≤ (N : Int)) (hf : cells + 150 ≤ 665987 ∧ slots + 75000 ≤ 7103520) (hl : lv_has ls 7 [(0, .ref t), (1, .ref o), (2, .ref u), (3, .ref w), (4, .int (iZ (x)))])
    (kk : zNx p l e s m args below meth c0 D cJ t o a u v w x cells slots Qw 2207) : W p l e room_1 s m args below meth c0 H locs cells slots Qw (F0 m 1284 ls []) := by
  have hc := G.1.2.2.2
  obtain ⟨q1, e1⟩ : ∃ z, g (x.toNat + 1) = z := ⟨_, rfl⟩
  have r1 : -2147483648 ≤ q1 ∧ q1 ≤ 2147483647 := e1 ▸ Z.2.2.2.2.2.1 _
  obtain ⟨q2, e2⟩ : ∃ z, g (x.toNat + 2) = z := ⟨_, rfl⟩
  have r2 : -2147483648 ≤ q2 ∧ q2 ≤ 2147483647 := e2 ▸ Z.2.2.2.2.2.1 _
  obtain ⟨q3, e3⟩ : ∃ z, g (x.toNat + 3) = z := ⟨_, rfl⟩
  have r3 : -2147483648 ≤ q3 ∧ q3 ≤ 2147483647 := e3 ▸ Z.2.2.2.2.2.1 _
  obtain ⟨q4, e4⟩ : ∃ z, g (x.toNat + 4) = z := ⟨_, rfl⟩
  have r4 : -2147483648 ≤ q4 ∧ q4 ≤ 2147483647 := e4 ▸ Z.2.2.2.2.2.1 _
  by_cases hcel : (0 ≤ q1 ∧ q1 ≤ 5) ∧ (0 ≤ q3 ∧ q3 ≤ 5) ∧ (0 ≤ q4 ∧ q4 ≤ 5)
  · skip
    by_cases hrng : (0 ≤ q2 ∧ q2 ≤ 255)
    · skip
      refine lv_aload_n C.1 C.2.1 dL_law_1284 rfl (lv_at hl 1 rfl) ?_
      refine lv_aload_n C.1 C.2.1 dL_law_1285 rfl (lv_at hl 0 rfl) ?_
      refine lv_iload C.1 C.2.1 dL_law_1286 (lv_at hl 4 rfl) ?_
      refine z_iconst C dL_law_1288 ?_
      refine z_iadd C dL_law_1289 ?_
      refine zd_ld C Z G q1 (x.toNat + 1) e1 (by omega) (by omega) dL_law_1290 ?_
      refine lv_aload_n C.1 C.2.1 dL_law_1291 rfl (lv_at hl 0 rfl) ?_
      refine lv_iload C.1 C.2.1 dL_law_1292 (lv_at hl 4 rfl) ?_
      refine z_iconst C dL_law_1294 ?_
      refine z_iadd C dL_law_1295 ?_
      refine zd_ld C Z G q2 (x.toNat + 2) e2 (by omega) (by omega) dL_law_1296 ?_
      refine lv_aload_n C.1 C.2.1 dL_law_1297 rfl (lv_at hl 0 rfl) ?_
      refine lv_iload C.1 C.2.1 dL_law_1298 (lv_at hl 4 rfl) ?_
      refine z_iconst C dL_law_1300 ?_
      refine z_iadd C dL_law_1301 ?_
      refine zd_ld C Z G q3 (x.toNat + 3) e3 (by omega) (by omega) dL_law_1302 ?_
      refine lv_aload_n C.1 C.2.1 dL_law_1303 rfl (lv_at hl 0 rfl) ?_
      refine lv_iload C.1 C.2.1 dL_law_1304 (lv_at hl 4 rfl) ?_
      refine z_iconst C dL_law_1306 ?_
      refine z_iadd C dL_law_1307 ?_
      refine zd_ld C Z G q4 (x.toNat + 4) e4 (by omega) (by omega) dL_law_1308 ?_
      refine lv_aload_n C.1 C.2.1 dL_law_1309 rfl (lv_at hl 3 rfl) ?_
      refine zd_W (as := [.ref o, .int (iZ (q1)), .int (iZ (q2)), .int (iZ (q3)), .int (iZ (q4)), .ref w]) C Z Y G (c_L_power l D cJ o a _ _ _ _ (q1) (q2) (q3) (q4) (by first | assumption | omega) (by first | assumption | omega) (by first | assumption | omega) (by first | assumption | omega) w _ _) ml_L_242 ⟨Nat.le_of_ble_eq_true rfl, Nat.le_of_ble_eq_true rfl⟩ ⟨by show cells + 0 + 0 ≤ 665987; omega, by show slots + 0 + 0 ≤ 7103520; omega⟩ hl (Nat.le_of_ble_eq_true rfl) rfl dL_law_1310 (fun H locs G => ?_)
      refine lv_istore (lv' := [(5, .int (iZ (0))), (0, .ref t), (1, .ref o), (2, .ref u), (3, .ref w), (4, .int (iZ (x)))]) C.1 C.2.1 dL_law_1313 hl (by decide) rfl (fun ls hl => ?_)
      refine lv_aload_n C.1 C.2.1 dL_law_1315 rfl (lv_at hl 3 rfl) ?_
      refine lv_aload_n C.1 C.2.1 dL_law_1316 rfl (lv_at hl 1 rfl) ?_
      refine lv_iload C.1 C.2.1 dL_law_1317 (lv_at hl 5 rfl) ?_
      refine z_iconst C dL_law_1319 ?_
      refine z_iadd C dL_law_1320 ?_
      refine zd_ld C Z G q1 (x.toNat + 1) e1 (by omega) (by omega) dL_law_1321 ?_
      refine lv_aload_n C.1 C.2.1 dL_law_1322 rfl (lv_at hl 1 rfl) ?_
      refine lv_iload C.1 C.2.1 dL_law_1323 (lv_at hl 5 rfl) ?_
      refine z_iconst C dL_law_1325 ?_
      refine z_iadd C dL_law_1326 ?_
      refine zd_ld C Z G q2 (x.toNat + 2) e2 (by omega) (by omega) dL_law_1327 ?_
      refine lv_aload_n C.1 C.2.1 dL_law_1328 rfl (lv_at hl 1 rfl) ?_
      refine lv_iload C.1 C.2.1 dL_law_1329 (lv_at hl 5 rfl) ?_
      refine z_iconst C dL_law_1331 ?_
      refine z_iadd C dL_law_1332 ?_
      refine zd_ld C Z G q3 (x.toNat + 3) e3 (by omega) (by omega) dL_law_1333 ?_
      refine lv_aload_n C.1 C.2.1 dL_law_1334 rfl (lv_at hl 1 rfl) ?_
      refine lv_iload C.1 C.2.1 dL_law_1335 (lv_at hl 5 rfl) ?_
      refine z_iconst C dL_law_1337 ?_
      refine z_iadd C dL_law_1338 ?_
      refine zd_ld C Z G q4 (x.toNat + 4) e4 (by omega) (by omega) dL_law_1339 ?_
      refine zd_M (as := [.int (iZ (q1)), .int (iZ (q2)), .int (iZ (q3)), .int (iZ (q4))]) C Y G (c_X5_power l D cJ u v _ _ _ _ _ (q1) (q2) (q3) (q4) (by first | assumption | omega) (by first | assumption | omega) (by first | assumption | omega) (by first | assumption | omega)) ml_L_244 rfl ⟨Nat.le_of_ble_eq_true rfl, Nat.le_of_ble_eq_true rfl⟩ ⟨by show cells + 0 + 0 ≤ 665987; omega, by show slots + 0 + 0 ≤ 7103520; omega⟩ hl (Nat.le_of_ble_eq_true rfl) rfl dL_law_1340 (fun y9 H locs hy9 G => ?_)
      subst hy9
      refine lv_istore (lv' := [(6, _), (5, .int (iZ (0))), (0, .ref t), (1, .ref o), (2, .ref u), (3, .ref w), (4, .int (iZ (x)))]) C.1 C.2.1 dL_law_1343 hl (by decide) rfl (fun ls hl => ?_)
      refine lv_goto (tgt := 2207) C.1 C.2.1 dL_law_1345 (by decide) ?_
      rw [wP_eq (hc _) (hc _) (by omega)] at G
      exact kk _ _ _ _ _ _ _ _ _ _ _ _ G (by omega) (by omega) (lv_sub hl [2, 3, 4, 5, 6] rfl)
    · skip
      refine lv_aload_n C.1 C.2.1 dL_law_1284 rfl (lv_at hl 1 rfl) ?_
      refine lv_aload_n C.1 C.2.1 dL_law_1285 rfl (lv_at hl 0 rfl) ?_
      refine lv_iload C.1 C.2.1 dL_law_1286 (lv_at hl 4 rfl) ?_
      refine z_iconst C dL_law_1288 ?_
      refine z_iadd C dL_law_1289 ?_
      refine zd_ld C Z G q1 (x.toNat + 1) e1 (by omega) (by omega) dL_law_1290 ?_
      refine lv_aload_n C.1 C.2.1 dL_law_1291 rfl (lv_at hl 0 rfl) ?_
      refine lv_iload C.1 C.2.1 dL_law_1292 (lv_at hl 4 rfl) ?_
      refine z_iconst C dL_law_1294 ?_
      refine z_iadd C dL_law_1295 ?_
      refine zd_ld C Z G q2 (x.toNat + 2) e2 (by omega) (by omega) dL_law_1296 ?_
      refine lv_aload_n C.1 C.2.1 dL_law_1297 rfl (lv_at hl 0 rfl) ?_
      refine lv_iload C.1 C.2.1 dL_law_1298 (lv_at hl 4 rfl) ?_
      refine z_iconst C dL_law_1300 ?_
      refine z_iadd C dL_law_1301 ?_
      refine zd_ld C Z G q3 (x.toNat + 3) e3 (by omega) (by omega) dL_law_1302 ?_
      refine lv_aload_n C.1 C.2.1 dL_law_1303 rfl (lv_at hl 0 rfl) ?_
      refine lv_iload C.1 C.2.1 dL_law_1304 (lv_at hl 4 rfl) ?_
      refine z_iconst C dL_law_1306 ?_
      refine z_iadd C dL_law_1307 ?_
      refine zd_ld C Z G q4 (x.toNat + 4) e4 (by omega) (by omega) dL_law_1308 ?_
      refine lv_aload_n C.1 C.2.1 dL_law_1309 rfl (lv_at hl 3 rfl) ?_
      refine zd_W (as := [.ref o, .int (iZ (q1)), .int (iZ (q2)), .int (iZ (q3)), .int (iZ (q4)), .ref w]) C Z Y G (c_L_power_badr l hlq D cJ o a _ _ _ _ (q1) (q2) (q3) (q4) (by first | assumption | omega) (by first | assumption | omega) (by first | assumption | omega) (by first | assumption | omega) (by first | assumption | omega) (by first | assumption | omega) (by first | assumption | omega) (by first | assumption | omega) w _ _) ml_L_242 ⟨Nat.le_of_ble_eq_true rfl, Nat.le_of_ble_eq_true rfl⟩ ⟨by show cells + 0 + 1 ≤ 665987; omega, by show slots + 0 + 6 ≤ 7103520; omega⟩ hl (Nat.le_of_ble_eq_true rfl) rfl dL_law_1310 (fun H locs G => ?_)
      refine lv_istore (lv' := [(5, .int (iZ (2))), (0, .ref t), (1, .ref o), (2, .ref u), (3, .ref w), (4, .int (iZ (x)))]) C.1 C.2.1 dL_law_1313 hl (by decide) rfl (fun ls hl => ?_)
      refine lv_aload_n C.1 C.2.1 dL_law_1315 rfl (lv_at hl 3 rfl) ?_
      refine lv_aload_n C.1 C.2.1 dL_law_1316 rfl (lv_at hl 1 rfl) ?_
      refine lv_iload C.1 C.2.1 dL_law_1317 (lv_at hl 5 rfl) ?_
      refine z_iconst C dL_law_1319 ?_
      refine z_iadd C dL_law_1320 ?_
      refine zd_ld C Z G q1 (x.toNat + 1) e1 (by omega) (by omega) dL_law_1321 ?_
      refine lv_aload_n C.1 C.2.1 dL_law_1322 rfl (lv_at hl 1 rfl) ?_
      refine lv_iload C.1 C.2.1 dL_law_1323 (lv_at hl 5 rfl) ?_
      refine z_iconst C dL_law_1325 ?_
      refine z_iadd C dL_law_1326 ?_
      refine zd_ld C Z G q2 (x.toNat + 2) e2 (by omega) (by omega) dL_law_1327 ?_
      refine lv_aload_n C.1 C.2.1 dL_law_1328 rfl (lv_at hl 1 rfl) ?_
      refine lv_iload C.1 C.2.1 dL_law_1329 (lv_at hl 5 rfl) ?_
      refine z_iconst C dL_law_1331 ?_
      refine z_iadd C dL_law_1332 ?_
      refine zd_ld C Z G q3 (x.toNat + 3) e3 (by omega) (by omega) dL_law_1333 ?_
      refine lv_aload_n C.1 C.2.1 dL_law_1334 rfl (lv_at hl 1 rfl) ?_
      refine lv_iload C.1 C.2.1 dL_law_1335 (lv_at hl 5 rfl) ?_
      refine z_iconst C dL_law_1337 ?_
      refine z_iadd C dL_law_1338 ?_
      refine zd_ld C Z G q4 (x.toNat + 4) e4 (by omega) (by omega) dL_law_1339 ?_
      refine zd_M (as := [.int (iZ (q1)), .int (iZ (q2)), .int (iZ (q3)), .int (iZ (q4))]) C Y G (c_X5_power_bad2 l D cJ u v _ _ _ _ _ (q1) (q2) (q3) (q4) (by first | assumption | omega) (by first | assumption | omega) (by first | assumption | omega) (by first | assumption | omega) (by first | assumption | omega) (by first | assumption | omega)) ml_L_244 rfl ⟨Nat.le_of_ble_eq_true rfl, Nat.le_of_ble_eq_true rfl⟩ ⟨by show cells + 1 + 0 ≤ 665987; omega, by show slots + 6 + 0 ≤ 7103520; omega⟩ hl (Nat.le_of_ble_eq_true rfl) rfl dL_law_1340 (fun y9 H locs hy9 G => ?_)
      subst hy9
      refine lv_istore (lv' := [(6, _), (5, .int (iZ (2))), (0, .ref t), (1, .ref o), (2, .ref u), (3, .ref w), (4, .int (iZ (x)))]) C.1 C.2.1 dL_law_1343 hl (by decide) rfl (fun ls hl => ?_)
      refine lv_goto (tgt := 2207) C.1 C.2.1 dL_law_1345 (by decide) ?_
      exact kk _ _ _ _ _ _ _ _ _ _ _ _ G (by omega) (by omega) (lv_sub hl [2, 3, 4, 5, 6] rfl)
  · skip
    refine lv_aload_n C.1 C.2.1 dL_law_1284 rfl (lv_at hl 1 rfl) ?_
    refine lv_aload_n C.1 C.2.1 dL_law_1285 rfl (lv_at hl 0 rfl) ?_
    refine lv_iload C.1 C.2.1 dL_law_1286 (lv_at hl 4 rfl) ?_
    refine z_iconst C dL_law_1288 ?_
    refine z_iadd C dL_law_1289 ?_
    refine zd_ld C Z G q1 (x.toNat + 1) e1 (by omega) (by omega) dL_law_1290 ?_
    refine lv_aload_n C.1 C.2.1 dL_law_1291 rfl (lv_at hl 0 rfl) ?_
    refine lv_iload C.1 C.2.1 dL_law_1292 (lv_at hl 4 rfl) ?_
    refine z_iconst C dL_law_1294 ?_
    refine z_iadd C dL_law_1295 ?_
    refine zd_ld C Z G q2 (x.toNat + 2) e2 (by omega) (by omega) dL_law_1296 ?_
    refine lv_aload_n C.1 C.2.1 dL_law_1297 rfl (lv_at hl 0 rfl) ?_
    refine lv_iload C.1 C.2.1 dL_law_1298 (lv_at hl 4 rfl) ?_
    refine z_iconst C dL_law_1300 ?_
    refine z_iadd C dL_law_1301 ?_
    refine zd_ld C Z G q3 (x.toNat + 3) e3 (by omega) (by omega) dL_law_1302 ?_
    refine lv_aload_n C.1 C.2.1 dL_law_1303 rfl (lv_at hl 0 rfl) ?_
    refine lv_iload C.1 C.2.1 dL_law_1304 (lv_at hl 4 rfl) ?_
    refine z_iconst C dL_law_1306 ?_
    refine z_iadd C dL_law_1307 ?_
    refine zd_ld C Z G q4 (x.toNat + 4) e4 (by omega) (by omega) dL_law_1308 ?_
    refine lv_aload_n C.1 C.2.1 dL_law_1309 rfl (lv_at hl 3 rfl) ?_
    refine zd_W (as := [.ref o, .int (iZ (q1)), .int (iZ (q2)), .int (iZ (q3)), .int (iZ (q4)), .ref w]) C Z Y G (c_L_power_badc l hlq D cJ o a _ _ _ _ (q1) (q2) (q3) (q4) (by first | assumption | omega) (by first | assumption | omega) (by first | assumption | omega) (by first | assumption | omega) (by first | assumption | omega) w _ _) ml_L_242 ⟨Nat.le_of_ble_eq_true rfl, Nat.le_of_ble_eq_true rfl⟩ ⟨by show cells + 0 + 1 ≤ 665987; omega, by show slots + 0 + 6 ≤ 7103520; omega⟩ hl (Nat.le_of_ble_eq_true rfl) rfl dL_law_1310 (fun H locs G => ?_)
    refine lv_istore (lv' := [(5, .int (iZ (1))), (0, .ref t), (1, .ref o), (2, .ref u), (3, .ref w), (4, .int (iZ (x)))]) C.1 C.2.1 dL_law_1313 hl (by decide) rfl (fun ls hl => ?_)
    refine lv_aload_n C.1 C.2.1 dL_law_1315 rfl (lv_at hl 3 rfl) ?_
    refine lv_aload_n C.1 C.2.1 dL_law_1316 rfl (lv_at hl 1 rfl) ?_
    refine lv_iload C.1 C.2.1 dL_law_1317 (lv_at hl 5 rfl) ?_
    refine z_iconst C dL_law_1319 ?_
    refine z_iadd C dL_law_1320 ?_
    refine zd_ld C Z G q1 (x.toNat + 1) e1 (by omega) (by omega) dL_law_1321 ?_
    refine lv_aload_n C.1 C.2.1 dL_law_1322 rfl (lv_at hl 1 rfl) ?_
    refine lv_iload C.1 C.2.1 dL_law_1323 (lv_at hl 5 rfl) ?_
    refine z_iconst C dL_law_1325 ?_
    refine z_iadd C dL_law_1326 ?_
    refine zd_ld C Z G q2 (x.toNat + 2) e2 (by omega) (by omega) dL_law_1327 ?_
    refine lv_aload_n C.1 C.2.1 dL_law_1328 rfl (lv_at hl 1 rfl) ?_
    refine lv_iload C.1 C.2.1 dL_law_1329 (lv_at hl 5 rfl) ?_
    refine z_iconst C dL_law_1331 ?_
    refine z_iadd C dL_law_1332 ?_
    refine zd_ld C Z G q3 (x.toNat + 3) e3 (by omega) (by omega) dL_law_1333 ?_
    refine lv_aload_n C.1 C.2.1 dL_law_1334 rfl (lv_at hl 1 rfl) ?_
    refine lv_iload C.1 C.2.1 dL_law_1335 (lv_at hl 5 rfl) ?_
    refine z_iconst C dL_law_1337 ?_
    refine z_iadd C dL_law_1338 ?_
    refine zd_ld C Z G q4 (x.toNat + 4) e4 (by omega) (by omega) dL_law_1339 ?_
    refine zd_M (as := [.int (iZ (q1)), .int (iZ (q2)), .int (iZ (q3)), .int (iZ (q4))]) C Y G (c_X5_power_bad1 l D cJ u v _ _ _ _ _ (q1) (q2) (q3) (q4) (by first | assumption | omega) (by first | assumption | omega) (by first | assumption | omega) (by first | assumption | omega) (by first | assumption | omega)) ml_L_244 rfl ⟨Nat.le_of_ble_eq_true rfl, Nat.le_of_ble_eq_true rfl⟩ ⟨by show cells + 1 + 0 ≤ 665987; omega, by show slots + 6 + 0 ≤ 7103520; omega⟩ hl (Nat.le_of_ble_eq_true rfl) rfl dL_law_1340 (fun y9 H locs hy9 G => ?_)
    subst hy9
    refine lv_istore (lv' := [(6, _), (5, .int (iZ (1))), (0, .ref t), (1, .ref o), (2, .ref u), (3, .ref w), (4, .int (iZ (x)))]) C.1 C.2.1 dL_law_1343 hl (by decide) rfl (fun ls hl => ?_)
    refine lv_goto (tgt := 2207) C.1 C.2.1 dL_law_1345 (by decide) ?_
    exact kk _ _ _ _ _ _ _ _ _ _ _ _ G (by omega) (by omega) (lv_sub hl [2, 3, 4, 5, 6] rfl)
set_option maxHeartbeats 4000000 in
set_option maxRecDepth 100000 in
theorem lk_21 (hlq : l.stackTraces = false) (C : CallFix p m c0 cL_law 7 s args T0 RL) (Z : zLw D cB t N g s) (Y : zAd o a u v w s) {c : Nat → Nat} {ac re kn : Int32} {th : Int} {n : Int64} {sv : Value} {H : Heap} {locs : List Loc} {ls : Array Slot} {cells slots : Nat} (G : zG D cJ o a u v w c [.int ac, .int re, .int kn] c [.int (iZ th), .int ac, .int re, .int kn] n sv s H locs) (x : Int) (hx : 0 ≤ x ∧ x + 5 ≤ (N : Int)) (hf : cells + 150 ≤ 665987 ∧ slots + 75000 ≤ 7103520) (hl : lv_has ls 7 [(0, .ref t), (1, .ref o), (2, .ref u), (3, .ref w), (4, .int (iZ (x)))])
    (kk : zNx p l e s m args below meth c0 D cJ t o a u v w x cells slots Qw 2207) : W p l e room_1 s m args below meth c0 H locs cells slots Qw (F0 m 1348 ls []) := by
  have hc := G.1.2.2.2
  obtain ⟨q1, e1⟩ : ∃ z, g (x.toNat + 1) = z := ⟨_, rfl⟩
  have r1 : -2147483648 ≤ q1 ∧ q1 ≤ 2147483647 := e1 ▸ Z.2.2.2.2.2.1 _
  obtain ⟨q2, e2⟩ : ∃ z, g (x.toNat + 2) = z := ⟨_, rfl⟩
  have r2 : -2147483648 ≤ q2 ∧ q2 ≤ 2147483647 := e2 ▸ Z.2.2.2.2.2.1 _
  obtain ⟨q3, e3⟩ : ∃ z, g (x.toNat + 3) = z := ⟨_, rfl⟩
  have r3 : -2147483648 ≤ q3 ∧ q3 ≤ 2147483647 := e3 ▸ Z.2.2.2.2.2.1 _
  by_cases hcel : (0 ≤ q3 ∧ q3 ≤ 5)
  · skip
    by_cases hrng : (1 ≤ q1 ∧ q1 ≤ 8) ∧ (0 ≤ q2 ∧ q2 ≤ 40)
    · skip
      refine lv_aload_n C.1 C.2.1 dL_law_1348 rfl (lv_at hl 1 rfl) ?_
      refine lv_aload_n C.1 C.2.1 dL_law_1349 rfl (lv_at hl 0 rfl) ?_
      refine lv_iload C.1 C.2.1 dL_law_1350 (lv_at hl 4 rfl) ?_
      refine z_iconst C dL_law_1352 ?_
      refine z_iadd C dL_law_1353 ?_
      refine zd_ld C Z G q1 (x.toNat + 1) e1 (by omega) (by omega) dL_law_1354 ?_
      refine lv_aload_n C.1 C.2.1 dL_law_1355 rfl (lv_at hl 0 rfl) ?_
      refine lv_iload C.1 C.2.1 dL_law_1356 (lv_at hl 4 rfl) ?_
      refine z_iconst C dL_law_1358 ?_
      refine z_iadd C dL_law_1359 ?_
      refine zd_ld C Z G q2 (x.toNat + 2) e2 (by omega) (by omega) dL_law_1360 ?_
      refine lv_aload_n C.1 C.2.1 dL_law_1361 rfl (lv_at hl 0 rfl) ?_
      refine lv_iload C.1 C.2.1 dL_law_1362 (lv_at hl 4 rfl) ?_
      refine z_iconst C dL_law_1364 ?_
      refine z_iadd C dL_law_1365 ?_
      refine zd_ld C Z G q3 (x.toNat + 3) e3 (by omega) (by omega) dL_law_1366 ?_
      refine lv_aload_n C.1 C.2.1 dL_law_1367 rfl (lv_at hl 3 rfl) ?_
      refine zd_W (as := [.ref o, .int (iZ (q1)), .int (iZ (q2)), .int (iZ (q3)), .ref w]) C Z Y G (c_L_nth l D cJ o a _ _ _ _ (q1) (q2) (q3) (by first | assumption | omega) (by first | assumption | omega) (by first | assumption | omega) w _ _) ml_L_245 ⟨Nat.le_of_ble_eq_true rfl, Nat.le_of_ble_eq_true rfl⟩ ⟨by show cells + 0 + 0 ≤ 665987; omega, by show slots + 0 + 0 ≤ 7103520; omega⟩ hl (Nat.le_of_ble_eq_true rfl) rfl dL_law_1368 (fun H locs G => ?_)
      refine lv_istore (lv' := [(5, .int (iZ (0))), (0, .ref t), (1, .ref o), (2, .ref u), (3, .ref w), (4, .int (iZ (x)))]) C.1 C.2.1 dL_law_1371 hl (by decide) rfl (fun ls hl => ?_)
      refine lv_aload_n C.1 C.2.1 dL_law_1373 rfl (lv_at hl 3 rfl) ?_
      refine lv_aload_n C.1 C.2.1 dL_law_1374 rfl (lv_at hl 1 rfl) ?_
      refine lv_iload C.1 C.2.1 dL_law_1375 (lv_at hl 5 rfl) ?_
      refine z_iconst C dL_law_1377 ?_
      refine z_iadd C dL_law_1378 ?_
      refine zd_ld C Z G q1 (x.toNat + 1) e1 (by omega) (by omega) dL_law_1379 ?_
      refine lv_aload_n C.1 C.2.1 dL_law_1380 rfl (lv_at hl 1 rfl) ?_
      refine lv_iload C.1 C.2.1 dL_law_1381 (lv_at hl 5 rfl) ?_
      refine z_iconst C dL_law_1383 ?_
      refine z_iadd C dL_law_1384 ?_
      refine zd_ld C Z G q2 (x.toNat + 2) e2 (by omega) (by omega) dL_law_1385 ?_
      refine lv_aload_n C.1 C.2.1 dL_law_1386 rfl (lv_at hl 1 rfl) ?_
      refine lv_iload C.1 C.2.1 dL_law_1387 (lv_at hl 5 rfl) ?_
      refine z_iconst C dL_law_1389 ?_
      refine z_iadd C dL_law_1390 ?_
      refine zd_ld C Z G q3 (x.toNat + 3) e3 (by omega) (by omega) dL_law_1391 ?_
      refine zd_M (as := [.int (iZ (q1)), .int (iZ (q2)), .int (iZ (q3))]) C Y G (c_X5_nth l D cJ u v _ _ _ _ _ (q1) (q2) (q3) (by first | assumption | omega) (by first | assumption | omega) (by first | assumption | omega)) ml_L_247 rfl ⟨Nat.le_of_ble_eq_true rfl, Nat.le_of_ble_eq_true rfl⟩ ⟨by show cells + 0 + 0 ≤ 665987; omega, by show slots + 0 + 0 ≤ 7103520; omega⟩ hl (Nat.le_of_ble_eq_true rfl) rfl dL_law_1392 (fun y9 H locs hy9 G => ?_)
      subst hy9
      refine lv_istore (lv' := [(6, _), (5, .int (iZ (0))), (0, .ref t), (1, .ref o), (2, .ref u), (3, .ref w), (4, .int (iZ (x)))]) C.1 C.2.1 dL_law_1395 hl (by decide) rfl (fun ls hl => ?_)
      refine lv_goto (tgt := 2207) C.1 C.2.1 dL_law_1397 (by decide) ?_
      exact kk _ _ _ _ _ _ _ _ _ _ _ _ G (by omega) (by omega) (lv_sub hl [2, 3, 4, 5, 6] rfl)
    · skip
      refine lv_aload_n C.1 C.2.1 dL_law_1348 rfl (lv_at hl 1 rfl) ?_
      refine lv_aload_n C.1 C.2.1 dL_law_1349 rfl (lv_at hl 0 rfl) ?_
      refine lv_iload C.1 C.2.1 dL_law_1350 (lv_at hl 4 rfl) ?_
      refine z_iconst C dL_law_1352 ?_
      refine z_iadd C dL_law_1353 ?_
      refine zd_ld C Z G q1 (x.toNat + 1) e1 (by omega) (by omega) dL_law_1354 ?_
      refine lv_aload_n C.1 C.2.1 dL_law_1355 rfl (lv_at hl 0 rfl) ?_
      refine lv_iload C.1 C.2.1 dL_law_1356 (lv_at hl 4 rfl) ?_
      refine z_iconst C dL_law_1358 ?_
      refine z_iadd C dL_law_1359 ?_
      refine zd_ld C Z G q2 (x.toNat + 2) e2 (by omega) (by omega) dL_law_1360 ?_
      refine lv_aload_n C.1 C.2.1 dL_law_1361 rfl (lv_at hl 0 rfl) ?_
      refine lv_iload C.1 C.2.1 dL_law_1362 (lv_at hl 4 rfl) ?_
      refine z_iconst C dL_law_1364 ?_
      refine z_iadd C dL_law_1365 ?_
      refine zd_ld C Z G q3 (x.toNat + 3) e3 (by omega) (by omega) dL_law_1366 ?_
      refine lv_aload_n C.1 C.2.1 dL_law_1367 rfl (lv_at hl 3 rfl) ?_
      refine zd_W (as := [.ref o, .int (iZ (q1)), .int (iZ (q2)), .int (iZ (q3)), .ref w]) C Z Y G (c_L_nth_badr l hlq D cJ o a _ _ _ _ (q1) (q2) (q3) (by first | assumption | omega) (by first | assumption | omega) (by first | assumption | omega) (by first | assumption | omega) (by first | assumption | omega) w _ _) ml_L_245 ⟨Nat.le_of_ble_eq_true rfl, Nat.le_of_ble_eq_true rfl⟩ ⟨by show cells + 0 + 1 ≤ 665987; omega, by show slots + 0 + 6 ≤ 7103520; omega⟩ hl (Nat.le_of_ble_eq_true rfl) rfl dL_law_1368 (fun H locs G => ?_)
      refine lv_istore (lv' := [(5, .int (iZ (2))), (0, .ref t), (1, .ref o), (2, .ref u), (3, .ref w), (4, .int (iZ (x)))]) C.1 C.2.1 dL_law_1371 hl (by decide) rfl (fun ls hl => ?_)
      refine lv_aload_n C.1 C.2.1 dL_law_1373 rfl (lv_at hl 3 rfl) ?_
      refine lv_aload_n C.1 C.2.1 dL_law_1374 rfl (lv_at hl 1 rfl) ?_
      refine lv_iload C.1 C.2.1 dL_law_1375 (lv_at hl 5 rfl) ?_
      refine z_iconst C dL_law_1377 ?_
      refine z_iadd C dL_law_1378 ?_
      refine zd_ld C Z G q1 (x.toNat + 1) e1 (by omega) (by omega) dL_law_1379 ?_
      refine lv_aload_n C.1 C.2.1 dL_law_1380 rfl (lv_at hl 1 rfl) ?_
      refine lv_iload C.1 C.2.1 dL_law_1381 (lv_at hl 5 rfl) ?_
      refine z_iconst C dL_law_1383 ?_
      refine z_iadd C dL_law_1384 ?_
      refine zd_ld C Z G q2 (x.toNat + 2) e2 (by omega) (by omega) dL_law_1385 ?_
      refine lv_aload_n C.1 C.2.1 dL_law_1386 rfl (lv_at hl 1 rfl) ?_
      refine lv_iload C.1 C.2.1 dL_law_1387 (lv_at hl 5 rfl) ?_
      refine z_iconst C dL_law_1389 ?_
      refine z_iadd C dL_law_1390 ?_
      refine zd_ld C Z G q3 (x.toNat + 3) e3 (by omega) (by omega) dL_law_1391 ?_
      refine zd_M (as := [.int (iZ (q1)), .int (iZ (q2)), .int (iZ (q3))]) C Y G (c_X5_nth_bad2 l D cJ u v _ _ _ _ _ (q1) (q2) (q3) (by first | assumption | omega) (by first | assumption | omega) (by first | assumption | omega) (by first | assumption | omega) (by first | assumption | omega)) ml_L_247 rfl ⟨Nat.le_of_ble_eq_true rfl, Nat.le_of_ble_eq_true rfl⟩ ⟨by show cells + 1 + 0 ≤ 665987; omega, by show slots + 6 + 0 ≤ 7103520; omega⟩ hl (Nat.le_of_ble_eq_true rfl) rfl dL_law_1392 (fun y9 H locs hy9 G => ?_)
      subst hy9
      refine lv_istore (lv' := [(6, _), (5, .int (iZ (2))), (0, .ref t), (1, .ref o), (2, .ref u), (3, .ref w), (4, .int (iZ (x)))]) C.1 C.2.1 dL_law_1395 hl (by decide) rfl (fun ls hl => ?_)
      refine lv_goto (tgt := 2207) C.1 C.2.1 dL_law_1397 (by decide) ?_
      exact kk _ _ _ _ _ _ _ _ _ _ _ _ G (by omega) (by omega) (lv_sub hl [2, 3, 4, 5, 6] rfl)
  · skip
    refine lv_aload_n C.1 C.2.1 dL_law_1348 rfl (lv_at hl 1 rfl) ?_
    refine lv_aload_n C.1 C.2.1 dL_law_1349 rfl (lv_at hl 0 rfl) ?_
    refine lv_iload C.1 C.2.1 dL_law_1350 (lv_at hl 4 rfl) ?_
    refine z_iconst C dL_law_1352 ?_
    refine z_iadd C dL_law_1353 ?_
    refine zd_ld C Z G q1 (x.toNat + 1) e1 (by omega) (by omega) dL_law_1354 ?_
    refine lv_aload_n C.1 C.2.1 dL_law_1355 rfl (lv_at hl 0 rfl) ?_
    refine lv_iload C.1 C.2.1 dL_law_1356 (lv_at hl 4 rfl) ?_
    refine z_iconst C dL_law_1358 ?_
    refine z_iadd C dL_law_1359 ?_
    refine zd_ld C Z G q2 (x.toNat + 2) e2 (by omega) (by omega) dL_law_1360 ?_
    refine lv_aload_n C.1 C.2.1 dL_law_1361 rfl (lv_at hl 0 rfl) ?_
    refine lv_iload C.1 C.2.1 dL_law_1362 (lv_at hl 4 rfl) ?_
    refine z_iconst C dL_law_1364 ?_
    refine z_iadd C dL_law_1365 ?_
    refine zd_ld C Z G q3 (x.toNat + 3) e3 (by omega) (by omega) dL_law_1366 ?_
    refine lv_aload_n C.1 C.2.1 dL_law_1367 rfl (lv_at hl 3 rfl) ?_
    refine zd_W (as := [.ref o, .int (iZ (q1)), .int (iZ (q2)), .int (iZ (q3)), .ref w]) C Z Y G (c_L_nth_badc l hlq D cJ o a _ _ _ _ (q1) (q2) (q3) (by first | assumption | omega) (by first | assumption | omega) (by first | assumption | omega) (by first | assumption | omega) w _ _) ml_L_245 ⟨Nat.le_of_ble_eq_true rfl, Nat.le_of_ble_eq_true rfl⟩ ⟨by show cells + 0 + 1 ≤ 665987; omega, by show slots + 0 + 6 ≤ 7103520; omega⟩ hl (Nat.le_of_ble_eq_true rfl) rfl dL_law_1368 (fun H locs G => ?_)
    refine lv_istore (lv' := [(5, .int (iZ (1))), (0, .ref t), (1, .ref o), (2, .ref u), (3, .ref w), (4, .int (iZ (x)))]) C.1 C.2.1 dL_law_1371 hl (by decide) rfl (fun ls hl => ?_)
    refine lv_aload_n C.1 C.2.1 dL_law_1373 rfl (lv_at hl 3 rfl) ?_
    refine lv_aload_n C.1 C.2.1 dL_law_1374 rfl (lv_at hl 1 rfl) ?_
    refine lv_iload C.1 C.2.1 dL_law_1375 (lv_at hl 5 rfl) ?_
    refine z_iconst C dL_law_1377 ?_
    refine z_iadd C dL_law_1378 ?_
    refine zd_ld C Z G q1 (x.toNat + 1) e1 (by omega) (by omega) dL_law_1379 ?_
    refine lv_aload_n C.1 C.2.1 dL_law_1380 rfl (lv_at hl 1 rfl) ?_
    refine lv_iload C.1 C.2.1 dL_law_1381 (lv_at hl 5 rfl) ?_
    refine z_iconst C dL_law_1383 ?_
    refine z_iadd C dL_law_1384 ?_
    refine zd_ld C Z G q2 (x.toNat + 2) e2 (by omega) (by omega) dL_law_1385 ?_
    refine lv_aload_n C.1 C.2.1 dL_law_1386 rfl (lv_at hl 1 rfl) ?_
    refine lv_iload C.1 C.2.1 dL_law_1387 (lv_at hl 5 rfl) ?_
    refine z_iconst C dL_law_1389 ?_
    refine z_iadd C dL_law_1390 ?_
    refine zd_ld C Z G q3 (x.toNat + 3) e3 (by omega) (by omega) dL_law_1391 ?_
    refine zd_M (as := [.int (iZ (q1)), .int (iZ (q2)), .int (iZ (q3))]) C Y G (c_X5_nth_bad1 l D cJ u v _ _ _ _ _ (q1) (q2) (q3) (by first | assumption | omega) (by first | assumption | omega) (by first | assumption | omega) (by first | assumption | omega)) ml_L_247 rfl ⟨Nat.le_of_ble_eq_true rfl, Nat.le_of_ble_eq_true rfl⟩ ⟨by show cells + 1 + 0 ≤ 665987; omega, by show slots + 6 + 0 ≤ 7103520; omega⟩ hl (Nat.le_of_ble_eq_true rfl) rfl dL_law_1392 (fun y9 H locs hy9 G => ?_)
    subst hy9
    refine lv_istore (lv' := [(6, _), (5, .int (iZ (1))), (0, .ref t), (1, .ref o), (2, .ref u), (3, .ref w), (4, .int (iZ (x)))]) C.1 C.2.1 dL_law_1395 hl (by decide) rfl (fun ls hl => ?_)
    refine lv_goto (tgt := 2207) C.1 C.2.1 dL_law_1397 (by decide) ?_
    exact kk _ _ _ _ _ _ _ _ _ _ _ _ G (by omega) (by omega) (lv_sub hl [2, 3, 4, 5, 6] rfl)
set_option maxHeartbeats 4000000 in
set_option maxRecDepth 100000 in
theorem lk_22 (hlq : l.stackTraces = false) (C : CallFix p m c0 cL_law 7 s args T0 RL) (Z : zLw D cB t N g s) (Y : zAd o a u v w s) {c : Nat → Nat} {ac re kn : Int32} {th : Int} {n : Int64} {sv : Value} {H : Heap} {locs : List Loc} {ls : Array Slot} {cells slots : Nat} (G : zG D cJ o a u v w c [.int ac, .int re, .int kn] c [.int (iZ th), .int ac, .int re, .int kn] n sv s H locs) (x : Int) (hx : 0 ≤ x ∧ x + 5 ≤ (N : Int)) (hf : cells + 150 ≤ 665987 ∧ slots + 75000 ≤ 7103520) (hl : lv_has ls 7 [(0, .ref t), (1, .ref o), (2, .ref u), (3, .ref w), (4, .int (iZ (x)))])
    (kk : zNx p l e s m args below meth c0 D cJ t o a u v w x cells slots Qw 2207) : W p l e room_1 s m args below meth c0 H locs cells slots Qw (F0 m 1400 ls []) := by
  have hc := G.1.2.2.2
  obtain ⟨q1, e1⟩ : ∃ z, g (x.toNat + 1) = z := ⟨_, rfl⟩
  have r1 : -2147483648 ≤ q1 ∧ q1 ≤ 2147483647 := e1 ▸ Z.2.2.2.2.2.1 _
  obtain ⟨q2, e2⟩ : ∃ z, g (x.toNat + 2) = z := ⟨_, rfl⟩
  have r2 : -2147483648 ≤ q2 ∧ q2 ≤ 2147483647 := e2 ▸ Z.2.2.2.2.2.1 _
  by_cases hcel : (0 ≤ q2 ∧ q2 ≤ 5)
  · skip
    by_cases hrng : (1 ≤ q1 ∧ q1 ≤ 5)
    · skip
      refine lv_aload_n C.1 C.2.1 dL_law_1400 rfl (lv_at hl 1 rfl) ?_
      refine lv_aload_n C.1 C.2.1 dL_law_1401 rfl (lv_at hl 0 rfl) ?_
      refine lv_iload C.1 C.2.1 dL_law_1402 (lv_at hl 4 rfl) ?_
      refine z_iconst C dL_law_1404 ?_
      refine z_iadd C dL_law_1405 ?_
      refine zd_ld C Z G q1 (x.toNat + 1) e1 (by omega) (by omega) dL_law_1406 ?_
      refine lv_aload_n C.1 C.2.1 dL_law_1407 rfl (lv_at hl 0 rfl) ?_
      refine lv_iload C.1 C.2.1 dL_law_1408 (lv_at hl 4 rfl) ?_
      refine z_iconst C dL_law_1410 ?_
      refine z_iadd C dL_law_1411 ?_
      refine zd_ld C Z G q2 (x.toNat + 2) e2 (by omega) (by omega) dL_law_1412 ?_
      refine lv_aload_n C.1 C.2.1 dL_law_1413 rfl (lv_at hl 3 rfl) ?_
      refine zd_W (as := [.ref o, .int (iZ (q1)), .int (iZ (q2)), .ref w]) C Z Y G (c_L_field l D cJ o a _ _ _ _ (q1) (q2) (by first | assumption | omega) (by first | assumption | omega) w _ _) ml_L_248 ⟨Nat.le_of_ble_eq_true rfl, Nat.le_of_ble_eq_true rfl⟩ ⟨by show cells + 0 + 0 ≤ 665987; omega, by show slots + 0 + 0 ≤ 7103520; omega⟩ hl (Nat.le_of_ble_eq_true rfl) rfl dL_law_1414 (fun H locs G => ?_)
      refine lv_istore (lv' := [(5, .int (iZ (0))), (0, .ref t), (1, .ref o), (2, .ref u), (3, .ref w), (4, .int (iZ (x)))]) C.1 C.2.1 dL_law_1417 hl (by decide) rfl (fun ls hl => ?_)
      refine lv_aload_n C.1 C.2.1 dL_law_1419 rfl (lv_at hl 3 rfl) ?_
      refine lv_aload_n C.1 C.2.1 dL_law_1420 rfl (lv_at hl 1 rfl) ?_
      refine lv_iload C.1 C.2.1 dL_law_1421 (lv_at hl 5 rfl) ?_
      refine z_iconst C dL_law_1423 ?_
      refine z_iadd C dL_law_1424 ?_
      refine zd_ld C Z G q1 (x.toNat + 1) e1 (by omega) (by omega) dL_law_1425 ?_
      refine lv_aload_n C.1 C.2.1 dL_law_1426 rfl (lv_at hl 1 rfl) ?_
      refine lv_iload C.1 C.2.1 dL_law_1427 (lv_at hl 5 rfl) ?_
      refine z_iconst C dL_law_1429 ?_
      refine z_iadd C dL_law_1430 ?_
      refine zd_ld C Z G q2 (x.toNat + 2) e2 (by omega) (by omega) dL_law_1431 ?_
      refine zd_M (as := [.int (iZ (q1)), .int (iZ (q2))]) C Y G (c_X5_field l D cJ u v _ _ _ _ _ (q1) (q2) (by first | assumption | omega) (by first | assumption | omega)) ml_L_250 rfl ⟨Nat.le_of_ble_eq_true rfl, Nat.le_of_ble_eq_true rfl⟩ ⟨by show cells + 0 + 0 ≤ 665987; omega, by show slots + 0 + 0 ≤ 7103520; omega⟩ hl (Nat.le_of_ble_eq_true rfl) rfl dL_law_1432 (fun y9 H locs hy9 G => ?_)
      subst hy9
      refine lv_istore (lv' := [(6, _), (5, .int (iZ (0))), (0, .ref t), (1, .ref o), (2, .ref u), (3, .ref w), (4, .int (iZ (x)))]) C.1 C.2.1 dL_law_1435 hl (by decide) rfl (fun ls hl => ?_)
      refine lv_goto (tgt := 2207) C.1 C.2.1 dL_law_1437 (by decide) ?_
      rw [pd_eq (by omega)] at G
      exact kk _ _ _ _ _ _ _ _ _ _ _ _ G (by omega) (by omega) (lv_sub hl [2, 3, 4, 5, 6] rfl)
    · skip
      refine lv_aload_n C.1 C.2.1 dL_law_1400 rfl (lv_at hl 1 rfl) ?_
      refine lv_aload_n C.1 C.2.1 dL_law_1401 rfl (lv_at hl 0 rfl) ?_
      refine lv_iload C.1 C.2.1 dL_law_1402 (lv_at hl 4 rfl) ?_
      refine z_iconst C dL_law_1404 ?_
      refine z_iadd C dL_law_1405 ?_
      refine zd_ld C Z G q1 (x.toNat + 1) e1 (by omega) (by omega) dL_law_1406 ?_
      refine lv_aload_n C.1 C.2.1 dL_law_1407 rfl (lv_at hl 0 rfl) ?_
      refine lv_iload C.1 C.2.1 dL_law_1408 (lv_at hl 4 rfl) ?_
      refine z_iconst C dL_law_1410 ?_
      refine z_iadd C dL_law_1411 ?_
      refine zd_ld C Z G q2 (x.toNat + 2) e2 (by omega) (by omega) dL_law_1412 ?_
      refine lv_aload_n C.1 C.2.1 dL_law_1413 rfl (lv_at hl 3 rfl) ?_
      refine zd_W (as := [.ref o, .int (iZ (q1)), .int (iZ (q2)), .ref w]) C Z Y G (c_L_field_badr l hlq D cJ o a _ _ _ _ (q1) (q2) (by first | assumption | omega) (by first | assumption | omega) (by first | assumption | omega) (by first | assumption | omega) w _ _) ml_L_248 ⟨Nat.le_of_ble_eq_true rfl, Nat.le_of_ble_eq_true rfl⟩ ⟨by show cells + 0 + 1 ≤ 665987; omega, by show slots + 0 + 6 ≤ 7103520; omega⟩ hl (Nat.le_of_ble_eq_true rfl) rfl dL_law_1414 (fun H locs G => ?_)
      refine lv_istore (lv' := [(5, .int (iZ (2))), (0, .ref t), (1, .ref o), (2, .ref u), (3, .ref w), (4, .int (iZ (x)))]) C.1 C.2.1 dL_law_1417 hl (by decide) rfl (fun ls hl => ?_)
      refine lv_aload_n C.1 C.2.1 dL_law_1419 rfl (lv_at hl 3 rfl) ?_
      refine lv_aload_n C.1 C.2.1 dL_law_1420 rfl (lv_at hl 1 rfl) ?_
      refine lv_iload C.1 C.2.1 dL_law_1421 (lv_at hl 5 rfl) ?_
      refine z_iconst C dL_law_1423 ?_
      refine z_iadd C dL_law_1424 ?_
      refine zd_ld C Z G q1 (x.toNat + 1) e1 (by omega) (by omega) dL_law_1425 ?_
      refine lv_aload_n C.1 C.2.1 dL_law_1426 rfl (lv_at hl 1 rfl) ?_
      refine lv_iload C.1 C.2.1 dL_law_1427 (lv_at hl 5 rfl) ?_
      refine z_iconst C dL_law_1429 ?_
      refine z_iadd C dL_law_1430 ?_
      refine zd_ld C Z G q2 (x.toNat + 2) e2 (by omega) (by omega) dL_law_1431 ?_
      refine zd_M (as := [.int (iZ (q1)), .int (iZ (q2))]) C Y G (c_X5_field_bad2 l D cJ u v _ _ _ _ _ (q1) (q2) (by first | assumption | omega) (by first | assumption | omega) (by first | assumption | omega) (by first | assumption | omega)) ml_L_250 rfl ⟨Nat.le_of_ble_eq_true rfl, Nat.le_of_ble_eq_true rfl⟩ ⟨by show cells + 1 + 0 ≤ 665987; omega, by show slots + 6 + 0 ≤ 7103520; omega⟩ hl (Nat.le_of_ble_eq_true rfl) rfl dL_law_1432 (fun y9 H locs hy9 G => ?_)
      subst hy9
      refine lv_istore (lv' := [(6, _), (5, .int (iZ (2))), (0, .ref t), (1, .ref o), (2, .ref u), (3, .ref w), (4, .int (iZ (x)))]) C.1 C.2.1 dL_law_1435 hl (by decide) rfl (fun ls hl => ?_)
      refine lv_goto (tgt := 2207) C.1 C.2.1 dL_law_1437 (by decide) ?_
      exact kk _ _ _ _ _ _ _ _ _ _ _ _ G (by omega) (by omega) (lv_sub hl [2, 3, 4, 5, 6] rfl)
  · skip
    refine lv_aload_n C.1 C.2.1 dL_law_1400 rfl (lv_at hl 1 rfl) ?_
    refine lv_aload_n C.1 C.2.1 dL_law_1401 rfl (lv_at hl 0 rfl) ?_
    refine lv_iload C.1 C.2.1 dL_law_1402 (lv_at hl 4 rfl) ?_
    refine z_iconst C dL_law_1404 ?_
    refine z_iadd C dL_law_1405 ?_
    refine zd_ld C Z G q1 (x.toNat + 1) e1 (by omega) (by omega) dL_law_1406 ?_
    refine lv_aload_n C.1 C.2.1 dL_law_1407 rfl (lv_at hl 0 rfl) ?_
    refine lv_iload C.1 C.2.1 dL_law_1408 (lv_at hl 4 rfl) ?_
    refine z_iconst C dL_law_1410 ?_
    refine z_iadd C dL_law_1411 ?_
    refine zd_ld C Z G q2 (x.toNat + 2) e2 (by omega) (by omega) dL_law_1412 ?_
    refine lv_aload_n C.1 C.2.1 dL_law_1413 rfl (lv_at hl 3 rfl) ?_
    refine zd_W (as := [.ref o, .int (iZ (q1)), .int (iZ (q2)), .ref w]) C Z Y G (c_L_field_badc l hlq D cJ o a _ _ _ _ (q1) (q2) (by first | assumption | omega) (by first | assumption | omega) (by first | assumption | omega) w _ _) ml_L_248 ⟨Nat.le_of_ble_eq_true rfl, Nat.le_of_ble_eq_true rfl⟩ ⟨by show cells + 0 + 1 ≤ 665987; omega, by show slots + 0 + 6 ≤ 7103520; omega⟩ hl (Nat.le_of_ble_eq_true rfl) rfl dL_law_1414 (fun H locs G => ?_)
    refine lv_istore (lv' := [(5, .int (iZ (1))), (0, .ref t), (1, .ref o), (2, .ref u), (3, .ref w), (4, .int (iZ (x)))]) C.1 C.2.1 dL_law_1417 hl (by decide) rfl (fun ls hl => ?_)
    refine lv_aload_n C.1 C.2.1 dL_law_1419 rfl (lv_at hl 3 rfl) ?_
    refine lv_aload_n C.1 C.2.1 dL_law_1420 rfl (lv_at hl 1 rfl) ?_
    refine lv_iload C.1 C.2.1 dL_law_1421 (lv_at hl 5 rfl) ?_
    refine z_iconst C dL_law_1423 ?_
    refine z_iadd C dL_law_1424 ?_
    refine zd_ld C Z G q1 (x.toNat + 1) e1 (by omega) (by omega) dL_law_1425 ?_
    refine lv_aload_n C.1 C.2.1 dL_law_1426 rfl (lv_at hl 1 rfl) ?_
    refine lv_iload C.1 C.2.1 dL_law_1427 (lv_at hl 5 rfl) ?_
    refine z_iconst C dL_law_1429 ?_
    refine z_iadd C dL_law_1430 ?_
    refine zd_ld C Z G q2 (x.toNat + 2) e2 (by omega) (by omega) dL_law_1431 ?_
    refine zd_M (as := [.int (iZ (q1)), .int (iZ (q2))]) C Y G (c_X5_field_bad1 l D cJ u v _ _ _ _ _ (q1) (q2) (by first | assumption | omega) (by first | assumption | omega) (by first | assumption | omega)) ml_L_250 rfl ⟨Nat.le_of_ble_eq_true rfl, Nat.le_of_ble_eq_true rfl⟩ ⟨by show cells + 1 + 0 ≤ 665987; omega, by show slots + 6 + 0 ≤ 7103520; omega⟩ hl (Nat.le_of_ble_eq_true rfl) rfl dL_law_1432 (fun y9 H locs hy9 G => ?_)
    subst hy9
    refine lv_istore (lv' := [(6, _), (5, .int (iZ (1))), (0, .ref t), (1, .ref o), (2, .ref u), (3, .ref w), (4, .int (iZ (x)))]) C.1 C.2.1 dL_law_1435 hl (by decide) rfl (fun ls hl => ?_)
    refine lv_goto (tgt := 2207) C.1 C.2.1 dL_law_1437 (by decide) ?_
    exact kk _ _ _ _ _ _ _ _ _ _ _ _ G (by omega) (by omega) (lv_sub hl [2, 3, 4, 5, 6] rfl)
set_option maxHeartbeats 4000000 in
set_option maxRecDepth 100000 in
theorem lk_23 (hlq : l.stackTraces = false) (C : CallFix p m c0 cL_law 7 s args T0 RL) (Z : zLw D cB t N g s) (Y : zAd o a u v w s) {c : Nat → Nat} {ac re kn : Int32} {th : Int} {n : Int64} {sv : Value} {H : Heap} {locs : List Loc} {ls : Array Slot} {cells slots : Nat} (G : zG D cJ o a u v w c [.int ac, .int re, .int kn] c [.int (iZ th), .int ac, .int re, .int kn] n sv s H locs) (x : Int) (hx : 0 ≤ x ∧ x + 5 ≤ (N : Int)) (hf : cells + 150 ≤ 665987 ∧ slots + 75000 ≤ 7103520) (hl : lv_has ls 7 [(0, .ref t), (1, .ref o), (2, .ref u), (3, .ref w), (4, .int (iZ (x)))])
    (kk : zNx p l e s m args below meth c0 D cJ t o a u v w x cells slots Qw 2207) : W p l e room_1 s m args below meth c0 H locs cells slots Qw (F0 m 1440 ls []) := by
  have hc := G.1.2.2.2
  obtain ⟨q1, e1⟩ : ∃ z, g (x.toNat + 1) = z := ⟨_, rfl⟩
  have r1 : -2147483648 ≤ q1 ∧ q1 ≤ 2147483647 := e1 ▸ Z.2.2.2.2.2.1 _
  obtain ⟨q2, e2⟩ : ∃ z, g (x.toNat + 2) = z := ⟨_, rfl⟩
  have r2 : -2147483648 ≤ q2 ∧ q2 ≤ 2147483647 := e2 ▸ Z.2.2.2.2.2.1 _
  obtain ⟨q3, e3⟩ : ∃ z, g (x.toNat + 3) = z := ⟨_, rfl⟩
  have r3 : -2147483648 ≤ q3 ∧ q3 ≤ 2147483647 := e3 ▸ Z.2.2.2.2.2.1 _
  by_cases hcel : (0 ≤ q1 ∧ q1 ≤ 5) ∧ (0 ≤ q3 ∧ q3 ≤ 5)
  · skip
    by_cases hrng : (2 ≤ q2 ∧ q2 ≤ 36)
    · skip
      refine lv_aload_n C.1 C.2.1 dL_law_1440 rfl (lv_at hl 1 rfl) ?_
      refine lv_aload_n C.1 C.2.1 dL_law_1441 rfl (lv_at hl 0 rfl) ?_
      refine lv_iload C.1 C.2.1 dL_law_1442 (lv_at hl 4 rfl) ?_
      refine z_iconst C dL_law_1444 ?_
      refine z_iadd C dL_law_1445 ?_
      refine zd_ld C Z G q1 (x.toNat + 1) e1 (by omega) (by omega) dL_law_1446 ?_
      refine lv_aload_n C.1 C.2.1 dL_law_1447 rfl (lv_at hl 0 rfl) ?_
      refine lv_iload C.1 C.2.1 dL_law_1448 (lv_at hl 4 rfl) ?_
      refine z_iconst C dL_law_1450 ?_
      refine z_iadd C dL_law_1451 ?_
      refine zd_ld C Z G q2 (x.toNat + 2) e2 (by omega) (by omega) dL_law_1452 ?_
      refine lv_aload_n C.1 C.2.1 dL_law_1453 rfl (lv_at hl 0 rfl) ?_
      refine lv_iload C.1 C.2.1 dL_law_1454 (lv_at hl 4 rfl) ?_
      refine z_iconst C dL_law_1456 ?_
      refine z_iadd C dL_law_1457 ?_
      refine zd_ld C Z G q3 (x.toNat + 3) e3 (by omega) (by omega) dL_law_1458 ?_
      refine lv_aload_n C.1 C.2.1 dL_law_1459 rfl (lv_at hl 3 rfl) ?_
      refine zd_W (as := [.ref o, .int (iZ (q1)), .int (iZ (q2)), .int (iZ (q3)), .ref w]) C Z Y G (c_L_again l D cJ o a _ _ _ _ (q1) (q2) (q3) (by first | assumption | omega) (by first | assumption | omega) (by first | assumption | omega) w _ _) ml_L_251 ⟨Nat.le_of_ble_eq_true rfl, Nat.le_of_ble_eq_true rfl⟩ ⟨by show cells + 0 + 0 ≤ 665987; omega, by show slots + 0 + 0 ≤ 7103520; omega⟩ hl (Nat.le_of_ble_eq_true rfl) rfl dL_law_1460 (fun H locs G => ?_)
      refine lv_istore (lv' := [(5, .int (iZ (0))), (0, .ref t), (1, .ref o), (2, .ref u), (3, .ref w), (4, .int (iZ (x)))]) C.1 C.2.1 dL_law_1463 hl (by decide) rfl (fun ls hl => ?_)
      refine lv_aload_n C.1 C.2.1 dL_law_1465 rfl (lv_at hl 3 rfl) ?_
      refine lv_aload_n C.1 C.2.1 dL_law_1466 rfl (lv_at hl 1 rfl) ?_
      refine lv_iload C.1 C.2.1 dL_law_1467 (lv_at hl 5 rfl) ?_
      refine z_iconst C dL_law_1469 ?_
      refine z_iadd C dL_law_1470 ?_
      refine zd_ld C Z G q1 (x.toNat + 1) e1 (by omega) (by omega) dL_law_1471 ?_
      refine lv_aload_n C.1 C.2.1 dL_law_1472 rfl (lv_at hl 1 rfl) ?_
      refine lv_iload C.1 C.2.1 dL_law_1473 (lv_at hl 5 rfl) ?_
      refine z_iconst C dL_law_1475 ?_
      refine z_iadd C dL_law_1476 ?_
      refine zd_ld C Z G q2 (x.toNat + 2) e2 (by omega) (by omega) dL_law_1477 ?_
      refine lv_aload_n C.1 C.2.1 dL_law_1478 rfl (lv_at hl 1 rfl) ?_
      refine lv_iload C.1 C.2.1 dL_law_1479 (lv_at hl 5 rfl) ?_
      refine z_iconst C dL_law_1481 ?_
      refine z_iadd C dL_law_1482 ?_
      refine zd_ld C Z G q3 (x.toNat + 3) e3 (by omega) (by omega) dL_law_1483 ?_
      refine zd_M (as := [.int (iZ (q1)), .int (iZ (q2)), .int (iZ (q3))]) C Y G (c_X5_again l D cJ u v _ _ _ _ _ (q1) (q2) (q3) (by first | assumption | omega) (by first | assumption | omega) (by first | assumption | omega)) ml_L_253 rfl ⟨Nat.le_of_ble_eq_true rfl, Nat.le_of_ble_eq_true rfl⟩ ⟨by show cells + 0 + 0 ≤ 665987; omega, by show slots + 0 + 0 ≤ 7103520; omega⟩ hl (Nat.le_of_ble_eq_true rfl) rfl dL_law_1484 (fun y9 H locs hy9 G => ?_)
      subst hy9
      refine lv_istore (lv' := [(6, _), (5, .int (iZ (0))), (0, .ref t), (1, .ref o), (2, .ref u), (3, .ref w), (4, .int (iZ (x)))]) C.1 C.2.1 dL_law_1487 hl (by decide) rfl (fun ls hl => ?_)
      refine lv_goto (tgt := 2207) C.1 C.2.1 dL_law_1489 (by decide) ?_
      exact kk _ _ _ _ _ _ _ _ _ _ _ _ G (by omega) (by omega) (lv_sub hl [2, 3, 4, 5, 6] rfl)
    · skip
      refine lv_aload_n C.1 C.2.1 dL_law_1440 rfl (lv_at hl 1 rfl) ?_
      refine lv_aload_n C.1 C.2.1 dL_law_1441 rfl (lv_at hl 0 rfl) ?_
      refine lv_iload C.1 C.2.1 dL_law_1442 (lv_at hl 4 rfl) ?_
      refine z_iconst C dL_law_1444 ?_
      refine z_iadd C dL_law_1445 ?_
      refine zd_ld C Z G q1 (x.toNat + 1) e1 (by omega) (by omega) dL_law_1446 ?_
      refine lv_aload_n C.1 C.2.1 dL_law_1447 rfl (lv_at hl 0 rfl) ?_
      refine lv_iload C.1 C.2.1 dL_law_1448 (lv_at hl 4 rfl) ?_
      refine z_iconst C dL_law_1450 ?_
      refine z_iadd C dL_law_1451 ?_
      refine zd_ld C Z G q2 (x.toNat + 2) e2 (by omega) (by omega) dL_law_1452 ?_
      refine lv_aload_n C.1 C.2.1 dL_law_1453 rfl (lv_at hl 0 rfl) ?_
      refine lv_iload C.1 C.2.1 dL_law_1454 (lv_at hl 4 rfl) ?_
      refine z_iconst C dL_law_1456 ?_
      refine z_iadd C dL_law_1457 ?_
      refine zd_ld C Z G q3 (x.toNat + 3) e3 (by omega) (by omega) dL_law_1458 ?_
      refine lv_aload_n C.1 C.2.1 dL_law_1459 rfl (lv_at hl 3 rfl) ?_
      refine zd_W (as := [.ref o, .int (iZ (q1)), .int (iZ (q2)), .int (iZ (q3)), .ref w]) C Z Y G (c_L_again_badr l hlq D cJ o a _ _ _ _ (q1) (q2) (q3) (by first | assumption | omega) (by first | assumption | omega) (by first | assumption | omega) (by first | assumption | omega) (by first | assumption | omega) (by first | assumption | omega) w _ _) ml_L_251 ⟨Nat.le_of_ble_eq_true rfl, Nat.le_of_ble_eq_true rfl⟩ ⟨by show cells + 0 + 1 ≤ 665987; omega, by show slots + 0 + 6 ≤ 7103520; omega⟩ hl (Nat.le_of_ble_eq_true rfl) rfl dL_law_1460 (fun H locs G => ?_)
      refine lv_istore (lv' := [(5, .int (iZ (2))), (0, .ref t), (1, .ref o), (2, .ref u), (3, .ref w), (4, .int (iZ (x)))]) C.1 C.2.1 dL_law_1463 hl (by decide) rfl (fun ls hl => ?_)
      refine lv_aload_n C.1 C.2.1 dL_law_1465 rfl (lv_at hl 3 rfl) ?_
      refine lv_aload_n C.1 C.2.1 dL_law_1466 rfl (lv_at hl 1 rfl) ?_
      refine lv_iload C.1 C.2.1 dL_law_1467 (lv_at hl 5 rfl) ?_
      refine z_iconst C dL_law_1469 ?_
      refine z_iadd C dL_law_1470 ?_
      refine zd_ld C Z G q1 (x.toNat + 1) e1 (by omega) (by omega) dL_law_1471 ?_
      refine lv_aload_n C.1 C.2.1 dL_law_1472 rfl (lv_at hl 1 rfl) ?_
      refine lv_iload C.1 C.2.1 dL_law_1473 (lv_at hl 5 rfl) ?_
      refine z_iconst C dL_law_1475 ?_
      refine z_iadd C dL_law_1476 ?_
      refine zd_ld C Z G q2 (x.toNat + 2) e2 (by omega) (by omega) dL_law_1477 ?_
      refine lv_aload_n C.1 C.2.1 dL_law_1478 rfl (lv_at hl 1 rfl) ?_
      refine lv_iload C.1 C.2.1 dL_law_1479 (lv_at hl 5 rfl) ?_
      refine z_iconst C dL_law_1481 ?_
      refine z_iadd C dL_law_1482 ?_
      refine zd_ld C Z G q3 (x.toNat + 3) e3 (by omega) (by omega) dL_law_1483 ?_
      refine zd_M (as := [.int (iZ (q1)), .int (iZ (q2)), .int (iZ (q3))]) C Y G (c_X5_again_bad2 l D cJ u v _ _ _ _ _ (q1) (q2) (q3) (by first | assumption | omega) (by first | assumption | omega) (by first | assumption | omega) (by first | assumption | omega) (by first | assumption | omega)) ml_L_253 rfl ⟨Nat.le_of_ble_eq_true rfl, Nat.le_of_ble_eq_true rfl⟩ ⟨by show cells + 1 + 0 ≤ 665987; omega, by show slots + 6 + 0 ≤ 7103520; omega⟩ hl (Nat.le_of_ble_eq_true rfl) rfl dL_law_1484 (fun y9 H locs hy9 G => ?_)
      subst hy9
      refine lv_istore (lv' := [(6, _), (5, .int (iZ (2))), (0, .ref t), (1, .ref o), (2, .ref u), (3, .ref w), (4, .int (iZ (x)))]) C.1 C.2.1 dL_law_1487 hl (by decide) rfl (fun ls hl => ?_)
      refine lv_goto (tgt := 2207) C.1 C.2.1 dL_law_1489 (by decide) ?_
      exact kk _ _ _ _ _ _ _ _ _ _ _ _ G (by omega) (by omega) (lv_sub hl [2, 3, 4, 5, 6] rfl)
  · skip
    refine lv_aload_n C.1 C.2.1 dL_law_1440 rfl (lv_at hl 1 rfl) ?_
    refine lv_aload_n C.1 C.2.1 dL_law_1441 rfl (lv_at hl 0 rfl) ?_
    refine lv_iload C.1 C.2.1 dL_law_1442 (lv_at hl 4 rfl) ?_
    refine z_iconst C dL_law_1444 ?_
    refine z_iadd C dL_law_1445 ?_
    refine zd_ld C Z G q1 (x.toNat + 1) e1 (by omega) (by omega) dL_law_1446 ?_
    refine lv_aload_n C.1 C.2.1 dL_law_1447 rfl (lv_at hl 0 rfl) ?_
    refine lv_iload C.1 C.2.1 dL_law_1448 (lv_at hl 4 rfl) ?_
    refine z_iconst C dL_law_1450 ?_
    refine z_iadd C dL_law_1451 ?_
    refine zd_ld C Z G q2 (x.toNat + 2) e2 (by omega) (by omega) dL_law_1452 ?_
    refine lv_aload_n C.1 C.2.1 dL_law_1453 rfl (lv_at hl 0 rfl) ?_
    refine lv_iload C.1 C.2.1 dL_law_1454 (lv_at hl 4 rfl) ?_
    refine z_iconst C dL_law_1456 ?_
    refine z_iadd C dL_law_1457 ?_
    refine zd_ld C Z G q3 (x.toNat + 3) e3 (by omega) (by omega) dL_law_1458 ?_
    refine lv_aload_n C.1 C.2.1 dL_law_1459 rfl (lv_at hl 3 rfl) ?_
    refine zd_W (as := [.ref o, .int (iZ (q1)), .int (iZ (q2)), .int (iZ (q3)), .ref w]) C Z Y G (c_L_again_badc l hlq D cJ o a _ _ _ _ (q1) (q2) (q3) (by first | assumption | omega) (by first | assumption | omega) (by first | assumption | omega) (by first | assumption | omega) w _ _) ml_L_251 ⟨Nat.le_of_ble_eq_true rfl, Nat.le_of_ble_eq_true rfl⟩ ⟨by show cells + 0 + 1 ≤ 665987; omega, by show slots + 0 + 6 ≤ 7103520; omega⟩ hl (Nat.le_of_ble_eq_true rfl) rfl dL_law_1460 (fun H locs G => ?_)
    refine lv_istore (lv' := [(5, .int (iZ (1))), (0, .ref t), (1, .ref o), (2, .ref u), (3, .ref w), (4, .int (iZ (x)))]) C.1 C.2.1 dL_law_1463 hl (by decide) rfl (fun ls hl => ?_)
    refine lv_aload_n C.1 C.2.1 dL_law_1465 rfl (lv_at hl 3 rfl) ?_
    refine lv_aload_n C.1 C.2.1 dL_law_1466 rfl (lv_at hl 1 rfl) ?_
    refine lv_iload C.1 C.2.1 dL_law_1467 (lv_at hl 5 rfl) ?_
    refine z_iconst C dL_law_1469 ?_
    refine z_iadd C dL_law_1470 ?_
    refine zd_ld C Z G q1 (x.toNat + 1) e1 (by omega) (by omega) dL_law_1471 ?_
    refine lv_aload_n C.1 C.2.1 dL_law_1472 rfl (lv_at hl 1 rfl) ?_
    refine lv_iload C.1 C.2.1 dL_law_1473 (lv_at hl 5 rfl) ?_
    refine z_iconst C dL_law_1475 ?_
    refine z_iadd C dL_law_1476 ?_
    refine zd_ld C Z G q2 (x.toNat + 2) e2 (by omega) (by omega) dL_law_1477 ?_
    refine lv_aload_n C.1 C.2.1 dL_law_1478 rfl (lv_at hl 1 rfl) ?_
    refine lv_iload C.1 C.2.1 dL_law_1479 (lv_at hl 5 rfl) ?_
    refine z_iconst C dL_law_1481 ?_
    refine z_iadd C dL_law_1482 ?_
    refine zd_ld C Z G q3 (x.toNat + 3) e3 (by omega) (by omega) dL_law_1483 ?_
    refine zd_M (as := [.int (iZ (q1)), .int (iZ (q2)), .int (iZ (q3))]) C Y G (c_X5_again_bad1 l D cJ u v _ _ _ _ _ (q1) (q2) (q3) (by first | assumption | omega) (by first | assumption | omega) (by first | assumption | omega) (by first | assumption | omega)) ml_L_253 rfl ⟨Nat.le_of_ble_eq_true rfl, Nat.le_of_ble_eq_true rfl⟩ ⟨by show cells + 1 + 0 ≤ 665987; omega, by show slots + 6 + 0 ≤ 7103520; omega⟩ hl (Nat.le_of_ble_eq_true rfl) rfl dL_law_1484 (fun y9 H locs hy9 G => ?_)
    subst hy9
    refine lv_istore (lv' := [(6, _), (5, .int (iZ (1))), (0, .ref t), (1, .ref o), (2, .ref u), (3, .ref w), (4, .int (iZ (x)))]) C.1 C.2.1 dL_law_1487 hl (by decide) rfl (fun ls hl => ?_)
    refine lv_goto (tgt := 2207) C.1 C.2.1 dL_law_1489 (by decide) ?_
    exact kk _ _ _ _ _ _ _ _ _ _ _ _ G (by omega) (by omega) (lv_sub hl [2, 3, 4, 5, 6] rfl)
set_option maxHeartbeats 4000000 in
set_option maxRecDepth 100000 in
theorem lk_24 (hlq : l.stackTraces = false) (C : CallFix p m c0 cL_law 7 s args T0 RL) (Z : zLw D cB t N g s) (Y : zAd o a u v w s) {c : Nat → Nat} {ac re kn : Int32} {th : Int} {n : Int64} {sv : Value} {H : Heap} {locs : List Loc} {ls : Array Slot} {cells slots : Nat} (G : zG D cJ o a u v w c [.int ac, .int re, .int kn] c [.int (iZ th), .int ac, .int re, .int kn] n sv s H locs) (x : Int) (hx : 0 ≤ x ∧ x + 5 ≤ (N : Int)) (hf : cells + 150 ≤ 665987 ∧ slots + 75000 ≤ 7103520) (hl : lv_has ls 7 [(0, .ref t), (1, .ref o), (2, .ref u), (3, .ref w), (4, .int (iZ (x)))])
    (kk : zNx p l e s m args below meth c0 D cJ t o a u v w x cells slots Qw 2207) : W p l e room_1 s m args below meth c0 H locs cells slots Qw (F0 m 1492 ls []) := by
  have hc := G.1.2.2.2
  obtain ⟨q1, e1⟩ : ∃ z, g (x.toNat + 1) = z := ⟨_, rfl⟩
  have r1 : -2147483648 ≤ q1 ∧ q1 ≤ 2147483647 := e1 ▸ Z.2.2.2.2.2.1 _
  by_cases hcel : (0 ≤ q1 ∧ q1 ≤ 5)
  · skip
    refine lv_aload_n C.1 C.2.1 dL_law_1492 rfl (lv_at hl 1 rfl) ?_
    refine lv_aload_n C.1 C.2.1 dL_law_1493 rfl (lv_at hl 0 rfl) ?_
    refine lv_iload C.1 C.2.1 dL_law_1494 (lv_at hl 4 rfl) ?_
    refine z_iconst C dL_law_1496 ?_
    refine z_iadd C dL_law_1497 ?_
    refine zd_ld C Z G q1 (x.toNat + 1) e1 (by omega) (by omega) dL_law_1498 ?_
    refine lv_aload_n C.1 C.2.1 dL_law_1499 rfl (lv_at hl 3 rfl) ?_
    refine zd_W (as := [.ref o, .int (iZ (q1)), .ref w]) C Z Y G (c_L_degree l D cJ o a _ _ _ _ (q1) (by first | assumption | omega) w _ _) ml_L_254 ⟨Nat.le_of_ble_eq_true rfl, Nat.le_of_ble_eq_true rfl⟩ ⟨by show cells + 0 + 0 ≤ 665987; omega, by show slots + 0 + 0 ≤ 7103520; omega⟩ hl (Nat.le_of_ble_eq_true rfl) rfl dL_law_1500 (fun H locs G => ?_)
    refine lv_istore (lv' := [(5, .int (iZ (0))), (0, .ref t), (1, .ref o), (2, .ref u), (3, .ref w), (4, .int (iZ (x)))]) C.1 C.2.1 dL_law_1503 hl (by decide) rfl (fun ls hl => ?_)
    refine lv_aload_n C.1 C.2.1 dL_law_1505 rfl (lv_at hl 3 rfl) ?_
    refine lv_aload_n C.1 C.2.1 dL_law_1506 rfl (lv_at hl 1 rfl) ?_
    refine lv_iload C.1 C.2.1 dL_law_1507 (lv_at hl 5 rfl) ?_
    refine z_iconst C dL_law_1509 ?_
    refine z_iadd C dL_law_1510 ?_
    refine zd_ld C Z G q1 (x.toNat + 1) e1 (by omega) (by omega) dL_law_1511 ?_
    refine zd_M (as := [.int (iZ (q1))]) C Y G (c_X5_degree l D cJ u v _ _ _ _ _ (q1) (by first | assumption | omega)) ml_L_257 rfl ⟨Nat.le_of_ble_eq_true rfl, Nat.le_of_ble_eq_true rfl⟩ ⟨by show cells + 0 + 0 ≤ 665987; omega, by show slots + 0 + 0 ≤ 7103520; omega⟩ hl (Nat.le_of_ble_eq_true rfl) rfl dL_law_1512 (fun y9 H locs hy9 G => ?_)
    subst hy9
    refine lv_istore (lv' := [(6, _), (5, .int (iZ (0))), (0, .ref t), (1, .ref o), (2, .ref u), (3, .ref w), (4, .int (iZ (x)))]) C.1 C.2.1 dL_law_1515 hl (by decide) rfl (fun ls hl => ?_)
    refine lv_goto (tgt := 2207) C.1 C.2.1 dL_law_1517 (by decide) ?_
    exact kk _ _ _ _ _ _ _ _ _ _ _ _ G (by omega) (by omega) (lv_sub hl [2, 3, 4, 5, 6] rfl)
  · skip
    refine lv_aload_n C.1 C.2.1 dL_law_1492 rfl (lv_at hl 1 rfl) ?_
    refine lv_aload_n C.1 C.2.1 dL_law_1493 rfl (lv_at hl 0 rfl) ?_
    refine lv_iload C.1 C.2.1 dL_law_1494 (lv_at hl 4 rfl) ?_
    refine z_iconst C dL_law_1496 ?_
    refine z_iadd C dL_law_1497 ?_
    refine zd_ld C Z G q1 (x.toNat + 1) e1 (by omega) (by omega) dL_law_1498 ?_
    refine lv_aload_n C.1 C.2.1 dL_law_1499 rfl (lv_at hl 3 rfl) ?_
    refine zd_W (as := [.ref o, .int (iZ (q1)), .ref w]) C Z Y G (c_L_degree_badc l hlq D cJ o a _ _ _ _ (q1) (by first | assumption | omega) (by first | assumption | omega) w _ _) ml_L_254 ⟨Nat.le_of_ble_eq_true rfl, Nat.le_of_ble_eq_true rfl⟩ ⟨by show cells + 0 + 1 ≤ 665987; omega, by show slots + 0 + 6 ≤ 7103520; omega⟩ hl (Nat.le_of_ble_eq_true rfl) rfl dL_law_1500 (fun H locs G => ?_)
    refine lv_istore (lv' := [(5, .int (iZ (1))), (0, .ref t), (1, .ref o), (2, .ref u), (3, .ref w), (4, .int (iZ (x)))]) C.1 C.2.1 dL_law_1503 hl (by decide) rfl (fun ls hl => ?_)
    refine lv_aload_n C.1 C.2.1 dL_law_1505 rfl (lv_at hl 3 rfl) ?_
    refine lv_aload_n C.1 C.2.1 dL_law_1506 rfl (lv_at hl 1 rfl) ?_
    refine lv_iload C.1 C.2.1 dL_law_1507 (lv_at hl 5 rfl) ?_
    refine z_iconst C dL_law_1509 ?_
    refine z_iadd C dL_law_1510 ?_
    refine zd_ld C Z G q1 (x.toNat + 1) e1 (by omega) (by omega) dL_law_1511 ?_
    refine zd_M (as := [.int (iZ (q1))]) C Y G (c_X5_degree_bad1 l D cJ u v _ _ _ _ _ (q1) (by first | assumption | omega) (by first | assumption | omega)) ml_L_257 rfl ⟨Nat.le_of_ble_eq_true rfl, Nat.le_of_ble_eq_true rfl⟩ ⟨by show cells + 1 + 0 ≤ 665987; omega, by show slots + 6 + 0 ≤ 7103520; omega⟩ hl (Nat.le_of_ble_eq_true rfl) rfl dL_law_1512 (fun y9 H locs hy9 G => ?_)
    subst hy9
    refine lv_istore (lv' := [(6, _), (5, .int (iZ (1))), (0, .ref t), (1, .ref o), (2, .ref u), (3, .ref w), (4, .int (iZ (x)))]) C.1 C.2.1 dL_law_1515 hl (by decide) rfl (fun ls hl => ?_)
    refine lv_goto (tgt := 2207) C.1 C.2.1 dL_law_1517 (by decide) ?_
    exact kk _ _ _ _ _ _ _ _ _ _ _ _ G (by omega) (by omega) (lv_sub hl [2, 3, 4, 5, 6] rfl)
set_option maxHeartbeats 4000000 in
set_option maxRecDepth 100000 in
theorem lk_25 (hlq : l.stackTraces = false) (C : CallFix p m c0 cL_law 7 s args T0 RL) (Z : zLw D cB t N g s) (Y : zAd o a u v w s) {c : Nat → Nat} {ac re kn : Int32} {th : Int} {n : Int64} {sv : Value} {H : Heap} {locs : List Loc} {ls : Array Slot} {cells slots : Nat} (G : zG D cJ o a u v w c [.int ac, .int re, .int kn] c [.int (iZ th), .int ac, .int re, .int kn] n sv s H locs) (x : Int) (hx : 0 ≤ x ∧ x + 5 ≤ (N : Int)) (hf : cells + 150 ≤ 665987 ∧ slots + 75000 ≤ 7103520) (hl : lv_has ls 7 [(0, .ref t), (1, .ref o), (2, .ref u), (3, .ref w), (4, .int (iZ (x)))])
    (kk : zNx p l e s m args below meth c0 D cJ t o a u v w x cells slots Qw 2207) : W p l e room_1 s m args below meth c0 H locs cells slots Qw (F0 m 1520 ls []) := by
  have hc := G.1.2.2.2
  obtain ⟨q1, e1⟩ : ∃ z, g (x.toNat + 1) = z := ⟨_, rfl⟩
  have r1 : -2147483648 ≤ q1 ∧ q1 ≤ 2147483647 := e1 ▸ Z.2.2.2.2.2.1 _
  by_cases hcel : (0 ≤ q1 ∧ q1 ≤ 5)
  · skip
    refine lv_aload_n C.1 C.2.1 dL_law_1520 rfl (lv_at hl 1 rfl) ?_
    refine lv_aload_n C.1 C.2.1 dL_law_1521 rfl (lv_at hl 0 rfl) ?_
    refine lv_iload C.1 C.2.1 dL_law_1522 (lv_at hl 4 rfl) ?_
    refine z_iconst C dL_law_1524 ?_
    refine z_iadd C dL_law_1525 ?_
    refine zd_ld C Z G q1 (x.toNat + 1) e1 (by omega) (by omega) dL_law_1526 ?_
    refine lv_aload_n C.1 C.2.1 dL_law_1527 rfl (lv_at hl 3 rfl) ?_
    refine zd_W (as := [.ref o, .int (iZ (q1)), .ref w]) C Z Y G (c_L_low l D cJ o a _ _ _ _ (q1) (by first | assumption | omega) w _ _) ml_L_258 ⟨Nat.le_of_ble_eq_true rfl, Nat.le_of_ble_eq_true rfl⟩ ⟨by show cells + 0 + 0 ≤ 665987; omega, by show slots + 0 + 0 ≤ 7103520; omega⟩ hl (Nat.le_of_ble_eq_true rfl) rfl dL_law_1528 (fun H locs G => ?_)
    refine lv_istore (lv' := [(5, .int (iZ (0))), (0, .ref t), (1, .ref o), (2, .ref u), (3, .ref w), (4, .int (iZ (x)))]) C.1 C.2.1 dL_law_1531 hl (by decide) rfl (fun ls hl => ?_)
    refine lv_aload_n C.1 C.2.1 dL_law_1533 rfl (lv_at hl 3 rfl) ?_
    refine lv_aload_n C.1 C.2.1 dL_law_1534 rfl (lv_at hl 1 rfl) ?_
    refine lv_iload C.1 C.2.1 dL_law_1535 (lv_at hl 5 rfl) ?_
    refine z_iconst C dL_law_1537 ?_
    refine z_iadd C dL_law_1538 ?_
    refine zd_ld C Z G q1 (x.toNat + 1) e1 (by omega) (by omega) dL_law_1539 ?_
    refine zd_M (as := [.int (iZ (q1))]) C Y G (c_X5_low l D cJ u v _ _ _ _ _ (q1) (by first | assumption | omega)) ml_L_260 rfl ⟨Nat.le_of_ble_eq_true rfl, Nat.le_of_ble_eq_true rfl⟩ ⟨by show cells + 0 + 0 ≤ 665987; omega, by show slots + 0 + 0 ≤ 7103520; omega⟩ hl (Nat.le_of_ble_eq_true rfl) rfl dL_law_1540 (fun y9 H locs hy9 G => ?_)
    subst hy9
    refine lv_istore (lv' := [(6, _), (5, .int (iZ (0))), (0, .ref t), (1, .ref o), (2, .ref u), (3, .ref w), (4, .int (iZ (x)))]) C.1 C.2.1 dL_law_1543 hl (by decide) rfl (fun ls hl => ?_)
    refine lv_goto (tgt := 2207) C.1 C.2.1 dL_law_1545 (by decide) ?_
    exact kk _ _ _ _ _ _ _ _ _ _ _ _ G (by omega) (by omega) (lv_sub hl [2, 3, 4, 5, 6] rfl)
  · skip
    refine lv_aload_n C.1 C.2.1 dL_law_1520 rfl (lv_at hl 1 rfl) ?_
    refine lv_aload_n C.1 C.2.1 dL_law_1521 rfl (lv_at hl 0 rfl) ?_
    refine lv_iload C.1 C.2.1 dL_law_1522 (lv_at hl 4 rfl) ?_
    refine z_iconst C dL_law_1524 ?_
    refine z_iadd C dL_law_1525 ?_
    refine zd_ld C Z G q1 (x.toNat + 1) e1 (by omega) (by omega) dL_law_1526 ?_
    refine lv_aload_n C.1 C.2.1 dL_law_1527 rfl (lv_at hl 3 rfl) ?_
    refine zd_W (as := [.ref o, .int (iZ (q1)), .ref w]) C Z Y G (c_L_low_badc l hlq D cJ o a _ _ _ _ (q1) (by first | assumption | omega) (by first | assumption | omega) w _ _) ml_L_258 ⟨Nat.le_of_ble_eq_true rfl, Nat.le_of_ble_eq_true rfl⟩ ⟨by show cells + 0 + 1 ≤ 665987; omega, by show slots + 0 + 6 ≤ 7103520; omega⟩ hl (Nat.le_of_ble_eq_true rfl) rfl dL_law_1528 (fun H locs G => ?_)
    refine lv_istore (lv' := [(5, .int (iZ (1))), (0, .ref t), (1, .ref o), (2, .ref u), (3, .ref w), (4, .int (iZ (x)))]) C.1 C.2.1 dL_law_1531 hl (by decide) rfl (fun ls hl => ?_)
    refine lv_aload_n C.1 C.2.1 dL_law_1533 rfl (lv_at hl 3 rfl) ?_
    refine lv_aload_n C.1 C.2.1 dL_law_1534 rfl (lv_at hl 1 rfl) ?_
    refine lv_iload C.1 C.2.1 dL_law_1535 (lv_at hl 5 rfl) ?_
    refine z_iconst C dL_law_1537 ?_
    refine z_iadd C dL_law_1538 ?_
    refine zd_ld C Z G q1 (x.toNat + 1) e1 (by omega) (by omega) dL_law_1539 ?_
    refine zd_M (as := [.int (iZ (q1))]) C Y G (c_X5_low_bad1 l D cJ u v _ _ _ _ _ (q1) (by first | assumption | omega) (by first | assumption | omega)) ml_L_260 rfl ⟨Nat.le_of_ble_eq_true rfl, Nat.le_of_ble_eq_true rfl⟩ ⟨by show cells + 1 + 0 ≤ 665987; omega, by show slots + 6 + 0 ≤ 7103520; omega⟩ hl (Nat.le_of_ble_eq_true rfl) rfl dL_law_1540 (fun y9 H locs hy9 G => ?_)
    subst hy9
    refine lv_istore (lv' := [(6, _), (5, .int (iZ (1))), (0, .ref t), (1, .ref o), (2, .ref u), (3, .ref w), (4, .int (iZ (x)))]) C.1 C.2.1 dL_law_1543 hl (by decide) rfl (fun ls hl => ?_)
    refine lv_goto (tgt := 2207) C.1 C.2.1 dL_law_1545 (by decide) ?_
    exact kk _ _ _ _ _ _ _ _ _ _ _ _ G (by omega) (by omega) (lv_sub hl [2, 3, 4, 5, 6] rfl)
set_option maxHeartbeats 4000000 in
set_option maxRecDepth 100000 in
theorem lk_26 (hlq : l.stackTraces = false) (C : CallFix p m c0 cL_law 7 s args T0 RL) (Z : zLw D cB t N g s) (Y : zAd o a u v w s) {c : Nat → Nat} {ac re kn : Int32} {th : Int} {n : Int64} {sv : Value} {H : Heap} {locs : List Loc} {ls : Array Slot} {cells slots : Nat} (G : zG D cJ o a u v w c [.int ac, .int re, .int kn] c [.int (iZ th), .int ac, .int re, .int kn] n sv s H locs) (x : Int) (hx : 0 ≤ x ∧ x + 5 ≤ (N : Int)) (hf : cells + 150 ≤ 665987 ∧ slots + 75000 ≤ 7103520) (hl : lv_has ls 7 [(0, .ref t), (1, .ref o), (2, .ref u), (3, .ref w), (4, .int (iZ (x)))])
    (kk : zNx p l e s m args below meth c0 D cJ t o a u v w x cells slots Qw 2207) : W p l e room_1 s m args below meth c0 H locs cells slots Qw (F0 m 1548 ls []) := by
  have hc := G.1.2.2.2
  obtain ⟨q1, e1⟩ : ∃ z, g (x.toNat + 1) = z := ⟨_, rfl⟩
  have r1 : -2147483648 ≤ q1 ∧ q1 ≤ 2147483647 := e1 ▸ Z.2.2.2.2.2.1 _
  by_cases hcel : (0 ≤ q1 ∧ q1 ≤ 5)
  · skip
    refine lv_aload_n C.1 C.2.1 dL_law_1548 rfl (lv_at hl 1 rfl) ?_
    refine lv_aload_n C.1 C.2.1 dL_law_1549 rfl (lv_at hl 0 rfl) ?_
    refine lv_iload C.1 C.2.1 dL_law_1550 (lv_at hl 4 rfl) ?_
    refine z_iconst C dL_law_1552 ?_
    refine z_iadd C dL_law_1553 ?_
    refine zd_ld C Z G q1 (x.toNat + 1) e1 (by omega) (by omega) dL_law_1554 ?_
    refine lv_aload_n C.1 C.2.1 dL_law_1555 rfl (lv_at hl 3 rfl) ?_
    refine zd_W (as := [.ref o, .int (iZ (q1)), .ref w]) C Z Y G (c_L_weight l D cJ o a _ _ _ _ (q1) (by first | assumption | omega) w _ _) ml_L_261 ⟨Nat.le_of_ble_eq_true rfl, Nat.le_of_ble_eq_true rfl⟩ ⟨by show cells + 0 + 0 ≤ 665987; omega, by show slots + 0 + 0 ≤ 7103520; omega⟩ hl (Nat.le_of_ble_eq_true rfl) rfl dL_law_1556 (fun H locs G => ?_)
    refine lv_istore (lv' := [(5, .int (iZ (0))), (0, .ref t), (1, .ref o), (2, .ref u), (3, .ref w), (4, .int (iZ (x)))]) C.1 C.2.1 dL_law_1559 hl (by decide) rfl (fun ls hl => ?_)
    refine lv_aload_n C.1 C.2.1 dL_law_1561 rfl (lv_at hl 3 rfl) ?_
    refine lv_aload_n C.1 C.2.1 dL_law_1562 rfl (lv_at hl 1 rfl) ?_
    refine lv_iload C.1 C.2.1 dL_law_1563 (lv_at hl 5 rfl) ?_
    refine z_iconst C dL_law_1565 ?_
    refine z_iadd C dL_law_1566 ?_
    refine zd_ld C Z G q1 (x.toNat + 1) e1 (by omega) (by omega) dL_law_1567 ?_
    refine zd_M (as := [.int (iZ (q1))]) C Y G (c_X5_weight l D cJ u v _ _ _ _ _ (q1) (by first | assumption | omega)) ml_L_263 rfl ⟨Nat.le_of_ble_eq_true rfl, Nat.le_of_ble_eq_true rfl⟩ ⟨by show cells + 0 + 0 ≤ 665987; omega, by show slots + 0 + 0 ≤ 7103520; omega⟩ hl (Nat.le_of_ble_eq_true rfl) rfl dL_law_1568 (fun y9 H locs hy9 G => ?_)
    subst hy9
    refine lv_istore (lv' := [(6, _), (5, .int (iZ (0))), (0, .ref t), (1, .ref o), (2, .ref u), (3, .ref w), (4, .int (iZ (x)))]) C.1 C.2.1 dL_law_1571 hl (by decide) rfl (fun ls hl => ?_)
    refine lv_goto (tgt := 2207) C.1 C.2.1 dL_law_1573 (by decide) ?_
    exact kk _ _ _ _ _ _ _ _ _ _ _ _ G (by omega) (by omega) (lv_sub hl [2, 3, 4, 5, 6] rfl)
  · skip
    refine lv_aload_n C.1 C.2.1 dL_law_1548 rfl (lv_at hl 1 rfl) ?_
    refine lv_aload_n C.1 C.2.1 dL_law_1549 rfl (lv_at hl 0 rfl) ?_
    refine lv_iload C.1 C.2.1 dL_law_1550 (lv_at hl 4 rfl) ?_
    refine z_iconst C dL_law_1552 ?_
    refine z_iadd C dL_law_1553 ?_
    refine zd_ld C Z G q1 (x.toNat + 1) e1 (by omega) (by omega) dL_law_1554 ?_
    refine lv_aload_n C.1 C.2.1 dL_law_1555 rfl (lv_at hl 3 rfl) ?_
    refine zd_W (as := [.ref o, .int (iZ (q1)), .ref w]) C Z Y G (c_L_weight_badc l hlq D cJ o a _ _ _ _ (q1) (by first | assumption | omega) (by first | assumption | omega) w _ _) ml_L_261 ⟨Nat.le_of_ble_eq_true rfl, Nat.le_of_ble_eq_true rfl⟩ ⟨by show cells + 0 + 1 ≤ 665987; omega, by show slots + 0 + 6 ≤ 7103520; omega⟩ hl (Nat.le_of_ble_eq_true rfl) rfl dL_law_1556 (fun H locs G => ?_)
    refine lv_istore (lv' := [(5, .int (iZ (1))), (0, .ref t), (1, .ref o), (2, .ref u), (3, .ref w), (4, .int (iZ (x)))]) C.1 C.2.1 dL_law_1559 hl (by decide) rfl (fun ls hl => ?_)
    refine lv_aload_n C.1 C.2.1 dL_law_1561 rfl (lv_at hl 3 rfl) ?_
    refine lv_aload_n C.1 C.2.1 dL_law_1562 rfl (lv_at hl 1 rfl) ?_
    refine lv_iload C.1 C.2.1 dL_law_1563 (lv_at hl 5 rfl) ?_
    refine z_iconst C dL_law_1565 ?_
    refine z_iadd C dL_law_1566 ?_
    refine zd_ld C Z G q1 (x.toNat + 1) e1 (by omega) (by omega) dL_law_1567 ?_
    refine zd_M (as := [.int (iZ (q1))]) C Y G (c_X5_weight_bad1 l D cJ u v _ _ _ _ _ (q1) (by first | assumption | omega) (by first | assumption | omega)) ml_L_263 rfl ⟨Nat.le_of_ble_eq_true rfl, Nat.le_of_ble_eq_true rfl⟩ ⟨by show cells + 1 + 0 ≤ 665987; omega, by show slots + 6 + 0 ≤ 7103520; omega⟩ hl (Nat.le_of_ble_eq_true rfl) rfl dL_law_1568 (fun y9 H locs hy9 G => ?_)
    subst hy9
    refine lv_istore (lv' := [(6, _), (5, .int (iZ (1))), (0, .ref t), (1, .ref o), (2, .ref u), (3, .ref w), (4, .int (iZ (x)))]) C.1 C.2.1 dL_law_1571 hl (by decide) rfl (fun ls hl => ?_)
    refine lv_goto (tgt := 2207) C.1 C.2.1 dL_law_1573 (by decide) ?_
    exact kk _ _ _ _ _ _ _ _ _ _ _ _ G (by omega) (by omega) (lv_sub hl [2, 3, 4, 5, 6] rfl)
set_option maxHeartbeats 4000000 in
set_option maxRecDepth 100000 in
theorem lk_27 (hlq : l.stackTraces = false) (C : CallFix p m c0 cL_law 7 s args T0 RL) (Z : zLw D cB t N g s) (Y : zAd o a u v w s) {c : Nat → Nat} {ac re kn : Int32} {th : Int} {n : Int64} {sv : Value} {H : Heap} {locs : List Loc} {ls : Array Slot} {cells slots : Nat} (G : zG D cJ o a u v w c [.int ac, .int re, .int kn] c [.int (iZ th), .int ac, .int re, .int kn] n sv s H locs) (x : Int) (hx : 0 ≤ x ∧ x + 5 ≤ (N : Int)) (hf : cells + 150 ≤ 665987 ∧ slots + 75000 ≤ 7103520) (hl : lv_has ls 7 [(0, .ref t), (1, .ref o), (2, .ref u), (3, .ref w), (4, .int (iZ (x)))])
    (kk : zNx p l e s m args below meth c0 D cJ t o a u v w x cells slots Qw 2207) : W p l e room_1 s m args below meth c0 H locs cells slots Qw (F0 m 1576 ls []) := by
  have hc := G.1.2.2.2
  obtain ⟨q1, e1⟩ : ∃ z, g (x.toNat + 1) = z := ⟨_, rfl⟩
  have r1 : -2147483648 ≤ q1 ∧ q1 ≤ 2147483647 := e1 ▸ Z.2.2.2.2.2.1 _
  obtain ⟨q2, e2⟩ : ∃ z, g (x.toNat + 2) = z := ⟨_, rfl⟩
  have r2 : -2147483648 ≤ q2 ∧ q2 ≤ 2147483647 := e2 ▸ Z.2.2.2.2.2.1 _
  by_cases hcel : (0 ≤ q1 ∧ q1 ≤ 5)
  · skip
    by_cases hrng : (0 ≤ q2 ∧ q2 ≤ 99)
    · skip
      refine lv_aload_n C.1 C.2.1 dL_law_1576 rfl (lv_at hl 1 rfl) ?_
      refine lv_aload_n C.1 C.2.1 dL_law_1577 rfl (lv_at hl 0 rfl) ?_
      refine lv_iload C.1 C.2.1 dL_law_1578 (lv_at hl 4 rfl) ?_
      refine z_iconst C dL_law_1580 ?_
      refine z_iadd C dL_law_1581 ?_
      refine zd_ld C Z G q1 (x.toNat + 1) e1 (by omega) (by omega) dL_law_1582 ?_
      refine lv_aload_n C.1 C.2.1 dL_law_1583 rfl (lv_at hl 0 rfl) ?_
      refine lv_iload C.1 C.2.1 dL_law_1584 (lv_at hl 4 rfl) ?_
      refine z_iconst C dL_law_1586 ?_
      refine z_iadd C dL_law_1587 ?_
      refine zd_ld C Z G q2 (x.toNat + 2) e2 (by omega) (by omega) dL_law_1588 ?_
      refine lv_aload_n C.1 C.2.1 dL_law_1589 rfl (lv_at hl 3 rfl) ?_
      refine zd_W (as := [.ref o, .int (iZ (q1)), .int (iZ (q2)), .ref w]) C Z Y G (c_L_at l D cJ o a _ _ _ _ (q1) (q2) (by first | assumption | omega) (by first | assumption | omega) w _ _) ml_L_264 ⟨Nat.le_of_ble_eq_true rfl, Nat.le_of_ble_eq_true rfl⟩ ⟨by show cells + 0 + 0 ≤ 665987; omega, by show slots + 0 + 0 ≤ 7103520; omega⟩ hl (Nat.le_of_ble_eq_true rfl) rfl dL_law_1590 (fun H locs G => ?_)
      refine lv_istore (lv' := [(5, .int (iZ (0))), (0, .ref t), (1, .ref o), (2, .ref u), (3, .ref w), (4, .int (iZ (x)))]) C.1 C.2.1 dL_law_1593 hl (by decide) rfl (fun ls hl => ?_)
      refine lv_aload_n C.1 C.2.1 dL_law_1595 rfl (lv_at hl 3 rfl) ?_
      refine lv_aload_n C.1 C.2.1 dL_law_1596 rfl (lv_at hl 1 rfl) ?_
      refine lv_iload C.1 C.2.1 dL_law_1597 (lv_at hl 5 rfl) ?_
      refine z_iconst C dL_law_1599 ?_
      refine z_iadd C dL_law_1600 ?_
      refine zd_ld C Z G q1 (x.toNat + 1) e1 (by omega) (by omega) dL_law_1601 ?_
      refine lv_aload_n C.1 C.2.1 dL_law_1602 rfl (lv_at hl 1 rfl) ?_
      refine lv_iload C.1 C.2.1 dL_law_1603 (lv_at hl 5 rfl) ?_
      refine z_iconst C dL_law_1605 ?_
      refine z_iadd C dL_law_1606 ?_
      refine zd_ld C Z G q2 (x.toNat + 2) e2 (by omega) (by omega) dL_law_1607 ?_
      refine zd_M (as := [.int (iZ (q1)), .int (iZ (q2))]) C Y G (c_X5_at l D cJ u v _ _ _ _ _ (q1) (q2) (by first | assumption | omega) (by first | assumption | omega)) ml_L_266 rfl ⟨Nat.le_of_ble_eq_true rfl, Nat.le_of_ble_eq_true rfl⟩ ⟨by show cells + 0 + 0 ≤ 665987; omega, by show slots + 0 + 0 ≤ 7103520; omega⟩ hl (Nat.le_of_ble_eq_true rfl) rfl dL_law_1608 (fun y9 H locs hy9 G => ?_)
      subst hy9
      refine lv_istore (lv' := [(6, _), (5, .int (iZ (0))), (0, .ref t), (1, .ref o), (2, .ref u), (3, .ref w), (4, .int (iZ (x)))]) C.1 C.2.1 dL_law_1611 hl (by decide) rfl (fun ls hl => ?_)
      refine lv_goto (tgt := 2207) C.1 C.2.1 dL_law_1613 (by decide) ?_
      exact kk _ _ _ _ _ _ _ _ _ _ _ _ G (by omega) (by omega) (lv_sub hl [2, 3, 4, 5, 6] rfl)
    · skip
      refine lv_aload_n C.1 C.2.1 dL_law_1576 rfl (lv_at hl 1 rfl) ?_
      refine lv_aload_n C.1 C.2.1 dL_law_1577 rfl (lv_at hl 0 rfl) ?_
      refine lv_iload C.1 C.2.1 dL_law_1578 (lv_at hl 4 rfl) ?_
      refine z_iconst C dL_law_1580 ?_
      refine z_iadd C dL_law_1581 ?_
      refine zd_ld C Z G q1 (x.toNat + 1) e1 (by omega) (by omega) dL_law_1582 ?_
      refine lv_aload_n C.1 C.2.1 dL_law_1583 rfl (lv_at hl 0 rfl) ?_
      refine lv_iload C.1 C.2.1 dL_law_1584 (lv_at hl 4 rfl) ?_
      refine z_iconst C dL_law_1586 ?_
      refine z_iadd C dL_law_1587 ?_
      refine zd_ld C Z G q2 (x.toNat + 2) e2 (by omega) (by omega) dL_law_1588 ?_
      refine lv_aload_n C.1 C.2.1 dL_law_1589 rfl (lv_at hl 3 rfl) ?_
      refine zd_W (as := [.ref o, .int (iZ (q1)), .int (iZ (q2)), .ref w]) C Z Y G (c_L_at_badr l hlq D cJ o a _ _ _ _ (q1) (q2) (by first | assumption | omega) (by first | assumption | omega) (by first | assumption | omega) (by first | assumption | omega) w _ _) ml_L_264 ⟨Nat.le_of_ble_eq_true rfl, Nat.le_of_ble_eq_true rfl⟩ ⟨by show cells + 0 + 1 ≤ 665987; omega, by show slots + 0 + 6 ≤ 7103520; omega⟩ hl (Nat.le_of_ble_eq_true rfl) rfl dL_law_1590 (fun H locs G => ?_)
      refine lv_istore (lv' := [(5, .int (iZ (2))), (0, .ref t), (1, .ref o), (2, .ref u), (3, .ref w), (4, .int (iZ (x)))]) C.1 C.2.1 dL_law_1593 hl (by decide) rfl (fun ls hl => ?_)
      refine lv_aload_n C.1 C.2.1 dL_law_1595 rfl (lv_at hl 3 rfl) ?_
      refine lv_aload_n C.1 C.2.1 dL_law_1596 rfl (lv_at hl 1 rfl) ?_
      refine lv_iload C.1 C.2.1 dL_law_1597 (lv_at hl 5 rfl) ?_
      refine z_iconst C dL_law_1599 ?_
      refine z_iadd C dL_law_1600 ?_
      refine zd_ld C Z G q1 (x.toNat + 1) e1 (by omega) (by omega) dL_law_1601 ?_
      refine lv_aload_n C.1 C.2.1 dL_law_1602 rfl (lv_at hl 1 rfl) ?_
      refine lv_iload C.1 C.2.1 dL_law_1603 (lv_at hl 5 rfl) ?_
      refine z_iconst C dL_law_1605 ?_
      refine z_iadd C dL_law_1606 ?_
      refine zd_ld C Z G q2 (x.toNat + 2) e2 (by omega) (by omega) dL_law_1607 ?_
      refine zd_M (as := [.int (iZ (q1)), .int (iZ (q2))]) C Y G (c_X5_at_bad2 l D cJ u v _ _ _ _ _ (q1) (q2) (by first | assumption | omega) (by first | assumption | omega) (by first | assumption | omega) (by first | assumption | omega)) ml_L_266 rfl ⟨Nat.le_of_ble_eq_true rfl, Nat.le_of_ble_eq_true rfl⟩ ⟨by show cells + 1 + 0 ≤ 665987; omega, by show slots + 6 + 0 ≤ 7103520; omega⟩ hl (Nat.le_of_ble_eq_true rfl) rfl dL_law_1608 (fun y9 H locs hy9 G => ?_)
      subst hy9
      refine lv_istore (lv' := [(6, _), (5, .int (iZ (2))), (0, .ref t), (1, .ref o), (2, .ref u), (3, .ref w), (4, .int (iZ (x)))]) C.1 C.2.1 dL_law_1611 hl (by decide) rfl (fun ls hl => ?_)
      refine lv_goto (tgt := 2207) C.1 C.2.1 dL_law_1613 (by decide) ?_
      exact kk _ _ _ _ _ _ _ _ _ _ _ _ G (by omega) (by omega) (lv_sub hl [2, 3, 4, 5, 6] rfl)
  · skip
    refine lv_aload_n C.1 C.2.1 dL_law_1576 rfl (lv_at hl 1 rfl) ?_
    refine lv_aload_n C.1 C.2.1 dL_law_1577 rfl (lv_at hl 0 rfl) ?_
    refine lv_iload C.1 C.2.1 dL_law_1578 (lv_at hl 4 rfl) ?_
    refine z_iconst C dL_law_1580 ?_
    refine z_iadd C dL_law_1581 ?_
    refine zd_ld C Z G q1 (x.toNat + 1) e1 (by omega) (by omega) dL_law_1582 ?_
    refine lv_aload_n C.1 C.2.1 dL_law_1583 rfl (lv_at hl 0 rfl) ?_
    refine lv_iload C.1 C.2.1 dL_law_1584 (lv_at hl 4 rfl) ?_
    refine z_iconst C dL_law_1586 ?_
    refine z_iadd C dL_law_1587 ?_
    refine zd_ld C Z G q2 (x.toNat + 2) e2 (by omega) (by omega) dL_law_1588 ?_
    refine lv_aload_n C.1 C.2.1 dL_law_1589 rfl (lv_at hl 3 rfl) ?_
    refine zd_W (as := [.ref o, .int (iZ (q1)), .int (iZ (q2)), .ref w]) C Z Y G (c_L_at_badc l hlq D cJ o a _ _ _ _ (q1) (q2) (by first | assumption | omega) (by first | assumption | omega) (by first | assumption | omega) w _ _) ml_L_264 ⟨Nat.le_of_ble_eq_true rfl, Nat.le_of_ble_eq_true rfl⟩ ⟨by show cells + 0 + 1 ≤ 665987; omega, by show slots + 0 + 6 ≤ 7103520; omega⟩ hl (Nat.le_of_ble_eq_true rfl) rfl dL_law_1590 (fun H locs G => ?_)
    refine lv_istore (lv' := [(5, .int (iZ (1))), (0, .ref t), (1, .ref o), (2, .ref u), (3, .ref w), (4, .int (iZ (x)))]) C.1 C.2.1 dL_law_1593 hl (by decide) rfl (fun ls hl => ?_)
    refine lv_aload_n C.1 C.2.1 dL_law_1595 rfl (lv_at hl 3 rfl) ?_
    refine lv_aload_n C.1 C.2.1 dL_law_1596 rfl (lv_at hl 1 rfl) ?_
    refine lv_iload C.1 C.2.1 dL_law_1597 (lv_at hl 5 rfl) ?_
    refine z_iconst C dL_law_1599 ?_
    refine z_iadd C dL_law_1600 ?_
    refine zd_ld C Z G q1 (x.toNat + 1) e1 (by omega) (by omega) dL_law_1601 ?_
    refine lv_aload_n C.1 C.2.1 dL_law_1602 rfl (lv_at hl 1 rfl) ?_
    refine lv_iload C.1 C.2.1 dL_law_1603 (lv_at hl 5 rfl) ?_
    refine z_iconst C dL_law_1605 ?_
    refine z_iadd C dL_law_1606 ?_
    refine zd_ld C Z G q2 (x.toNat + 2) e2 (by omega) (by omega) dL_law_1607 ?_
    refine zd_M (as := [.int (iZ (q1)), .int (iZ (q2))]) C Y G (c_X5_at_bad1 l D cJ u v _ _ _ _ _ (q1) (q2) (by first | assumption | omega) (by first | assumption | omega) (by first | assumption | omega)) ml_L_266 rfl ⟨Nat.le_of_ble_eq_true rfl, Nat.le_of_ble_eq_true rfl⟩ ⟨by show cells + 1 + 0 ≤ 665987; omega, by show slots + 6 + 0 ≤ 7103520; omega⟩ hl (Nat.le_of_ble_eq_true rfl) rfl dL_law_1608 (fun y9 H locs hy9 G => ?_)
    subst hy9
    refine lv_istore (lv' := [(6, _), (5, .int (iZ (1))), (0, .ref t), (1, .ref o), (2, .ref u), (3, .ref w), (4, .int (iZ (x)))]) C.1 C.2.1 dL_law_1611 hl (by decide) rfl (fun ls hl => ?_)
    refine lv_goto (tgt := 2207) C.1 C.2.1 dL_law_1613 (by decide) ?_
    exact kk _ _ _ _ _ _ _ _ _ _ _ _ G (by omega) (by omega) (lv_sub hl [2, 3, 4, 5, 6] rfl)
set_option maxHeartbeats 4000000 in
set_option maxRecDepth 100000 in
theorem lk_28 (hlq : l.stackTraces = false) (C : CallFix p m c0 cL_law 7 s args T0 RL) (Z : zLw D cB t N g s) (Y : zAd o a u v w s) {c : Nat → Nat} {ac re kn : Int32} {th : Int} {n : Int64} {sv : Value} {H : Heap} {locs : List Loc} {ls : Array Slot} {cells slots : Nat} (G : zG D cJ o a u v w c [.int ac, .int re, .int kn] c [.int (iZ th), .int ac, .int re, .int kn] n sv s H locs) (x : Int) (hx : 0 ≤ x ∧ x + 5 ≤ (N : Int)) (hf : cells + 150 ≤ 665987 ∧ slots + 75000 ≤ 7103520) (hl : lv_has ls 7 [(0, .ref t), (1, .ref o), (2, .ref u), (3, .ref w), (4, .int (iZ (x)))])
    (kk : zNx p l e s m args below meth c0 D cJ t o a u v w x cells slots Qw 2207) : W p l e room_1 s m args below meth c0 H locs cells slots Qw (F0 m 1616 ls []) := by
  have hc := G.1.2.2.2
  obtain ⟨q1, e1⟩ : ∃ z, g (x.toNat + 1) = z := ⟨_, rfl⟩
  have r1 : -2147483648 ≤ q1 ∧ q1 ≤ 2147483647 := e1 ▸ Z.2.2.2.2.2.1 _
  by_cases hcel : (0 ≤ q1 ∧ q1 ≤ 5)
  · skip
    refine lv_aload_n C.1 C.2.1 dL_law_1616 rfl (lv_at hl 1 rfl) ?_
    refine lv_aload_n C.1 C.2.1 dL_law_1617 rfl (lv_at hl 0 rfl) ?_
    refine lv_iload C.1 C.2.1 dL_law_1618 (lv_at hl 4 rfl) ?_
    refine z_iconst C dL_law_1620 ?_
    refine z_iadd C dL_law_1621 ?_
    refine zd_ld C Z G q1 (x.toNat + 1) e1 (by omega) (by omega) dL_law_1622 ?_
    refine lv_aload_n C.1 C.2.1 dL_law_1623 rfl (lv_at hl 3 rfl) ?_
    refine zd_W (as := [.ref o, .int (iZ (q1)), .ref w]) C Z Y G (c_L_digits l D cJ o a _ _ _ _ (q1) (by first | assumption | omega) w _ _) ml_L_267 ⟨Nat.le_of_ble_eq_true rfl, Nat.le_of_ble_eq_true rfl⟩ ⟨by show cells + 0 + 0 ≤ 665987; omega, by show slots + 0 + 0 ≤ 7103520; omega⟩ hl (Nat.le_of_ble_eq_true rfl) rfl dL_law_1624 (fun H locs G => ?_)
    refine lv_istore (lv' := [(5, .int (iZ (0))), (0, .ref t), (1, .ref o), (2, .ref u), (3, .ref w), (4, .int (iZ (x)))]) C.1 C.2.1 dL_law_1627 hl (by decide) rfl (fun ls hl => ?_)
    refine lv_aload_n C.1 C.2.1 dL_law_1629 rfl (lv_at hl 3 rfl) ?_
    refine lv_aload_n C.1 C.2.1 dL_law_1630 rfl (lv_at hl 1 rfl) ?_
    refine lv_iload C.1 C.2.1 dL_law_1631 (lv_at hl 5 rfl) ?_
    refine z_iconst C dL_law_1633 ?_
    refine z_iadd C dL_law_1634 ?_
    refine zd_ld C Z G q1 (x.toNat + 1) e1 (by omega) (by omega) dL_law_1635 ?_
    refine zd_M (as := [.int (iZ (q1))]) C Y G (c_X5_digits l D cJ u v _ _ _ _ _ (q1) (by first | assumption | omega)) ml_L_269 rfl ⟨Nat.le_of_ble_eq_true rfl, Nat.le_of_ble_eq_true rfl⟩ ⟨by show cells + 0 + 0 ≤ 665987; omega, by show slots + 0 + 0 ≤ 7103520; omega⟩ hl (Nat.le_of_ble_eq_true rfl) rfl dL_law_1636 (fun y9 H locs hy9 G => ?_)
    subst hy9
    refine lv_istore (lv' := [(6, _), (5, .int (iZ (0))), (0, .ref t), (1, .ref o), (2, .ref u), (3, .ref w), (4, .int (iZ (x)))]) C.1 C.2.1 dL_law_1639 hl (by decide) rfl (fun ls hl => ?_)
    refine lv_goto (tgt := 2207) C.1 C.2.1 dL_law_1641 (by decide) ?_
    exact kk _ _ _ _ _ _ _ _ _ _ _ _ G (by omega) (by omega) (lv_sub hl [2, 3, 4, 5, 6] rfl)
  · skip
    refine lv_aload_n C.1 C.2.1 dL_law_1616 rfl (lv_at hl 1 rfl) ?_
    refine lv_aload_n C.1 C.2.1 dL_law_1617 rfl (lv_at hl 0 rfl) ?_
    refine lv_iload C.1 C.2.1 dL_law_1618 (lv_at hl 4 rfl) ?_
    refine z_iconst C dL_law_1620 ?_
    refine z_iadd C dL_law_1621 ?_
    refine zd_ld C Z G q1 (x.toNat + 1) e1 (by omega) (by omega) dL_law_1622 ?_
    refine lv_aload_n C.1 C.2.1 dL_law_1623 rfl (lv_at hl 3 rfl) ?_
    refine zd_W (as := [.ref o, .int (iZ (q1)), .ref w]) C Z Y G (c_L_digits_badc l hlq D cJ o a _ _ _ _ (q1) (by first | assumption | omega) (by first | assumption | omega) w _ _) ml_L_267 ⟨Nat.le_of_ble_eq_true rfl, Nat.le_of_ble_eq_true rfl⟩ ⟨by show cells + 0 + 1 ≤ 665987; omega, by show slots + 0 + 6 ≤ 7103520; omega⟩ hl (Nat.le_of_ble_eq_true rfl) rfl dL_law_1624 (fun H locs G => ?_)
    refine lv_istore (lv' := [(5, .int (iZ (1))), (0, .ref t), (1, .ref o), (2, .ref u), (3, .ref w), (4, .int (iZ (x)))]) C.1 C.2.1 dL_law_1627 hl (by decide) rfl (fun ls hl => ?_)
    refine lv_aload_n C.1 C.2.1 dL_law_1629 rfl (lv_at hl 3 rfl) ?_
    refine lv_aload_n C.1 C.2.1 dL_law_1630 rfl (lv_at hl 1 rfl) ?_
    refine lv_iload C.1 C.2.1 dL_law_1631 (lv_at hl 5 rfl) ?_
    refine z_iconst C dL_law_1633 ?_
    refine z_iadd C dL_law_1634 ?_
    refine zd_ld C Z G q1 (x.toNat + 1) e1 (by omega) (by omega) dL_law_1635 ?_
    refine zd_M (as := [.int (iZ (q1))]) C Y G (c_X5_digits_bad1 l D cJ u v _ _ _ _ _ (q1) (by first | assumption | omega) (by first | assumption | omega)) ml_L_269 rfl ⟨Nat.le_of_ble_eq_true rfl, Nat.le_of_ble_eq_true rfl⟩ ⟨by show cells + 1 + 0 ≤ 665987; omega, by show slots + 6 + 0 ≤ 7103520; omega⟩ hl (Nat.le_of_ble_eq_true rfl) rfl dL_law_1636 (fun y9 H locs hy9 G => ?_)
    subst hy9
    refine lv_istore (lv' := [(6, _), (5, .int (iZ (1))), (0, .ref t), (1, .ref o), (2, .ref u), (3, .ref w), (4, .int (iZ (x)))]) C.1 C.2.1 dL_law_1639 hl (by decide) rfl (fun ls hl => ?_)
    refine lv_goto (tgt := 2207) C.1 C.2.1 dL_law_1641 (by decide) ?_
    exact kk _ _ _ _ _ _ _ _ _ _ _ _ G (by omega) (by omega) (lv_sub hl [2, 3, 4, 5, 6] rfl)
set_option maxHeartbeats 4000000 in
set_option maxRecDepth 100000 in
theorem lk_29 (hlq : l.stackTraces = false) (C : CallFix p m c0 cL_law 7 s args T0 RL) (Z : zLw D cB t N g s) (Y : zAd o a u v w s) {c : Nat → Nat} {ac re kn : Int32} {th : Int} {n : Int64} {sv : Value} {H : Heap} {locs : List Loc} {ls : Array Slot} {cells slots : Nat} (G : zG D cJ o a u v w c [.int ac, .int re, .int kn] c [.int (iZ th), .int ac, .int re, .int kn] n sv s H locs) (x : Int) (hx : 0 ≤ x ∧ x + 5 ≤ (N : Int)) (hf : cells + 150 ≤ 665987 ∧ slots + 75000 ≤ 7103520) (hl : lv_has ls 7 [(0, .ref t), (1, .ref o), (2, .ref u), (3, .ref w), (4, .int (iZ (x)))])
    (kk : zNx p l e s m args below meth c0 D cJ t o a u v w x cells slots Qw 2207) : W p l e room_1 s m args below meth c0 H locs cells slots Qw (F0 m 1644 ls []) := by
  have hc := G.1.2.2.2
  obtain ⟨q1, e1⟩ : ∃ z, g (x.toNat + 1) = z := ⟨_, rfl⟩
  have r1 : -2147483648 ≤ q1 ∧ q1 ≤ 2147483647 := e1 ▸ Z.2.2.2.2.2.1 _
  by_cases hcel : (0 ≤ q1 ∧ q1 ≤ 5)
  · skip
    refine lv_aload_n C.1 C.2.1 dL_law_1644 rfl (lv_at hl 1 rfl) ?_
    refine lv_aload_n C.1 C.2.1 dL_law_1645 rfl (lv_at hl 0 rfl) ?_
    refine lv_iload C.1 C.2.1 dL_law_1646 (lv_at hl 4 rfl) ?_
    refine z_iconst C dL_law_1648 ?_
    refine z_iadd C dL_law_1649 ?_
    refine zd_ld C Z G q1 (x.toNat + 1) e1 (by omega) (by omega) dL_law_1650 ?_
    refine lv_aload_n C.1 C.2.1 dL_law_1651 rfl (lv_at hl 3 rfl) ?_
    refine zd_WV (as := [.ref o, .int (iZ (q1)), .ref w]) C Z Y G (c_L_text l D cB cJ o a _ _ _ _ (q1) (by first | assumption | omega) w _ _) ml_L_270 ⟨Nat.le_of_ble_eq_true rfl, Nat.le_of_ble_eq_true rfl⟩ ⟨by show cells + 0 + 72 ≤ 665987; omega, by show slots + 0 + 34864 ≤ 7103520; omega⟩ hl (Nat.le_of_ble_eq_true rfl) rfl dL_law_1652 (fun sv H locs G => ?_)
    refine lv_istore (lv' := [(5, .int (iZ (0))), (0, .ref t), (1, .ref o), (2, .ref u), (3, .ref w), (4, .int (iZ (x)))]) C.1 C.2.1 dL_law_1655 hl (by decide) rfl (fun ls hl => ?_)
    refine lv_aload_n C.1 C.2.1 dL_law_1657 rfl (lv_at hl 3 rfl) ?_
    refine lv_aload_n C.1 C.2.1 dL_law_1658 rfl (lv_at hl 1 rfl) ?_
    refine lv_iload C.1 C.2.1 dL_law_1659 (lv_at hl 5 rfl) ?_
    refine z_iconst C dL_law_1661 ?_
    refine z_iadd C dL_law_1662 ?_
    refine zd_ld C Z G q1 (x.toNat + 1) e1 (by omega) (by omega) dL_law_1663 ?_
    refine zd_MV (as := [.int (iZ (q1))]) C Z Y G (c_X5_text l D cB cJ u v _ _ _ _ _ (q1) (by first | assumption | omega)) ml_L_272 rfl ⟨Nat.le_of_ble_eq_true rfl, Nat.le_of_ble_eq_true rfl⟩ ⟨by show cells + 72 + 72 ≤ 665987; omega, by show slots + 34864 + 34864 ≤ 7103520; omega⟩ hl (Nat.le_of_ble_eq_true rfl) rfl dL_law_1664 (fun y9 H locs hy9 G => ?_)
    obtain ⟨q9, rfl⟩ := hy9
    refine lv_astore (lv' := [(6, .ref q9), (5, .int (iZ (0))), (0, .ref t), (1, .ref o), (2, .ref u), (3, .ref w), (4, .int (iZ (x)))]) C.1 C.2.1 dL_law_1667 hl (by decide) rfl (fun ls hl => ?_)
    refine lv_goto (tgt := 2207) C.1 C.2.1 dL_law_1669 (by decide) ?_
    exact kk _ _ _ _ _ _ _ _ _ _ _ _ G (by omega) (by omega) (lv_sub hl [2, 3, 4, 5, 6] rfl)
  · skip
    refine lv_aload_n C.1 C.2.1 dL_law_1644 rfl (lv_at hl 1 rfl) ?_
    refine lv_aload_n C.1 C.2.1 dL_law_1645 rfl (lv_at hl 0 rfl) ?_
    refine lv_iload C.1 C.2.1 dL_law_1646 (lv_at hl 4 rfl) ?_
    refine z_iconst C dL_law_1648 ?_
    refine z_iadd C dL_law_1649 ?_
    refine zd_ld C Z G q1 (x.toNat + 1) e1 (by omega) (by omega) dL_law_1650 ?_
    refine lv_aload_n C.1 C.2.1 dL_law_1651 rfl (lv_at hl 3 rfl) ?_
    refine zd_W (as := [.ref o, .int (iZ (q1)), .ref w]) C Z Y G (c_L_text_badc l hlq D cJ o a _ _ _ _ (q1) (by first | assumption | omega) (by first | assumption | omega) w _ _) ml_L_270 ⟨Nat.le_of_ble_eq_true rfl, Nat.le_of_ble_eq_true rfl⟩ ⟨by show cells + 0 + 1 ≤ 665987; omega, by show slots + 0 + 6 ≤ 7103520; omega⟩ hl (Nat.le_of_ble_eq_true rfl) rfl dL_law_1652 (fun H locs G => ?_)
    refine lv_istore (lv' := [(5, .int (iZ (1))), (0, .ref t), (1, .ref o), (2, .ref u), (3, .ref w), (4, .int (iZ (x)))]) C.1 C.2.1 dL_law_1655 hl (by decide) rfl (fun ls hl => ?_)
    refine lv_aload_n C.1 C.2.1 dL_law_1657 rfl (lv_at hl 3 rfl) ?_
    refine lv_aload_n C.1 C.2.1 dL_law_1658 rfl (lv_at hl 1 rfl) ?_
    refine lv_iload C.1 C.2.1 dL_law_1659 (lv_at hl 5 rfl) ?_
    refine z_iconst C dL_law_1661 ?_
    refine z_iadd C dL_law_1662 ?_
    refine zd_ld C Z G q1 (x.toNat + 1) e1 (by omega) (by omega) dL_law_1663 ?_
    refine zd_MV (as := [.int (iZ (q1))]) C Z Y G (c_X5_text_bad1 l D cB cJ u v _ _ _ _ _ (q1) (by first | assumption | omega) (by first | assumption | omega)) ml_L_272 rfl ⟨Nat.le_of_ble_eq_true rfl, Nat.le_of_ble_eq_true rfl⟩ ⟨by show cells + 1 + 0 ≤ 665987; omega, by show slots + 6 + 0 ≤ 7103520; omega⟩ hl (Nat.le_of_ble_eq_true rfl) rfl dL_law_1664 (fun y9 H locs hy9 G => ?_)
    obtain ⟨q9, rfl⟩ := hy9
    refine lv_astore (lv' := [(6, .ref q9), (5, .int (iZ (1))), (0, .ref t), (1, .ref o), (2, .ref u), (3, .ref w), (4, .int (iZ (x)))]) C.1 C.2.1 dL_law_1667 hl (by decide) rfl (fun ls hl => ?_)
    refine lv_goto (tgt := 2207) C.1 C.2.1 dL_law_1669 (by decide) ?_
    exact kk _ _ _ _ _ _ _ _ _ _ _ _ G (by omega) (by omega) (lv_sub hl [2, 3, 4, 5, 6] rfl)
set_option maxHeartbeats 4000000 in
set_option maxRecDepth 100000 in
theorem lk_30 (hlq : l.stackTraces = false) (C : CallFix p m c0 cL_law 7 s args T0 RL) (Z : zLw D cB t N g s) (Y : zAd o a u v w s) {c : Nat → Nat} {ac re kn : Int32} {th : Int} {n : Int64} {sv : Value} {H : Heap} {locs : List Loc} {ls : Array Slot} {cells slots : Nat} (G : zG D cJ o a u v w c [.int ac, .int re, .int kn] c [.int (iZ th), .int ac, .int re, .int kn] n sv s H locs) (x : Int) (hx : 0 ≤ x ∧ x + 5 ≤ (N : Int)) (hf : cells + 150 ≤ 665987 ∧ slots + 75000 ≤ 7103520) (hl : lv_has ls 7 [(0, .ref t), (1, .ref o), (2, .ref u), (3, .ref w), (4, .int (iZ (x)))])
    (kk : zNx p l e s m args below meth c0 D cJ t o a u v w x cells slots Qw 2207) : W p l e room_1 s m args below meth c0 H locs cells slots Qw (F0 m 1672 ls []) := by
  have hc := G.1.2.2.2
  obtain ⟨q1, e1⟩ : ∃ z, g (x.toNat + 1) = z := ⟨_, rfl⟩
  have r1 : -2147483648 ≤ q1 ∧ q1 ≤ 2147483647 := e1 ▸ Z.2.2.2.2.2.1 _
  obtain ⟨q2, e2⟩ : ∃ z, g (x.toNat + 2) = z := ⟨_, rfl⟩
  have r2 : -2147483648 ≤ q2 ∧ q2 ≤ 2147483647 := e2 ▸ Z.2.2.2.2.2.1 _
  by_cases hcel : (0 ≤ q1 ∧ q1 ≤ 5)
  · skip
    by_cases hrng : (2 ≤ q2 ∧ q2 ≤ 36)
    · skip
      refine lv_aload_n C.1 C.2.1 dL_law_1672 rfl (lv_at hl 1 rfl) ?_
      refine lv_aload_n C.1 C.2.1 dL_law_1673 rfl (lv_at hl 0 rfl) ?_
      refine lv_iload C.1 C.2.1 dL_law_1674 (lv_at hl 4 rfl) ?_
      refine z_iconst C dL_law_1676 ?_
      refine z_iadd C dL_law_1677 ?_
      refine zd_ld C Z G q1 (x.toNat + 1) e1 (by omega) (by omega) dL_law_1678 ?_
      refine lv_aload_n C.1 C.2.1 dL_law_1679 rfl (lv_at hl 0 rfl) ?_
      refine lv_iload C.1 C.2.1 dL_law_1680 (lv_at hl 4 rfl) ?_
      refine z_iconst C dL_law_1682 ?_
      refine z_iadd C dL_law_1683 ?_
      refine zd_ld C Z G q2 (x.toNat + 2) e2 (by omega) (by omega) dL_law_1684 ?_
      refine lv_aload_n C.1 C.2.1 dL_law_1685 rfl (lv_at hl 3 rfl) ?_
      refine zd_WV (as := [.ref o, .int (iZ (q1)), .int (iZ (q2)), .ref w]) C Z Y G (c_L_code l D cB cJ o a _ _ _ _ (q1) (q2) (by first | assumption | omega) (by first | assumption | omega) w _ _) ml_L_273 ⟨Nat.le_of_ble_eq_true rfl, Nat.le_of_ble_eq_true rfl⟩ ⟨by show cells + 0 + 70 ≤ 665987; omega, by show slots + 0 + 33900 ≤ 7103520; omega⟩ hl (Nat.le_of_ble_eq_true rfl) rfl dL_law_1686 (fun sv H locs G => ?_)
      refine lv_istore (lv' := [(5, .int (iZ (0))), (0, .ref t), (1, .ref o), (2, .ref u), (3, .ref w), (4, .int (iZ (x)))]) C.1 C.2.1 dL_law_1689 hl (by decide) rfl (fun ls hl => ?_)
      refine lv_aload_n C.1 C.2.1 dL_law_1691 rfl (lv_at hl 3 rfl) ?_
      refine lv_aload_n C.1 C.2.1 dL_law_1692 rfl (lv_at hl 1 rfl) ?_
      refine lv_iload C.1 C.2.1 dL_law_1693 (lv_at hl 5 rfl) ?_
      refine z_iconst C dL_law_1695 ?_
      refine z_iadd C dL_law_1696 ?_
      refine zd_ld C Z G q1 (x.toNat + 1) e1 (by omega) (by omega) dL_law_1697 ?_
      refine lv_aload_n C.1 C.2.1 dL_law_1698 rfl (lv_at hl 1 rfl) ?_
      refine lv_iload C.1 C.2.1 dL_law_1699 (lv_at hl 5 rfl) ?_
      refine z_iconst C dL_law_1701 ?_
      refine z_iadd C dL_law_1702 ?_
      refine zd_ld C Z G q2 (x.toNat + 2) e2 (by omega) (by omega) dL_law_1703 ?_
      refine zd_MV (as := [.int (iZ (q1)), .int (iZ (q2))]) C Z Y G (c_X5_code l D cB cJ u v _ _ _ _ _ (q1) (q2) (by first | assumption | omega) (by first | assumption | omega)) ml_L_275 rfl ⟨Nat.le_of_ble_eq_true rfl, Nat.le_of_ble_eq_true rfl⟩ ⟨by show cells + 70 + 40 ≤ 665987; omega, by show slots + 33900 + 18500 ≤ 7103520; omega⟩ hl (Nat.le_of_ble_eq_true rfl) rfl dL_law_1704 (fun y9 H locs hy9 G => ?_)
      obtain ⟨q9, rfl⟩ := hy9
      refine lv_astore (lv' := [(6, .ref q9), (5, .int (iZ (0))), (0, .ref t), (1, .ref o), (2, .ref u), (3, .ref w), (4, .int (iZ (x)))]) C.1 C.2.1 dL_law_1707 hl (by decide) rfl (fun ls hl => ?_)
      refine lv_goto (tgt := 2207) C.1 C.2.1 dL_law_1709 (by decide) ?_
      exact kk _ _ _ _ _ _ _ _ _ _ _ _ G (by omega) (by omega) (lv_sub hl [2, 3, 4, 5, 6] rfl)
    · skip
      refine lv_aload_n C.1 C.2.1 dL_law_1672 rfl (lv_at hl 1 rfl) ?_
      refine lv_aload_n C.1 C.2.1 dL_law_1673 rfl (lv_at hl 0 rfl) ?_
      refine lv_iload C.1 C.2.1 dL_law_1674 (lv_at hl 4 rfl) ?_
      refine z_iconst C dL_law_1676 ?_
      refine z_iadd C dL_law_1677 ?_
      refine zd_ld C Z G q1 (x.toNat + 1) e1 (by omega) (by omega) dL_law_1678 ?_
      refine lv_aload_n C.1 C.2.1 dL_law_1679 rfl (lv_at hl 0 rfl) ?_
      refine lv_iload C.1 C.2.1 dL_law_1680 (lv_at hl 4 rfl) ?_
      refine z_iconst C dL_law_1682 ?_
      refine z_iadd C dL_law_1683 ?_
      refine zd_ld C Z G q2 (x.toNat + 2) e2 (by omega) (by omega) dL_law_1684 ?_
      refine lv_aload_n C.1 C.2.1 dL_law_1685 rfl (lv_at hl 3 rfl) ?_
      refine zd_W (as := [.ref o, .int (iZ (q1)), .int (iZ (q2)), .ref w]) C Z Y G (c_L_code_badr l hlq D cJ o a _ _ _ _ (q1) (q2) (by first | assumption | omega) (by first | assumption | omega) (by first | assumption | omega) (by first | assumption | omega) w _ _) ml_L_273 ⟨Nat.le_of_ble_eq_true rfl, Nat.le_of_ble_eq_true rfl⟩ ⟨by show cells + 0 + 1 ≤ 665987; omega, by show slots + 0 + 6 ≤ 7103520; omega⟩ hl (Nat.le_of_ble_eq_true rfl) rfl dL_law_1686 (fun H locs G => ?_)
      refine lv_istore (lv' := [(5, .int (iZ (2))), (0, .ref t), (1, .ref o), (2, .ref u), (3, .ref w), (4, .int (iZ (x)))]) C.1 C.2.1 dL_law_1689 hl (by decide) rfl (fun ls hl => ?_)
      refine lv_aload_n C.1 C.2.1 dL_law_1691 rfl (lv_at hl 3 rfl) ?_
      refine lv_aload_n C.1 C.2.1 dL_law_1692 rfl (lv_at hl 1 rfl) ?_
      refine lv_iload C.1 C.2.1 dL_law_1693 (lv_at hl 5 rfl) ?_
      refine z_iconst C dL_law_1695 ?_
      refine z_iadd C dL_law_1696 ?_
      refine zd_ld C Z G q1 (x.toNat + 1) e1 (by omega) (by omega) dL_law_1697 ?_
      refine lv_aload_n C.1 C.2.1 dL_law_1698 rfl (lv_at hl 1 rfl) ?_
      refine lv_iload C.1 C.2.1 dL_law_1699 (lv_at hl 5 rfl) ?_
      refine z_iconst C dL_law_1701 ?_
      refine z_iadd C dL_law_1702 ?_
      refine zd_ld C Z G q2 (x.toNat + 2) e2 (by omega) (by omega) dL_law_1703 ?_
      refine zd_MV (as := [.int (iZ (q1)), .int (iZ (q2))]) C Z Y G (c_X5_code_bad2 l D cB cJ u v _ _ _ _ _ (q1) (q2) (by first | assumption | omega) (by first | assumption | omega) (by first | assumption | omega) (by first | assumption | omega)) ml_L_275 rfl ⟨Nat.le_of_ble_eq_true rfl, Nat.le_of_ble_eq_true rfl⟩ ⟨by show cells + 1 + 0 ≤ 665987; omega, by show slots + 6 + 0 ≤ 7103520; omega⟩ hl (Nat.le_of_ble_eq_true rfl) rfl dL_law_1704 (fun y9 H locs hy9 G => ?_)
      obtain ⟨q9, rfl⟩ := hy9
      refine lv_astore (lv' := [(6, .ref q9), (5, .int (iZ (2))), (0, .ref t), (1, .ref o), (2, .ref u), (3, .ref w), (4, .int (iZ (x)))]) C.1 C.2.1 dL_law_1707 hl (by decide) rfl (fun ls hl => ?_)
      refine lv_goto (tgt := 2207) C.1 C.2.1 dL_law_1709 (by decide) ?_
      exact kk _ _ _ _ _ _ _ _ _ _ _ _ G (by omega) (by omega) (lv_sub hl [2, 3, 4, 5, 6] rfl)
  · skip
    refine lv_aload_n C.1 C.2.1 dL_law_1672 rfl (lv_at hl 1 rfl) ?_
    refine lv_aload_n C.1 C.2.1 dL_law_1673 rfl (lv_at hl 0 rfl) ?_
    refine lv_iload C.1 C.2.1 dL_law_1674 (lv_at hl 4 rfl) ?_
    refine z_iconst C dL_law_1676 ?_
    refine z_iadd C dL_law_1677 ?_
    refine zd_ld C Z G q1 (x.toNat + 1) e1 (by omega) (by omega) dL_law_1678 ?_
    refine lv_aload_n C.1 C.2.1 dL_law_1679 rfl (lv_at hl 0 rfl) ?_
    refine lv_iload C.1 C.2.1 dL_law_1680 (lv_at hl 4 rfl) ?_
    refine z_iconst C dL_law_1682 ?_
    refine z_iadd C dL_law_1683 ?_
    refine zd_ld C Z G q2 (x.toNat + 2) e2 (by omega) (by omega) dL_law_1684 ?_
    refine lv_aload_n C.1 C.2.1 dL_law_1685 rfl (lv_at hl 3 rfl) ?_
    refine zd_W (as := [.ref o, .int (iZ (q1)), .int (iZ (q2)), .ref w]) C Z Y G (c_L_code_badc l hlq D cJ o a _ _ _ _ (q1) (q2) (by first | assumption | omega) (by first | assumption | omega) (by first | assumption | omega) w _ _) ml_L_273 ⟨Nat.le_of_ble_eq_true rfl, Nat.le_of_ble_eq_true rfl⟩ ⟨by show cells + 0 + 1 ≤ 665987; omega, by show slots + 0 + 6 ≤ 7103520; omega⟩ hl (Nat.le_of_ble_eq_true rfl) rfl dL_law_1686 (fun H locs G => ?_)
    refine lv_istore (lv' := [(5, .int (iZ (1))), (0, .ref t), (1, .ref o), (2, .ref u), (3, .ref w), (4, .int (iZ (x)))]) C.1 C.2.1 dL_law_1689 hl (by decide) rfl (fun ls hl => ?_)
    refine lv_aload_n C.1 C.2.1 dL_law_1691 rfl (lv_at hl 3 rfl) ?_
    refine lv_aload_n C.1 C.2.1 dL_law_1692 rfl (lv_at hl 1 rfl) ?_
    refine lv_iload C.1 C.2.1 dL_law_1693 (lv_at hl 5 rfl) ?_
    refine z_iconst C dL_law_1695 ?_
    refine z_iadd C dL_law_1696 ?_
    refine zd_ld C Z G q1 (x.toNat + 1) e1 (by omega) (by omega) dL_law_1697 ?_
    refine lv_aload_n C.1 C.2.1 dL_law_1698 rfl (lv_at hl 1 rfl) ?_
    refine lv_iload C.1 C.2.1 dL_law_1699 (lv_at hl 5 rfl) ?_
    refine z_iconst C dL_law_1701 ?_
    refine z_iadd C dL_law_1702 ?_
    refine zd_ld C Z G q2 (x.toNat + 2) e2 (by omega) (by omega) dL_law_1703 ?_
    refine zd_MV (as := [.int (iZ (q1)), .int (iZ (q2))]) C Z Y G (c_X5_code_bad1 l D cB cJ u v _ _ _ _ _ (q1) (q2) (by first | assumption | omega) (by first | assumption | omega) (by first | assumption | omega)) ml_L_275 rfl ⟨Nat.le_of_ble_eq_true rfl, Nat.le_of_ble_eq_true rfl⟩ ⟨by show cells + 1 + 0 ≤ 665987; omega, by show slots + 6 + 0 ≤ 7103520; omega⟩ hl (Nat.le_of_ble_eq_true rfl) rfl dL_law_1704 (fun y9 H locs hy9 G => ?_)
    obtain ⟨q9, rfl⟩ := hy9
    refine lv_astore (lv' := [(6, .ref q9), (5, .int (iZ (1))), (0, .ref t), (1, .ref o), (2, .ref u), (3, .ref w), (4, .int (iZ (x)))]) C.1 C.2.1 dL_law_1707 hl (by decide) rfl (fun ls hl => ?_)
    refine lv_goto (tgt := 2207) C.1 C.2.1 dL_law_1709 (by decide) ?_
    exact kk _ _ _ _ _ _ _ _ _ _ _ _ G (by omega) (by omega) (lv_sub hl [2, 3, 4, 5, 6] rfl)
set_option maxHeartbeats 4000000 in
set_option maxRecDepth 100000 in
theorem lk_31 (hlq : l.stackTraces = false) (C : CallFix p m c0 cL_law 7 s args T0 RL) (Z : zLw D cB t N g s) (Y : zAd o a u v w s) {c : Nat → Nat} {ac re kn : Int32} {th : Int} {n : Int64} {sv : Value} {H : Heap} {locs : List Loc} {ls : Array Slot} {cells slots : Nat} (G : zG D cJ o a u v w c [.int ac, .int re, .int kn] c [.int (iZ th), .int ac, .int re, .int kn] n sv s H locs) (x : Int) (hx : 0 ≤ x ∧ x + 5 ≤ (N : Int)) (hf : cells + 150 ≤ 665987 ∧ slots + 75000 ≤ 7103520) (hl : lv_has ls 7 [(0, .ref t), (1, .ref o), (2, .ref u), (3, .ref w), (4, .int (iZ (x)))])
    (kk : zNx p l e s m args below meth c0 D cJ t o a u v w x cells slots Qw 2207) : W p l e room_1 s m args below meth c0 H locs cells slots Qw (F0 m 1712 ls []) := by
  have hc := G.1.2.2.2
  obtain ⟨q1, e1⟩ : ∃ z, g (x.toNat + 1) = z := ⟨_, rfl⟩
  have r1 : -2147483648 ≤ q1 ∧ q1 ≤ 2147483647 := e1 ▸ Z.2.2.2.2.2.1 _
  obtain ⟨q2, e2⟩ : ∃ z, g (x.toNat + 2) = z := ⟨_, rfl⟩
  have r2 : -2147483648 ≤ q2 ∧ q2 ≤ 2147483647 := e2 ▸ Z.2.2.2.2.2.1 _
  by_cases hcel : (0 ≤ q1 ∧ q1 ≤ 5) ∧ (0 ≤ q2 ∧ q2 ≤ 5)
  · skip
    refine lv_aload_n C.1 C.2.1 dL_law_1712 rfl (lv_at hl 1 rfl) ?_
    refine lv_aload_n C.1 C.2.1 dL_law_1713 rfl (lv_at hl 0 rfl) ?_
    refine lv_iload C.1 C.2.1 dL_law_1714 (lv_at hl 4 rfl) ?_
    refine z_iconst C dL_law_1716 ?_
    refine z_iadd C dL_law_1717 ?_
    refine zd_ld C Z G q1 (x.toNat + 1) e1 (by omega) (by omega) dL_law_1718 ?_
    refine lv_aload_n C.1 C.2.1 dL_law_1719 rfl (lv_at hl 0 rfl) ?_
    refine lv_iload C.1 C.2.1 dL_law_1720 (lv_at hl 4 rfl) ?_
    refine z_iconst C dL_law_1722 ?_
    refine z_iadd C dL_law_1723 ?_
    refine zd_ld C Z G q2 (x.toNat + 2) e2 (by omega) (by omega) dL_law_1724 ?_
    refine lv_aload_n C.1 C.2.1 dL_law_1725 rfl (lv_at hl 3 rfl) ?_
    refine zd_W (as := [.ref o, .int (iZ (q1)), .int (iZ (q2)), .ref w]) C Z Y G (c_L_order l D cJ o a _ _ _ _ (q1) (q2) (by first | assumption | omega) (by first | assumption | omega) w _ _) ml_L_276 ⟨Nat.le_of_ble_eq_true rfl, Nat.le_of_ble_eq_true rfl⟩ ⟨by show cells + 0 + 0 ≤ 665987; omega, by show slots + 0 + 0 ≤ 7103520; omega⟩ hl (Nat.le_of_ble_eq_true rfl) rfl dL_law_1726 (fun H locs G => ?_)
    refine lv_istore (lv' := [(5, .int (iZ (0))), (0, .ref t), (1, .ref o), (2, .ref u), (3, .ref w), (4, .int (iZ (x)))]) C.1 C.2.1 dL_law_1729 hl (by decide) rfl (fun ls hl => ?_)
    refine lv_aload_n C.1 C.2.1 dL_law_1731 rfl (lv_at hl 3 rfl) ?_
    refine lv_aload_n C.1 C.2.1 dL_law_1732 rfl (lv_at hl 1 rfl) ?_
    refine lv_iload C.1 C.2.1 dL_law_1733 (lv_at hl 5 rfl) ?_
    refine z_iconst C dL_law_1735 ?_
    refine z_iadd C dL_law_1736 ?_
    refine zd_ld C Z G q1 (x.toNat + 1) e1 (by omega) (by omega) dL_law_1737 ?_
    refine lv_aload_n C.1 C.2.1 dL_law_1738 rfl (lv_at hl 1 rfl) ?_
    refine lv_iload C.1 C.2.1 dL_law_1739 (lv_at hl 5 rfl) ?_
    refine z_iconst C dL_law_1741 ?_
    refine z_iadd C dL_law_1742 ?_
    refine zd_ld C Z G q2 (x.toNat + 2) e2 (by omega) (by omega) dL_law_1743 ?_
    refine zd_M (as := [.int (iZ (q1)), .int (iZ (q2))]) C Y G (c_X5_order l D cJ u v _ _ _ _ _ (q1) (q2) (by first | assumption | omega) (by first | assumption | omega)) ml_L_278 rfl ⟨Nat.le_of_ble_eq_true rfl, Nat.le_of_ble_eq_true rfl⟩ ⟨by show cells + 0 + 0 ≤ 665987; omega, by show slots + 0 + 0 ≤ 7103520; omega⟩ hl (Nat.le_of_ble_eq_true rfl) rfl dL_law_1744 (fun y9 H locs hy9 G => ?_)
    subst hy9
    refine lv_istore (lv' := [(6, _), (5, .int (iZ (0))), (0, .ref t), (1, .ref o), (2, .ref u), (3, .ref w), (4, .int (iZ (x)))]) C.1 C.2.1 dL_law_1747 hl (by decide) rfl (fun ls hl => ?_)
    refine lv_goto (tgt := 2207) C.1 C.2.1 dL_law_1749 (by decide) ?_
    exact kk _ _ _ _ _ _ _ _ _ _ _ _ G (by omega) (by omega) (lv_sub hl [2, 3, 4, 5, 6] rfl)
  · skip
    refine lv_aload_n C.1 C.2.1 dL_law_1712 rfl (lv_at hl 1 rfl) ?_
    refine lv_aload_n C.1 C.2.1 dL_law_1713 rfl (lv_at hl 0 rfl) ?_
    refine lv_iload C.1 C.2.1 dL_law_1714 (lv_at hl 4 rfl) ?_
    refine z_iconst C dL_law_1716 ?_
    refine z_iadd C dL_law_1717 ?_
    refine zd_ld C Z G q1 (x.toNat + 1) e1 (by omega) (by omega) dL_law_1718 ?_
    refine lv_aload_n C.1 C.2.1 dL_law_1719 rfl (lv_at hl 0 rfl) ?_
    refine lv_iload C.1 C.2.1 dL_law_1720 (lv_at hl 4 rfl) ?_
    refine z_iconst C dL_law_1722 ?_
    refine z_iadd C dL_law_1723 ?_
    refine zd_ld C Z G q2 (x.toNat + 2) e2 (by omega) (by omega) dL_law_1724 ?_
    refine lv_aload_n C.1 C.2.1 dL_law_1725 rfl (lv_at hl 3 rfl) ?_
    refine zd_W (as := [.ref o, .int (iZ (q1)), .int (iZ (q2)), .ref w]) C Z Y G (c_L_order_badc l hlq D cJ o a _ _ _ _ (q1) (q2) (by first | assumption | omega) (by first | assumption | omega) (by first | assumption | omega) w _ _) ml_L_276 ⟨Nat.le_of_ble_eq_true rfl, Nat.le_of_ble_eq_true rfl⟩ ⟨by show cells + 0 + 1 ≤ 665987; omega, by show slots + 0 + 6 ≤ 7103520; omega⟩ hl (Nat.le_of_ble_eq_true rfl) rfl dL_law_1726 (fun H locs G => ?_)
    refine lv_istore (lv' := [(5, .int (iZ (1))), (0, .ref t), (1, .ref o), (2, .ref u), (3, .ref w), (4, .int (iZ (x)))]) C.1 C.2.1 dL_law_1729 hl (by decide) rfl (fun ls hl => ?_)
    refine lv_aload_n C.1 C.2.1 dL_law_1731 rfl (lv_at hl 3 rfl) ?_
    refine lv_aload_n C.1 C.2.1 dL_law_1732 rfl (lv_at hl 1 rfl) ?_
    refine lv_iload C.1 C.2.1 dL_law_1733 (lv_at hl 5 rfl) ?_
    refine z_iconst C dL_law_1735 ?_
    refine z_iadd C dL_law_1736 ?_
    refine zd_ld C Z G q1 (x.toNat + 1) e1 (by omega) (by omega) dL_law_1737 ?_
    refine lv_aload_n C.1 C.2.1 dL_law_1738 rfl (lv_at hl 1 rfl) ?_
    refine lv_iload C.1 C.2.1 dL_law_1739 (lv_at hl 5 rfl) ?_
    refine z_iconst C dL_law_1741 ?_
    refine z_iadd C dL_law_1742 ?_
    refine zd_ld C Z G q2 (x.toNat + 2) e2 (by omega) (by omega) dL_law_1743 ?_
    refine zd_M (as := [.int (iZ (q1)), .int (iZ (q2))]) C Y G (c_X5_order_bad1 l D cJ u v _ _ _ _ _ (q1) (q2) (by first | assumption | omega) (by first | assumption | omega) (by first | assumption | omega)) ml_L_278 rfl ⟨Nat.le_of_ble_eq_true rfl, Nat.le_of_ble_eq_true rfl⟩ ⟨by show cells + 1 + 0 ≤ 665987; omega, by show slots + 6 + 0 ≤ 7103520; omega⟩ hl (Nat.le_of_ble_eq_true rfl) rfl dL_law_1744 (fun y9 H locs hy9 G => ?_)
    subst hy9
    refine lv_istore (lv' := [(6, _), (5, .int (iZ (1))), (0, .ref t), (1, .ref o), (2, .ref u), (3, .ref w), (4, .int (iZ (x)))]) C.1 C.2.1 dL_law_1747 hl (by decide) rfl (fun ls hl => ?_)
    refine lv_goto (tgt := 2207) C.1 C.2.1 dL_law_1749 (by decide) ?_
    exact kk _ _ _ _ _ _ _ _ _ _ _ _ G (by omega) (by omega) (lv_sub hl [2, 3, 4, 5, 6] rfl)
set_option maxHeartbeats 4000000 in
set_option maxRecDepth 100000 in
theorem lk_32 (hlq : l.stackTraces = false) (C : CallFix p m c0 cL_law 7 s args T0 RL) (Z : zLw D cB t N g s) (Y : zAd o a u v w s) {c : Nat → Nat} {ac re kn : Int32} {th : Int} {n : Int64} {sv : Value} {H : Heap} {locs : List Loc} {ls : Array Slot} {cells slots : Nat} (G : zG D cJ o a u v w c [.int ac, .int re, .int kn] c [.int (iZ th), .int ac, .int re, .int kn] n sv s H locs) (x : Int) (hx : 0 ≤ x ∧ x + 5 ≤ (N : Int)) (hf : cells + 150 ≤ 665987 ∧ slots + 75000 ≤ 7103520) (hl : lv_has ls 7 [(0, .ref t), (1, .ref o), (2, .ref u), (3, .ref w), (4, .int (iZ (x)))])
    (kk : zNx p l e s m args below meth c0 D cJ t o a u v w x cells slots Qw 2207) : W p l e room_1 s m args below meth c0 H locs cells slots Qw (F0 m 1752 ls []) := by
  have hc := G.1.2.2.2
  obtain ⟨q1, e1⟩ : ∃ z, g (x.toNat + 1) = z := ⟨_, rfl⟩
  have r1 : -2147483648 ≤ q1 ∧ q1 ≤ 2147483647 := e1 ▸ Z.2.2.2.2.2.1 _
  obtain ⟨q2, e2⟩ : ∃ z, g (x.toNat + 2) = z := ⟨_, rfl⟩
  have r2 : -2147483648 ≤ q2 ∧ q2 ≤ 2147483647 := e2 ▸ Z.2.2.2.2.2.1 _
  by_cases hcel : (0 ≤ q1 ∧ q1 ≤ 5) ∧ (0 ≤ q2 ∧ q2 ≤ 5)
  · skip
    refine lv_aload_n C.1 C.2.1 dL_law_1752 rfl (lv_at hl 1 rfl) ?_
    refine lv_aload_n C.1 C.2.1 dL_law_1753 rfl (lv_at hl 0 rfl) ?_
    refine lv_iload C.1 C.2.1 dL_law_1754 (lv_at hl 4 rfl) ?_
    refine z_iconst C dL_law_1756 ?_
    refine z_iadd C dL_law_1757 ?_
    refine zd_ld C Z G q1 (x.toNat + 1) e1 (by omega) (by omega) dL_law_1758 ?_
    refine lv_aload_n C.1 C.2.1 dL_law_1759 rfl (lv_at hl 0 rfl) ?_
    refine lv_iload C.1 C.2.1 dL_law_1760 (lv_at hl 4 rfl) ?_
    refine z_iconst C dL_law_1762 ?_
    refine z_iadd C dL_law_1763 ?_
    refine zd_ld C Z G q2 (x.toNat + 2) e2 (by omega) (by omega) dL_law_1764 ?_
    refine lv_aload_n C.1 C.2.1 dL_law_1765 rfl (lv_at hl 3 rfl) ?_
    refine zd_W (as := [.ref o, .int (iZ (q1)), .int (iZ (q2)), .ref w]) C Z Y G (c_L_isSame l D cJ o a _ _ _ _ (q1) (q2) (by first | assumption | omega) (by first | assumption | omega) w _ _) ml_L_279 ⟨Nat.le_of_ble_eq_true rfl, Nat.le_of_ble_eq_true rfl⟩ ⟨by show cells + 0 + 0 ≤ 665987; omega, by show slots + 0 + 0 ≤ 7103520; omega⟩ hl (Nat.le_of_ble_eq_true rfl) rfl dL_law_1766 (fun H locs G => ?_)
    refine lv_istore (lv' := [(5, .int (iZ (0))), (0, .ref t), (1, .ref o), (2, .ref u), (3, .ref w), (4, .int (iZ (x)))]) C.1 C.2.1 dL_law_1769 hl (by decide) rfl (fun ls hl => ?_)
    refine lv_aload_n C.1 C.2.1 dL_law_1771 rfl (lv_at hl 3 rfl) ?_
    refine lv_aload_n C.1 C.2.1 dL_law_1772 rfl (lv_at hl 1 rfl) ?_
    refine lv_iload C.1 C.2.1 dL_law_1773 (lv_at hl 5 rfl) ?_
    refine z_iconst C dL_law_1775 ?_
    refine z_iadd C dL_law_1776 ?_
    refine zd_ld C Z G q1 (x.toNat + 1) e1 (by omega) (by omega) dL_law_1777 ?_
    refine lv_aload_n C.1 C.2.1 dL_law_1778 rfl (lv_at hl 1 rfl) ?_
    refine lv_iload C.1 C.2.1 dL_law_1779 (lv_at hl 5 rfl) ?_
    refine z_iconst C dL_law_1781 ?_
    refine z_iadd C dL_law_1782 ?_
    refine zd_ld C Z G q2 (x.toNat + 2) e2 (by omega) (by omega) dL_law_1783 ?_
    refine zd_M (as := [.int (iZ (q1)), .int (iZ (q2))]) C Y G (c_X5_isSame l D cJ u v _ _ _ _ _ (q1) (q2) (by first | assumption | omega) (by first | assumption | omega)) ml_L_281 rfl ⟨Nat.le_of_ble_eq_true rfl, Nat.le_of_ble_eq_true rfl⟩ ⟨by show cells + 0 + 0 ≤ 665987; omega, by show slots + 0 + 0 ≤ 7103520; omega⟩ hl (Nat.le_of_ble_eq_true rfl) rfl dL_law_1784 (fun y9 H locs hy9 G => ?_)
    subst hy9
    refine lv_istore (lv' := [(6, _), (5, .int (iZ (0))), (0, .ref t), (1, .ref o), (2, .ref u), (3, .ref w), (4, .int (iZ (x)))]) C.1 C.2.1 dL_law_1787 hl (by decide) rfl (fun ls hl => ?_)
    refine lv_goto (tgt := 2207) C.1 C.2.1 dL_law_1789 (by decide) ?_
    exact kk _ _ _ _ _ _ _ _ _ _ _ _ G (by omega) (by omega) (lv_sub hl [2, 3, 4, 5, 6] rfl)
  · skip
    refine lv_aload_n C.1 C.2.1 dL_law_1752 rfl (lv_at hl 1 rfl) ?_
    refine lv_aload_n C.1 C.2.1 dL_law_1753 rfl (lv_at hl 0 rfl) ?_
    refine lv_iload C.1 C.2.1 dL_law_1754 (lv_at hl 4 rfl) ?_
    refine z_iconst C dL_law_1756 ?_
    refine z_iadd C dL_law_1757 ?_
    refine zd_ld C Z G q1 (x.toNat + 1) e1 (by omega) (by omega) dL_law_1758 ?_
    refine lv_aload_n C.1 C.2.1 dL_law_1759 rfl (lv_at hl 0 rfl) ?_
    refine lv_iload C.1 C.2.1 dL_law_1760 (lv_at hl 4 rfl) ?_
    refine z_iconst C dL_law_1762 ?_
    refine z_iadd C dL_law_1763 ?_
    refine zd_ld C Z G q2 (x.toNat + 2) e2 (by omega) (by omega) dL_law_1764 ?_
    refine lv_aload_n C.1 C.2.1 dL_law_1765 rfl (lv_at hl 3 rfl) ?_
    refine zd_W (as := [.ref o, .int (iZ (q1)), .int (iZ (q2)), .ref w]) C Z Y G (c_L_isSame_badc l hlq D cJ o a _ _ _ _ (q1) (q2) (by first | assumption | omega) (by first | assumption | omega) (by first | assumption | omega) w _ _) ml_L_279 ⟨Nat.le_of_ble_eq_true rfl, Nat.le_of_ble_eq_true rfl⟩ ⟨by show cells + 0 + 1 ≤ 665987; omega, by show slots + 0 + 6 ≤ 7103520; omega⟩ hl (Nat.le_of_ble_eq_true rfl) rfl dL_law_1766 (fun H locs G => ?_)
    refine lv_istore (lv' := [(5, .int (iZ (1))), (0, .ref t), (1, .ref o), (2, .ref u), (3, .ref w), (4, .int (iZ (x)))]) C.1 C.2.1 dL_law_1769 hl (by decide) rfl (fun ls hl => ?_)
    refine lv_aload_n C.1 C.2.1 dL_law_1771 rfl (lv_at hl 3 rfl) ?_
    refine lv_aload_n C.1 C.2.1 dL_law_1772 rfl (lv_at hl 1 rfl) ?_
    refine lv_iload C.1 C.2.1 dL_law_1773 (lv_at hl 5 rfl) ?_
    refine z_iconst C dL_law_1775 ?_
    refine z_iadd C dL_law_1776 ?_
    refine zd_ld C Z G q1 (x.toNat + 1) e1 (by omega) (by omega) dL_law_1777 ?_
    refine lv_aload_n C.1 C.2.1 dL_law_1778 rfl (lv_at hl 1 rfl) ?_
    refine lv_iload C.1 C.2.1 dL_law_1779 (lv_at hl 5 rfl) ?_
    refine z_iconst C dL_law_1781 ?_
    refine z_iadd C dL_law_1782 ?_
    refine zd_ld C Z G q2 (x.toNat + 2) e2 (by omega) (by omega) dL_law_1783 ?_
    refine zd_M (as := [.int (iZ (q1)), .int (iZ (q2))]) C Y G (c_X5_isSame_bad1 l D cJ u v _ _ _ _ _ (q1) (q2) (by first | assumption | omega) (by first | assumption | omega) (by first | assumption | omega)) ml_L_281 rfl ⟨Nat.le_of_ble_eq_true rfl, Nat.le_of_ble_eq_true rfl⟩ ⟨by show cells + 1 + 0 ≤ 665987; omega, by show slots + 6 + 0 ≤ 7103520; omega⟩ hl (Nat.le_of_ble_eq_true rfl) rfl dL_law_1784 (fun y9 H locs hy9 G => ?_)
    subst hy9
    refine lv_istore (lv' := [(6, _), (5, .int (iZ (1))), (0, .ref t), (1, .ref o), (2, .ref u), (3, .ref w), (4, .int (iZ (x)))]) C.1 C.2.1 dL_law_1787 hl (by decide) rfl (fun ls hl => ?_)
    refine lv_goto (tgt := 2207) C.1 C.2.1 dL_law_1789 (by decide) ?_
    exact kk _ _ _ _ _ _ _ _ _ _ _ _ G (by omega) (by omega) (lv_sub hl [2, 3, 4, 5, 6] rfl)
set_option maxHeartbeats 4000000 in
set_option maxRecDepth 100000 in
theorem lk_33 (hlq : l.stackTraces = false) (C : CallFix p m c0 cL_law 7 s args T0 RL) (Z : zLw D cB t N g s) (Y : zAd o a u v w s) {c : Nat → Nat} {ac re kn : Int32} {th : Int} {n : Int64} {sv : Value} {H : Heap} {locs : List Loc} {ls : Array Slot} {cells slots : Nat} (G : zG D cJ o a u v w c [.int ac, .int re, .int kn] c [.int (iZ th), .int ac, .int re, .int kn] n sv s H locs) (x : Int) (hx : 0 ≤ x ∧ x + 5 ≤ (N : Int)) (hf : cells + 150 ≤ 665987 ∧ slots + 75000 ≤ 7103520) (hl : lv_has ls 7 [(0, .ref t), (1, .ref o), (2, .ref u), (3, .ref w), (4, .int (iZ (x)))])
    (kk : zNx p l e s m args below meth c0 D cJ t o a u v w x cells slots Qw 2207) : W p l e room_1 s m args below meth c0 H locs cells slots Qw (F0 m 1792 ls []) := by
  have hc := G.1.2.2.2
  obtain ⟨q1, e1⟩ : ∃ z, g (x.toNat + 1) = z := ⟨_, rfl⟩
  have r1 : -2147483648 ≤ q1 ∧ q1 ≤ 2147483647 := e1 ▸ Z.2.2.2.2.2.1 _
  obtain ⟨q2, e2⟩ : ∃ z, g (x.toNat + 2) = z := ⟨_, rfl⟩
  have r2 : -2147483648 ≤ q2 ∧ q2 ≤ 2147483647 := e2 ▸ Z.2.2.2.2.2.1 _
  by_cases hcel : (0 ≤ q1 ∧ q1 ≤ 5)
  · skip
    refine lv_aload_n C.1 C.2.1 dL_law_1792 rfl (lv_at hl 1 rfl) ?_
    refine lv_aload_n C.1 C.2.1 dL_law_1793 rfl (lv_at hl 0 rfl) ?_
    refine lv_iload C.1 C.2.1 dL_law_1794 (lv_at hl 4 rfl) ?_
    refine z_iconst C dL_law_1796 ?_
    refine z_iadd C dL_law_1797 ?_
    refine zd_ld C Z G q1 (x.toNat + 1) e1 (by omega) (by omega) dL_law_1798 ?_
    refine lv_aload_n C.1 C.2.1 dL_law_1799 rfl (lv_at hl 0 rfl) ?_
    refine lv_iload C.1 C.2.1 dL_law_1800 (lv_at hl 4 rfl) ?_
    refine z_iconst C dL_law_1802 ?_
    refine z_iadd C dL_law_1803 ?_
    refine zd_ld C Z G q2 (x.toNat + 2) e2 (by omega) (by omega) dL_law_1804 ?_
    refine zd_nz C (by omega) dL_law_1805 dL_law_1808 dL_law_1809 dL_law_1812 ?_
    refine lv_aload_n C.1 C.2.1 dL_law_1813 rfl (lv_at hl 3 rfl) ?_
    refine zd_W (as := [.ref o, .int (iZ (q1)), .int (iZ (zB (decide (q2 ≠ 0)))), .ref w]) C Z Y G (c_L_value l D cJ o a _ _ _ _ (q1) (decide (q2 ≠ 0)) (by first | assumption | omega) w _ _) ml_L_282 ⟨Nat.le_of_ble_eq_true rfl, Nat.le_of_ble_eq_true rfl⟩ ⟨by show cells + 0 + 0 ≤ 665987; omega, by show slots + 0 + 0 ≤ 7103520; omega⟩ hl (Nat.le_of_ble_eq_true rfl) rfl dL_law_1814 (fun H locs G => ?_)
    refine lv_istore (lv' := [(5, .int (iZ (0))), (0, .ref t), (1, .ref o), (2, .ref u), (3, .ref w), (4, .int (iZ (x)))]) C.1 C.2.1 dL_law_1817 hl (by decide) rfl (fun ls hl => ?_)
    refine lv_aload_n C.1 C.2.1 dL_law_1819 rfl (lv_at hl 3 rfl) ?_
    refine lv_aload_n C.1 C.2.1 dL_law_1820 rfl (lv_at hl 1 rfl) ?_
    refine lv_iload C.1 C.2.1 dL_law_1821 (lv_at hl 5 rfl) ?_
    refine z_iconst C dL_law_1823 ?_
    refine z_iadd C dL_law_1824 ?_
    refine zd_ld C Z G q1 (x.toNat + 1) e1 (by omega) (by omega) dL_law_1825 ?_
    refine lv_aload_n C.1 C.2.1 dL_law_1826 rfl (lv_at hl 1 rfl) ?_
    refine lv_iload C.1 C.2.1 dL_law_1827 (lv_at hl 5 rfl) ?_
    refine z_iconst C dL_law_1829 ?_
    refine z_iadd C dL_law_1830 ?_
    refine zd_ld C Z G q2 (x.toNat + 2) e2 (by omega) (by omega) dL_law_1831 ?_
    refine zd_nz C (by omega) dL_law_1832 dL_law_1835 dL_law_1836 dL_law_1839 ?_
    refine zd_M (as := [.int (iZ (q1)), .int (iZ (zB (decide (q2 ≠ 0))))]) C Y G (c_X5_value l D cJ u v _ _ _ _ _ (q1) (decide (q2 ≠ 0)) (by first | assumption | omega)) ml_L_285 rfl ⟨Nat.le_of_ble_eq_true rfl, Nat.le_of_ble_eq_true rfl⟩ ⟨by show cells + 0 + 0 ≤ 665987; omega, by show slots + 0 + 0 ≤ 7103520; omega⟩ hl (Nat.le_of_ble_eq_true rfl) rfl dL_law_1840 (fun y9 H locs hy9 G => ?_)
    subst hy9
    refine lv_istore (lv' := [(6, _), (5, .int (iZ (0))), (0, .ref t), (1, .ref o), (2, .ref u), (3, .ref w), (4, .int (iZ (x)))]) C.1 C.2.1 dL_law_1843 hl (by decide) rfl (fun ls hl => ?_)
    refine lv_goto (tgt := 2207) C.1 C.2.1 dL_law_1845 (by decide) ?_
    exact kk _ _ _ _ _ _ _ _ _ _ _ _ G (by omega) (by omega) (lv_sub hl [2, 3, 4, 5, 6] rfl)
  · skip
    refine lv_aload_n C.1 C.2.1 dL_law_1792 rfl (lv_at hl 1 rfl) ?_
    refine lv_aload_n C.1 C.2.1 dL_law_1793 rfl (lv_at hl 0 rfl) ?_
    refine lv_iload C.1 C.2.1 dL_law_1794 (lv_at hl 4 rfl) ?_
    refine z_iconst C dL_law_1796 ?_
    refine z_iadd C dL_law_1797 ?_
    refine zd_ld C Z G q1 (x.toNat + 1) e1 (by omega) (by omega) dL_law_1798 ?_
    refine lv_aload_n C.1 C.2.1 dL_law_1799 rfl (lv_at hl 0 rfl) ?_
    refine lv_iload C.1 C.2.1 dL_law_1800 (lv_at hl 4 rfl) ?_
    refine z_iconst C dL_law_1802 ?_
    refine z_iadd C dL_law_1803 ?_
    refine zd_ld C Z G q2 (x.toNat + 2) e2 (by omega) (by omega) dL_law_1804 ?_
    refine zd_nz C (by omega) dL_law_1805 dL_law_1808 dL_law_1809 dL_law_1812 ?_
    refine lv_aload_n C.1 C.2.1 dL_law_1813 rfl (lv_at hl 3 rfl) ?_
    refine zd_W (as := [.ref o, .int (iZ (q1)), .int (iZ (zB (decide (q2 ≠ 0)))), .ref w]) C Z Y G (c_L_value_badc l hlq D cJ o a _ _ _ _ (q1) (decide (q2 ≠ 0)) (by first | assumption | omega) (by first | assumption | omega) w _ _) ml_L_282 ⟨Nat.le_of_ble_eq_true rfl, Nat.le_of_ble_eq_true rfl⟩ ⟨by show cells + 0 + 1 ≤ 665987; omega, by show slots + 0 + 6 ≤ 7103520; omega⟩ hl (Nat.le_of_ble_eq_true rfl) rfl dL_law_1814 (fun H locs G => ?_)
    refine lv_istore (lv' := [(5, .int (iZ (1))), (0, .ref t), (1, .ref o), (2, .ref u), (3, .ref w), (4, .int (iZ (x)))]) C.1 C.2.1 dL_law_1817 hl (by decide) rfl (fun ls hl => ?_)
    refine lv_aload_n C.1 C.2.1 dL_law_1819 rfl (lv_at hl 3 rfl) ?_
    refine lv_aload_n C.1 C.2.1 dL_law_1820 rfl (lv_at hl 1 rfl) ?_
    refine lv_iload C.1 C.2.1 dL_law_1821 (lv_at hl 5 rfl) ?_
    refine z_iconst C dL_law_1823 ?_
    refine z_iadd C dL_law_1824 ?_
    refine zd_ld C Z G q1 (x.toNat + 1) e1 (by omega) (by omega) dL_law_1825 ?_
    refine lv_aload_n C.1 C.2.1 dL_law_1826 rfl (lv_at hl 1 rfl) ?_
    refine lv_iload C.1 C.2.1 dL_law_1827 (lv_at hl 5 rfl) ?_
    refine z_iconst C dL_law_1829 ?_
    refine z_iadd C dL_law_1830 ?_
    refine zd_ld C Z G q2 (x.toNat + 2) e2 (by omega) (by omega) dL_law_1831 ?_
    refine zd_nz C (by omega) dL_law_1832 dL_law_1835 dL_law_1836 dL_law_1839 ?_
    refine zd_M (as := [.int (iZ (q1)), .int (iZ (zB (decide (q2 ≠ 0))))]) C Y G (c_X5_value_bad1 l D cJ u v _ _ _ _ _ (q1) (decide (q2 ≠ 0)) (by first | assumption | omega) (by first | assumption | omega)) ml_L_285 rfl ⟨Nat.le_of_ble_eq_true rfl, Nat.le_of_ble_eq_true rfl⟩ ⟨by show cells + 1 + 0 ≤ 665987; omega, by show slots + 6 + 0 ≤ 7103520; omega⟩ hl (Nat.le_of_ble_eq_true rfl) rfl dL_law_1840 (fun y9 H locs hy9 G => ?_)
    subst hy9
    refine lv_istore (lv' := [(6, _), (5, .int (iZ (1))), (0, .ref t), (1, .ref o), (2, .ref u), (3, .ref w), (4, .int (iZ (x)))]) C.1 C.2.1 dL_law_1843 hl (by decide) rfl (fun ls hl => ?_)
    refine lv_goto (tgt := 2207) C.1 C.2.1 dL_law_1845 (by decide) ?_
    exact kk _ _ _ _ _ _ _ _ _ _ _ _ G (by omega) (by omega) (lv_sub hl [2, 3, 4, 5, 6] rfl)
set_option maxHeartbeats 4000000 in
set_option maxRecDepth 100000 in
theorem lk_34 (hlq : l.stackTraces = false) (C : CallFix p m c0 cL_law 7 s args T0 RL) (Z : zLw D cB t N g s) (Y : zAd o a u v w s) {c : Nat → Nat} {ac re kn : Int32} {th : Int} {n : Int64} {sv : Value} {H : Heap} {locs : List Loc} {ls : Array Slot} {cells slots : Nat} (G : zG D cJ o a u v w c [.int ac, .int re, .int kn] c [.int (iZ th), .int ac, .int re, .int kn] n sv s H locs) (x : Int) (hx : 0 ≤ x ∧ x + 5 ≤ (N : Int)) (hf : cells + 150 ≤ 665987 ∧ slots + 75000 ≤ 7103520) (hl : lv_has ls 7 [(0, .ref t), (1, .ref o), (2, .ref u), (3, .ref w), (4, .int (iZ (x)))])
    (kk : zNx p l e s m args below meth c0 D cJ t o a u v w x cells slots Qw 2207) : W p l e room_1 s m args below meth c0 H locs cells slots Qw (F0 m 1848 ls []) := by
  have hc := G.1.2.2.2
  obtain ⟨q1, e1⟩ : ∃ z, g (x.toNat + 1) = z := ⟨_, rfl⟩
  have r1 : -2147483648 ≤ q1 ∧ q1 ≤ 2147483647 := e1 ▸ Z.2.2.2.2.2.1 _
  obtain ⟨q2, e2⟩ : ∃ z, g (x.toNat + 2) = z := ⟨_, rfl⟩
  have r2 : -2147483648 ≤ q2 ∧ q2 ≤ 2147483647 := e2 ▸ Z.2.2.2.2.2.1 _
  by_cases hcel : (0 ≤ q1 ∧ q1 ≤ 5) ∧ (0 ≤ q2 ∧ q2 ≤ 5)
  · skip
    refine lv_aload_n C.1 C.2.1 dL_law_1848 rfl (lv_at hl 1 rfl) ?_
    refine lv_aload_n C.1 C.2.1 dL_law_1849 rfl (lv_at hl 0 rfl) ?_
    refine lv_iload C.1 C.2.1 dL_law_1850 (lv_at hl 4 rfl) ?_
    refine z_iconst C dL_law_1852 ?_
    refine z_iadd C dL_law_1853 ?_
    refine zd_ld C Z G q1 (x.toNat + 1) e1 (by omega) (by omega) dL_law_1854 ?_
    refine lv_aload_n C.1 C.2.1 dL_law_1855 rfl (lv_at hl 0 rfl) ?_
    refine lv_iload C.1 C.2.1 dL_law_1856 (lv_at hl 4 rfl) ?_
    refine z_iconst C dL_law_1858 ?_
    refine z_iadd C dL_law_1859 ?_
    refine zd_ld C Z G q2 (x.toNat + 2) e2 (by omega) (by omega) dL_law_1860 ?_
    refine lv_aload_n C.1 C.2.1 dL_law_1861 rfl (lv_at hl 3 rfl) ?_
    refine zd_W (as := [.ref o, .int (iZ (q1)), .int (iZ (q2)), .ref w]) C Z Y G (c_L_divides l D cJ o a _ _ _ _ (q1) (q2) (by first | assumption | omega) (by first | assumption | omega) w _ _) ml_L_286 ⟨Nat.le_of_ble_eq_true rfl, Nat.le_of_ble_eq_true rfl⟩ ⟨by show cells + 0 + 0 ≤ 665987; omega, by show slots + 0 + 0 ≤ 7103520; omega⟩ hl (Nat.le_of_ble_eq_true rfl) rfl dL_law_1862 (fun H locs G => ?_)
    refine lv_istore (lv' := [(5, .int (iZ (0))), (0, .ref t), (1, .ref o), (2, .ref u), (3, .ref w), (4, .int (iZ (x)))]) C.1 C.2.1 dL_law_1865 hl (by decide) rfl (fun ls hl => ?_)
    refine lv_aload_n C.1 C.2.1 dL_law_1867 rfl (lv_at hl 3 rfl) ?_
    refine lv_aload_n C.1 C.2.1 dL_law_1868 rfl (lv_at hl 1 rfl) ?_
    refine lv_iload C.1 C.2.1 dL_law_1869 (lv_at hl 5 rfl) ?_
    refine z_iconst C dL_law_1871 ?_
    refine z_iadd C dL_law_1872 ?_
    refine zd_ld C Z G q1 (x.toNat + 1) e1 (by omega) (by omega) dL_law_1873 ?_
    refine lv_aload_n C.1 C.2.1 dL_law_1874 rfl (lv_at hl 1 rfl) ?_
    refine lv_iload C.1 C.2.1 dL_law_1875 (lv_at hl 5 rfl) ?_
    refine z_iconst C dL_law_1877 ?_
    refine z_iadd C dL_law_1878 ?_
    refine zd_ld C Z G q2 (x.toNat + 2) e2 (by omega) (by omega) dL_law_1879 ?_
    refine zd_M (as := [.int (iZ (q1)), .int (iZ (q2))]) C Y G (c_X5_divides l D cJ u v _ _ _ _ _ (q1) (q2) (by first | assumption | omega) (by first | assumption | omega)) ml_L_288 rfl ⟨Nat.le_of_ble_eq_true rfl, Nat.le_of_ble_eq_true rfl⟩ ⟨by show cells + 0 + 0 ≤ 665987; omega, by show slots + 0 + 0 ≤ 7103520; omega⟩ hl (Nat.le_of_ble_eq_true rfl) rfl dL_law_1880 (fun y9 H locs hy9 G => ?_)
    subst hy9
    refine lv_istore (lv' := [(6, _), (5, .int (iZ (0))), (0, .ref t), (1, .ref o), (2, .ref u), (3, .ref w), (4, .int (iZ (x)))]) C.1 C.2.1 dL_law_1883 hl (by decide) rfl (fun ls hl => ?_)
    refine lv_goto (tgt := 2207) C.1 C.2.1 dL_law_1885 (by decide) ?_
    exact kk _ _ _ _ _ _ _ _ _ _ _ _ G (by omega) (by omega) (lv_sub hl [2, 3, 4, 5, 6] rfl)
  · skip
    refine lv_aload_n C.1 C.2.1 dL_law_1848 rfl (lv_at hl 1 rfl) ?_
    refine lv_aload_n C.1 C.2.1 dL_law_1849 rfl (lv_at hl 0 rfl) ?_
    refine lv_iload C.1 C.2.1 dL_law_1850 (lv_at hl 4 rfl) ?_
    refine z_iconst C dL_law_1852 ?_
    refine z_iadd C dL_law_1853 ?_
    refine zd_ld C Z G q1 (x.toNat + 1) e1 (by omega) (by omega) dL_law_1854 ?_
    refine lv_aload_n C.1 C.2.1 dL_law_1855 rfl (lv_at hl 0 rfl) ?_
    refine lv_iload C.1 C.2.1 dL_law_1856 (lv_at hl 4 rfl) ?_
    refine z_iconst C dL_law_1858 ?_
    refine z_iadd C dL_law_1859 ?_
    refine zd_ld C Z G q2 (x.toNat + 2) e2 (by omega) (by omega) dL_law_1860 ?_
    refine lv_aload_n C.1 C.2.1 dL_law_1861 rfl (lv_at hl 3 rfl) ?_
    refine zd_W (as := [.ref o, .int (iZ (q1)), .int (iZ (q2)), .ref w]) C Z Y G (c_L_divides_badc l hlq D cJ o a _ _ _ _ (q1) (q2) (by first | assumption | omega) (by first | assumption | omega) (by first | assumption | omega) w _ _) ml_L_286 ⟨Nat.le_of_ble_eq_true rfl, Nat.le_of_ble_eq_true rfl⟩ ⟨by show cells + 0 + 1 ≤ 665987; omega, by show slots + 0 + 6 ≤ 7103520; omega⟩ hl (Nat.le_of_ble_eq_true rfl) rfl dL_law_1862 (fun H locs G => ?_)
    refine lv_istore (lv' := [(5, .int (iZ (1))), (0, .ref t), (1, .ref o), (2, .ref u), (3, .ref w), (4, .int (iZ (x)))]) C.1 C.2.1 dL_law_1865 hl (by decide) rfl (fun ls hl => ?_)
    refine lv_aload_n C.1 C.2.1 dL_law_1867 rfl (lv_at hl 3 rfl) ?_
    refine lv_aload_n C.1 C.2.1 dL_law_1868 rfl (lv_at hl 1 rfl) ?_
    refine lv_iload C.1 C.2.1 dL_law_1869 (lv_at hl 5 rfl) ?_
    refine z_iconst C dL_law_1871 ?_
    refine z_iadd C dL_law_1872 ?_
    refine zd_ld C Z G q1 (x.toNat + 1) e1 (by omega) (by omega) dL_law_1873 ?_
    refine lv_aload_n C.1 C.2.1 dL_law_1874 rfl (lv_at hl 1 rfl) ?_
    refine lv_iload C.1 C.2.1 dL_law_1875 (lv_at hl 5 rfl) ?_
    refine z_iconst C dL_law_1877 ?_
    refine z_iadd C dL_law_1878 ?_
    refine zd_ld C Z G q2 (x.toNat + 2) e2 (by omega) (by omega) dL_law_1879 ?_
    refine zd_M (as := [.int (iZ (q1)), .int (iZ (q2))]) C Y G (c_X5_divides_bad1 l D cJ u v _ _ _ _ _ (q1) (q2) (by first | assumption | omega) (by first | assumption | omega) (by first | assumption | omega)) ml_L_288 rfl ⟨Nat.le_of_ble_eq_true rfl, Nat.le_of_ble_eq_true rfl⟩ ⟨by show cells + 1 + 0 ≤ 665987; omega, by show slots + 6 + 0 ≤ 7103520; omega⟩ hl (Nat.le_of_ble_eq_true rfl) rfl dL_law_1880 (fun y9 H locs hy9 G => ?_)
    subst hy9
    refine lv_istore (lv' := [(6, _), (5, .int (iZ (1))), (0, .ref t), (1, .ref o), (2, .ref u), (3, .ref w), (4, .int (iZ (x)))]) C.1 C.2.1 dL_law_1883 hl (by decide) rfl (fun ls hl => ?_)
    refine lv_goto (tgt := 2207) C.1 C.2.1 dL_law_1885 (by decide) ?_
    exact kk _ _ _ _ _ _ _ _ _ _ _ _ G (by omega) (by omega) (lv_sub hl [2, 3, 4, 5, 6] rfl)
set_option maxHeartbeats 4000000 in
set_option maxRecDepth 100000 in
theorem lk_35 (hlq : l.stackTraces = false) (C : CallFix p m c0 cL_law 7 s args T0 RL) (Z : zLw D cB t N g s) (Y : zAd o a u v w s) {c : Nat → Nat} {ac re kn : Int32} {th : Int} {n : Int64} {sv : Value} {H : Heap} {locs : List Loc} {ls : Array Slot} {cells slots : Nat} (G : zG D cJ o a u v w c [.int ac, .int re, .int kn] c [.int (iZ th), .int ac, .int re, .int kn] n sv s H locs) (x : Int) (hx : 0 ≤ x ∧ x + 5 ≤ (N : Int)) (hf : cells + 150 ≤ 665987 ∧ slots + 75000 ≤ 7103520) (hl : lv_has ls 7 [(0, .ref t), (1, .ref o), (2, .ref u), (3, .ref w), (4, .int (iZ (x)))])
    (kk : zNx p l e s m args below meth c0 D cJ t o a u v w x cells slots Qw 2207) : W p l e room_1 s m args below meth c0 H locs cells slots Qw (F0 m 1888 ls []) := by
  have hc := G.1.2.2.2
  obtain ⟨q1, e1⟩ : ∃ z, g (x.toNat + 1) = z := ⟨_, rfl⟩
  have r1 : -2147483648 ≤ q1 ∧ q1 ≤ 2147483647 := e1 ▸ Z.2.2.2.2.2.1 _
  by_cases hcel : (0 ≤ q1 ∧ q1 ≤ 5)
  · skip
    refine lv_aload_n C.1 C.2.1 dL_law_1888 rfl (lv_at hl 1 rfl) ?_
    refine lv_aload_n C.1 C.2.1 dL_law_1889 rfl (lv_at hl 0 rfl) ?_
    refine lv_iload C.1 C.2.1 dL_law_1890 (lv_at hl 4 rfl) ?_
    refine z_iconst C dL_law_1892 ?_
    refine z_iadd C dL_law_1893 ?_
    refine zd_ld C Z G q1 (x.toNat + 1) e1 (by omega) (by omega) dL_law_1894 ?_
    refine lv_aload_n C.1 C.2.1 dL_law_1895 rfl (lv_at hl 3 rfl) ?_
    refine zd_W (as := [.ref o, .int (iZ (q1)), .ref w]) C Z Y G (c_L_isFree l D cJ o a _ _ _ _ (q1) (by first | assumption | omega) w _ _) ml_L_289 ⟨Nat.le_of_ble_eq_true rfl, Nat.le_of_ble_eq_true rfl⟩ ⟨by show cells + 0 + 0 ≤ 665987; omega, by show slots + 0 + 0 ≤ 7103520; omega⟩ hl (Nat.le_of_ble_eq_true rfl) rfl dL_law_1896 (fun H locs G => ?_)
    refine lv_istore (lv' := [(5, .int (iZ (0))), (0, .ref t), (1, .ref o), (2, .ref u), (3, .ref w), (4, .int (iZ (x)))]) C.1 C.2.1 dL_law_1899 hl (by decide) rfl (fun ls hl => ?_)
    refine lv_aload_n C.1 C.2.1 dL_law_1901 rfl (lv_at hl 3 rfl) ?_
    refine lv_aload_n C.1 C.2.1 dL_law_1902 rfl (lv_at hl 1 rfl) ?_
    refine lv_iload C.1 C.2.1 dL_law_1903 (lv_at hl 5 rfl) ?_
    refine z_iconst C dL_law_1905 ?_
    refine z_iadd C dL_law_1906 ?_
    refine zd_ld C Z G q1 (x.toNat + 1) e1 (by omega) (by omega) dL_law_1907 ?_
    refine zd_M (as := [.int (iZ (q1))]) C Y G (c_X5_isFree l D cJ u v _ _ _ _ _ (q1) (by first | assumption | omega)) ml_L_291 rfl ⟨Nat.le_of_ble_eq_true rfl, Nat.le_of_ble_eq_true rfl⟩ ⟨by show cells + 0 + 0 ≤ 665987; omega, by show slots + 0 + 0 ≤ 7103520; omega⟩ hl (Nat.le_of_ble_eq_true rfl) rfl dL_law_1908 (fun y9 H locs hy9 G => ?_)
    subst hy9
    refine lv_istore (lv' := [(6, _), (5, .int (iZ (0))), (0, .ref t), (1, .ref o), (2, .ref u), (3, .ref w), (4, .int (iZ (x)))]) C.1 C.2.1 dL_law_1911 hl (by decide) rfl (fun ls hl => ?_)
    refine lv_goto (tgt := 2207) C.1 C.2.1 dL_law_1913 (by decide) ?_
    exact kk _ _ _ _ _ _ _ _ _ _ _ _ G (by omega) (by omega) (lv_sub hl [2, 3, 4, 5, 6] rfl)
  · skip
    refine lv_aload_n C.1 C.2.1 dL_law_1888 rfl (lv_at hl 1 rfl) ?_
    refine lv_aload_n C.1 C.2.1 dL_law_1889 rfl (lv_at hl 0 rfl) ?_
    refine lv_iload C.1 C.2.1 dL_law_1890 (lv_at hl 4 rfl) ?_
    refine z_iconst C dL_law_1892 ?_
    refine z_iadd C dL_law_1893 ?_
    refine zd_ld C Z G q1 (x.toNat + 1) e1 (by omega) (by omega) dL_law_1894 ?_
    refine lv_aload_n C.1 C.2.1 dL_law_1895 rfl (lv_at hl 3 rfl) ?_
    refine zd_W (as := [.ref o, .int (iZ (q1)), .ref w]) C Z Y G (c_L_isFree_badc l hlq D cJ o a _ _ _ _ (q1) (by first | assumption | omega) (by first | assumption | omega) w _ _) ml_L_289 ⟨Nat.le_of_ble_eq_true rfl, Nat.le_of_ble_eq_true rfl⟩ ⟨by show cells + 0 + 1 ≤ 665987; omega, by show slots + 0 + 6 ≤ 7103520; omega⟩ hl (Nat.le_of_ble_eq_true rfl) rfl dL_law_1896 (fun H locs G => ?_)
    refine lv_istore (lv' := [(5, .int (iZ (1))), (0, .ref t), (1, .ref o), (2, .ref u), (3, .ref w), (4, .int (iZ (x)))]) C.1 C.2.1 dL_law_1899 hl (by decide) rfl (fun ls hl => ?_)
    refine lv_aload_n C.1 C.2.1 dL_law_1901 rfl (lv_at hl 3 rfl) ?_
    refine lv_aload_n C.1 C.2.1 dL_law_1902 rfl (lv_at hl 1 rfl) ?_
    refine lv_iload C.1 C.2.1 dL_law_1903 (lv_at hl 5 rfl) ?_
    refine z_iconst C dL_law_1905 ?_
    refine z_iadd C dL_law_1906 ?_
    refine zd_ld C Z G q1 (x.toNat + 1) e1 (by omega) (by omega) dL_law_1907 ?_
    refine zd_M (as := [.int (iZ (q1))]) C Y G (c_X5_isFree_bad1 l D cJ u v _ _ _ _ _ (q1) (by first | assumption | omega) (by first | assumption | omega)) ml_L_291 rfl ⟨Nat.le_of_ble_eq_true rfl, Nat.le_of_ble_eq_true rfl⟩ ⟨by show cells + 1 + 0 ≤ 665987; omega, by show slots + 6 + 0 ≤ 7103520; omega⟩ hl (Nat.le_of_ble_eq_true rfl) rfl dL_law_1908 (fun y9 H locs hy9 G => ?_)
    subst hy9
    refine lv_istore (lv' := [(6, _), (5, .int (iZ (1))), (0, .ref t), (1, .ref o), (2, .ref u), (3, .ref w), (4, .int (iZ (x)))]) C.1 C.2.1 dL_law_1911 hl (by decide) rfl (fun ls hl => ?_)
    refine lv_goto (tgt := 2207) C.1 C.2.1 dL_law_1913 (by decide) ?_
    exact kk _ _ _ _ _ _ _ _ _ _ _ _ G (by omega) (by omega) (lv_sub hl [2, 3, 4, 5, 6] rfl)
set_option maxHeartbeats 4000000 in
set_option maxRecDepth 100000 in
theorem lk_36 (hlq : l.stackTraces = false) (C : CallFix p m c0 cL_law 7 s args T0 RL) (Z : zLw D cB t N g s) (Y : zAd o a u v w s) {c : Nat → Nat} {ac re kn : Int32} {th : Int} {n : Int64} {sv : Value} {H : Heap} {locs : List Loc} {ls : Array Slot} {cells slots : Nat} (G : zG D cJ o a u v w c [.int ac, .int re, .int kn] c [.int (iZ th), .int ac, .int re, .int kn] n sv s H locs) (x : Int) (hx : 0 ≤ x ∧ x + 5 ≤ (N : Int)) (hf : cells + 150 ≤ 665987 ∧ slots + 75000 ≤ 7103520) (hl : lv_has ls 7 [(0, .ref t), (1, .ref o), (2, .ref u), (3, .ref w), (4, .int (iZ (x)))])
    (kk : zNx p l e s m args below meth c0 D cJ t o a u v w x cells slots Qw 2207) : W p l e room_1 s m args below meth c0 H locs cells slots Qw (F0 m 1916 ls []) := by
  have hc := G.1.2.2.2
  obtain ⟨q1, e1⟩ : ∃ z, g (x.toNat + 1) = z := ⟨_, rfl⟩
  have r1 : -2147483648 ≤ q1 ∧ q1 ≤ 2147483647 := e1 ▸ Z.2.2.2.2.2.1 _
  by_cases hcel : (0 ≤ q1 ∧ q1 ≤ 5)
  · skip
    refine lv_aload_n C.1 C.2.1 dL_law_1916 rfl (lv_at hl 1 rfl) ?_
    refine lv_aload_n C.1 C.2.1 dL_law_1917 rfl (lv_at hl 0 rfl) ?_
    refine lv_iload C.1 C.2.1 dL_law_1918 (lv_at hl 4 rfl) ?_
    refine z_iconst C dL_law_1920 ?_
    refine z_iadd C dL_law_1921 ?_
    refine zd_ld C Z G q1 (x.toNat + 1) e1 (by omega) (by omega) dL_law_1922 ?_
    refine lv_aload_n C.1 C.2.1 dL_law_1923 rfl (lv_at hl 3 rfl) ?_
    refine zd_W (as := [.ref o, .int (iZ (q1)), .ref w]) C Z Y G (c_L_irreducible l D cJ o a _ _ _ _ (q1) (by first | assumption | omega) w _ _) ml_L_292 ⟨Nat.le_of_ble_eq_true rfl, Nat.le_of_ble_eq_true rfl⟩ ⟨by show cells + 0 + 0 ≤ 665987; omega, by show slots + 0 + 0 ≤ 7103520; omega⟩ hl (Nat.le_of_ble_eq_true rfl) rfl dL_law_1924 (fun H locs G => ?_)
    refine lv_istore (lv' := [(5, .int (iZ (0))), (0, .ref t), (1, .ref o), (2, .ref u), (3, .ref w), (4, .int (iZ (x)))]) C.1 C.2.1 dL_law_1927 hl (by decide) rfl (fun ls hl => ?_)
    refine lv_aload_n C.1 C.2.1 dL_law_1929 rfl (lv_at hl 3 rfl) ?_
    refine lv_aload_n C.1 C.2.1 dL_law_1930 rfl (lv_at hl 1 rfl) ?_
    refine lv_iload C.1 C.2.1 dL_law_1931 (lv_at hl 5 rfl) ?_
    refine z_iconst C dL_law_1933 ?_
    refine z_iadd C dL_law_1934 ?_
    refine zd_ld C Z G q1 (x.toNat + 1) e1 (by omega) (by omega) dL_law_1935 ?_
    refine zd_M (as := [.int (iZ (q1))]) C Y G (c_X5_irreducible l D cJ u v _ _ _ _ _ (q1) (by first | assumption | omega)) ml_L_294 rfl ⟨Nat.le_of_ble_eq_true rfl, Nat.le_of_ble_eq_true rfl⟩ ⟨by show cells + 0 + 0 ≤ 665987; omega, by show slots + 0 + 0 ≤ 7103520; omega⟩ hl (Nat.le_of_ble_eq_true rfl) rfl dL_law_1936 (fun y9 H locs hy9 G => ?_)
    subst hy9
    refine lv_istore (lv' := [(6, _), (5, .int (iZ (0))), (0, .ref t), (1, .ref o), (2, .ref u), (3, .ref w), (4, .int (iZ (x)))]) C.1 C.2.1 dL_law_1939 hl (by decide) rfl (fun ls hl => ?_)
    refine lv_goto (tgt := 2207) C.1 C.2.1 dL_law_1941 (by decide) ?_
    exact kk _ _ _ _ _ _ _ _ _ _ _ _ G (by omega) (by omega) (lv_sub hl [2, 3, 4, 5, 6] rfl)
  · skip
    refine lv_aload_n C.1 C.2.1 dL_law_1916 rfl (lv_at hl 1 rfl) ?_
    refine lv_aload_n C.1 C.2.1 dL_law_1917 rfl (lv_at hl 0 rfl) ?_
    refine lv_iload C.1 C.2.1 dL_law_1918 (lv_at hl 4 rfl) ?_
    refine z_iconst C dL_law_1920 ?_
    refine z_iadd C dL_law_1921 ?_
    refine zd_ld C Z G q1 (x.toNat + 1) e1 (by omega) (by omega) dL_law_1922 ?_
    refine lv_aload_n C.1 C.2.1 dL_law_1923 rfl (lv_at hl 3 rfl) ?_
    refine zd_W (as := [.ref o, .int (iZ (q1)), .ref w]) C Z Y G (c_L_irreducible_badc l hlq D cJ o a _ _ _ _ (q1) (by first | assumption | omega) (by first | assumption | omega) w _ _) ml_L_292 ⟨Nat.le_of_ble_eq_true rfl, Nat.le_of_ble_eq_true rfl⟩ ⟨by show cells + 0 + 1 ≤ 665987; omega, by show slots + 0 + 6 ≤ 7103520; omega⟩ hl (Nat.le_of_ble_eq_true rfl) rfl dL_law_1924 (fun H locs G => ?_)
    refine lv_istore (lv' := [(5, .int (iZ (1))), (0, .ref t), (1, .ref o), (2, .ref u), (3, .ref w), (4, .int (iZ (x)))]) C.1 C.2.1 dL_law_1927 hl (by decide) rfl (fun ls hl => ?_)
    refine lv_aload_n C.1 C.2.1 dL_law_1929 rfl (lv_at hl 3 rfl) ?_
    refine lv_aload_n C.1 C.2.1 dL_law_1930 rfl (lv_at hl 1 rfl) ?_
    refine lv_iload C.1 C.2.1 dL_law_1931 (lv_at hl 5 rfl) ?_
    refine z_iconst C dL_law_1933 ?_
    refine z_iadd C dL_law_1934 ?_
    refine zd_ld C Z G q1 (x.toNat + 1) e1 (by omega) (by omega) dL_law_1935 ?_
    refine zd_M (as := [.int (iZ (q1))]) C Y G (c_X5_irreducible_bad1 l D cJ u v _ _ _ _ _ (q1) (by first | assumption | omega) (by first | assumption | omega)) ml_L_294 rfl ⟨Nat.le_of_ble_eq_true rfl, Nat.le_of_ble_eq_true rfl⟩ ⟨by show cells + 1 + 0 ≤ 665987; omega, by show slots + 6 + 0 ≤ 7103520; omega⟩ hl (Nat.le_of_ble_eq_true rfl) rfl dL_law_1936 (fun y9 H locs hy9 G => ?_)
    subst hy9
    refine lv_istore (lv' := [(6, _), (5, .int (iZ (1))), (0, .ref t), (1, .ref o), (2, .ref u), (3, .ref w), (4, .int (iZ (x)))]) C.1 C.2.1 dL_law_1939 hl (by decide) rfl (fun ls hl => ?_)
    refine lv_goto (tgt := 2207) C.1 C.2.1 dL_law_1941 (by decide) ?_
    exact kk _ _ _ _ _ _ _ _ _ _ _ _ G (by omega) (by omega) (lv_sub hl [2, 3, 4, 5, 6] rfl)
set_option maxHeartbeats 4000000 in
set_option maxRecDepth 100000 in
theorem lk_37 (hlq : l.stackTraces = false) (C : CallFix p m c0 cL_law 7 s args T0 RL) (Z : zLw D cB t N g s) (Y : zAd o a u v w s) {c : Nat → Nat} {ac re kn : Int32} {th : Int} {n : Int64} {sv : Value} {H : Heap} {locs : List Loc} {ls : Array Slot} {cells slots : Nat} (G : zG D cJ o a u v w c [.int ac, .int re, .int kn] c [.int (iZ th), .int ac, .int re, .int kn] n sv s H locs) (x : Int) (hx : 0 ≤ x ∧ x + 5 ≤ (N : Int)) (hf : cells + 150 ≤ 665987 ∧ slots + 75000 ≤ 7103520) (hl : lv_has ls 7 [(0, .ref t), (1, .ref o), (2, .ref u), (3, .ref w), (4, .int (iZ (x)))])
    (kk : zNx p l e s m args below meth c0 D cJ t o a u v w x cells slots Qw 2207) : W p l e room_1 s m args below meth c0 H locs cells slots Qw (F0 m 1944 ls []) := by
  have hc := G.1.2.2.2
  obtain ⟨q1, e1⟩ : ∃ z, g (x.toNat + 1) = z := ⟨_, rfl⟩
  have r1 : -2147483648 ≤ q1 ∧ q1 ≤ 2147483647 := e1 ▸ Z.2.2.2.2.2.1 _
  by_cases hcel : (0 ≤ q1 ∧ q1 ≤ 5)
  · skip
    refine lv_aload_n C.1 C.2.1 dL_law_1944 rfl (lv_at hl 1 rfl) ?_
    refine lv_aload_n C.1 C.2.1 dL_law_1945 rfl (lv_at hl 0 rfl) ?_
    refine lv_iload C.1 C.2.1 dL_law_1946 (lv_at hl 4 rfl) ?_
    refine z_iconst C dL_law_1948 ?_
    refine z_iadd C dL_law_1949 ?_
    refine zd_ld C Z G q1 (x.toNat + 1) e1 (by omega) (by omega) dL_law_1950 ?_
    refine lv_aload_n C.1 C.2.1 dL_law_1951 rfl (lv_at hl 3 rfl) ?_
    refine zd_W (as := [.ref o, .int (iZ (q1)), .ref w]) C Z Y G (c_L_rank l D cJ o a _ _ _ _ (q1) (by first | assumption | omega) w _ _) ml_L_295 ⟨Nat.le_of_ble_eq_true rfl, Nat.le_of_ble_eq_true rfl⟩ ⟨by show cells + 0 + 0 ≤ 665987; omega, by show slots + 0 + 0 ≤ 7103520; omega⟩ hl (Nat.le_of_ble_eq_true rfl) rfl dL_law_1952 (fun H locs G => ?_)
    refine lv_istore (lv' := [(5, .int (iZ (0))), (0, .ref t), (1, .ref o), (2, .ref u), (3, .ref w), (4, .int (iZ (x)))]) C.1 C.2.1 dL_law_1955 hl (by decide) rfl (fun ls hl => ?_)
    refine lv_aload_n C.1 C.2.1 dL_law_1957 rfl (lv_at hl 3 rfl) ?_
    refine lv_aload_n C.1 C.2.1 dL_law_1958 rfl (lv_at hl 1 rfl) ?_
    refine lv_iload C.1 C.2.1 dL_law_1959 (lv_at hl 5 rfl) ?_
    refine z_iconst C dL_law_1961 ?_
    refine z_iadd C dL_law_1962 ?_
    refine zd_ld C Z G q1 (x.toNat + 1) e1 (by omega) (by omega) dL_law_1963 ?_
    refine zd_M (as := [.int (iZ (q1))]) C Y G (c_X5_rank l D cJ u v _ _ _ _ _ (q1) (by first | assumption | omega)) ml_L_297 rfl ⟨Nat.le_of_ble_eq_true rfl, Nat.le_of_ble_eq_true rfl⟩ ⟨by show cells + 0 + 0 ≤ 665987; omega, by show slots + 0 + 0 ≤ 7103520; omega⟩ hl (Nat.le_of_ble_eq_true rfl) rfl dL_law_1964 (fun y9 H locs hy9 G => ?_)
    subst hy9
    refine lv_istore (lv' := [(6, _), (5, .int (iZ (0))), (0, .ref t), (1, .ref o), (2, .ref u), (3, .ref w), (4, .int (iZ (x)))]) C.1 C.2.1 dL_law_1967 hl (by decide) rfl (fun ls hl => ?_)
    refine lv_goto (tgt := 2207) C.1 C.2.1 dL_law_1969 (by decide) ?_
    exact kk _ _ _ _ _ _ _ _ _ _ _ _ G (by omega) (by omega) (lv_sub hl [2, 3, 4, 5, 6] rfl)
  · skip
    refine lv_aload_n C.1 C.2.1 dL_law_1944 rfl (lv_at hl 1 rfl) ?_
    refine lv_aload_n C.1 C.2.1 dL_law_1945 rfl (lv_at hl 0 rfl) ?_
    refine lv_iload C.1 C.2.1 dL_law_1946 (lv_at hl 4 rfl) ?_
    refine z_iconst C dL_law_1948 ?_
    refine z_iadd C dL_law_1949 ?_
    refine zd_ld C Z G q1 (x.toNat + 1) e1 (by omega) (by omega) dL_law_1950 ?_
    refine lv_aload_n C.1 C.2.1 dL_law_1951 rfl (lv_at hl 3 rfl) ?_
    refine zd_W (as := [.ref o, .int (iZ (q1)), .ref w]) C Z Y G (c_L_rank_badc l hlq D cJ o a _ _ _ _ (q1) (by first | assumption | omega) (by first | assumption | omega) w _ _) ml_L_295 ⟨Nat.le_of_ble_eq_true rfl, Nat.le_of_ble_eq_true rfl⟩ ⟨by show cells + 0 + 1 ≤ 665987; omega, by show slots + 0 + 6 ≤ 7103520; omega⟩ hl (Nat.le_of_ble_eq_true rfl) rfl dL_law_1952 (fun H locs G => ?_)
    refine lv_istore (lv' := [(5, .int (iZ (1))), (0, .ref t), (1, .ref o), (2, .ref u), (3, .ref w), (4, .int (iZ (x)))]) C.1 C.2.1 dL_law_1955 hl (by decide) rfl (fun ls hl => ?_)
    refine lv_aload_n C.1 C.2.1 dL_law_1957 rfl (lv_at hl 3 rfl) ?_
    refine lv_aload_n C.1 C.2.1 dL_law_1958 rfl (lv_at hl 1 rfl) ?_
    refine lv_iload C.1 C.2.1 dL_law_1959 (lv_at hl 5 rfl) ?_
    refine z_iconst C dL_law_1961 ?_
    refine z_iadd C dL_law_1962 ?_
    refine zd_ld C Z G q1 (x.toNat + 1) e1 (by omega) (by omega) dL_law_1963 ?_
    refine zd_M (as := [.int (iZ (q1))]) C Y G (c_X5_rank_bad1 l D cJ u v _ _ _ _ _ (q1) (by first | assumption | omega) (by first | assumption | omega)) ml_L_297 rfl ⟨Nat.le_of_ble_eq_true rfl, Nat.le_of_ble_eq_true rfl⟩ ⟨by show cells + 1 + 0 ≤ 665987; omega, by show slots + 6 + 0 ≤ 7103520; omega⟩ hl (Nat.le_of_ble_eq_true rfl) rfl dL_law_1964 (fun y9 H locs hy9 G => ?_)
    subst hy9
    refine lv_istore (lv' := [(6, _), (5, .int (iZ (1))), (0, .ref t), (1, .ref o), (2, .ref u), (3, .ref w), (4, .int (iZ (x)))]) C.1 C.2.1 dL_law_1967 hl (by decide) rfl (fun ls hl => ?_)
    refine lv_goto (tgt := 2207) C.1 C.2.1 dL_law_1969 (by decide) ?_
    exact kk _ _ _ _ _ _ _ _ _ _ _ _ G (by omega) (by omega) (lv_sub hl [2, 3, 4, 5, 6] rfl)
set_option maxHeartbeats 4000000 in
set_option maxRecDepth 100000 in
theorem lk_38 (hlq : l.stackTraces = false) (C : CallFix p m c0 cL_law 7 s args T0 RL) (Z : zLw D cB t N g s) (Y : zAd o a u v w s) {c : Nat → Nat} {ac re kn : Int32} {th : Int} {n : Int64} {sv : Value} {H : Heap} {locs : List Loc} {ls : Array Slot} {cells slots : Nat} (G : zG D cJ o a u v w c [.int ac, .int re, .int kn] c [.int (iZ th), .int ac, .int re, .int kn] n sv s H locs) (x : Int) (hx : 0 ≤ x ∧ x + 5 ≤ (N : Int)) (hf : cells + 150 ≤ 665987 ∧ slots + 75000 ≤ 7103520) (hl : lv_has ls 7 [(0, .ref t), (1, .ref o), (2, .ref u), (3, .ref w), (4, .int (iZ (x)))])
    (kk : zNx p l e s m args below meth c0 D cJ t o a u v w x cells slots Qw 2207) : W p l e room_1 s m args below meth c0 H locs cells slots Qw (F0 m 1972 ls []) := by
  have hc := G.1.2.2.2
  obtain ⟨q1, e1⟩ : ∃ z, g (x.toNat + 1) = z := ⟨_, rfl⟩
  have r1 : -2147483648 ≤ q1 ∧ q1 ≤ 2147483647 := e1 ▸ Z.2.2.2.2.2.1 _
  by_cases hcel : (0 ≤ q1 ∧ q1 ≤ 5)
  · skip
    by_cases hg : 0 ≤ tp (c q1.toNat) ∧ tp (c q1.toNat) ≤ 8
    · skip
      refine lv_aload_n C.1 C.2.1 dL_law_1972 rfl (lv_at hl 1 rfl) ?_
      refine lv_aload_n C.1 C.2.1 dL_law_1973 rfl (lv_at hl 0 rfl) ?_
      refine lv_iload C.1 C.2.1 dL_law_1974 (lv_at hl 4 rfl) ?_
      refine z_iconst C dL_law_1976 ?_
      refine z_iadd C dL_law_1977 ?_
      refine zd_ld C Z G q1 (x.toNat + 1) e1 (by omega) (by omega) dL_law_1978 ?_
      refine lv_aload_n C.1 C.2.1 dL_law_1979 rfl (lv_at hl 3 rfl) ?_
      refine zd_WV (as := [.ref o, .int (iZ (q1)), .ref w]) C Z Y G (c_L_factors_ok l D cB cJ o a _ _ _ _ (q1) (by first | assumption | omega) (by first | assumption | omega) w _ _) ml_L_298 ⟨Nat.le_of_ble_eq_true rfl, Nat.le_of_ble_eq_true rfl⟩ ⟨by show cells + 0 + 24 ≤ 665987; omega, by show slots + 0 + 10000 ≤ 7103520; omega⟩ hl (Nat.le_of_ble_eq_true rfl) rfl dL_law_1980 (fun sv H locs G => ?_)
      refine lv_istore (lv' := [(5, .int (iZ (0))), (0, .ref t), (1, .ref o), (2, .ref u), (3, .ref w), (4, .int (iZ (x)))]) C.1 C.2.1 dL_law_1983 hl (by decide) rfl (fun ls hl => ?_)
      refine lv_aload_n C.1 C.2.1 dL_law_1985 rfl (lv_at hl 3 rfl) ?_
      refine lv_aload_n C.1 C.2.1 dL_law_1986 rfl (lv_at hl 1 rfl) ?_
      refine lv_iload C.1 C.2.1 dL_law_1987 (lv_at hl 5 rfl) ?_
      refine z_iconst C dL_law_1989 ?_
      refine z_iadd C dL_law_1990 ?_
      refine zd_ld C Z G q1 (x.toNat + 1) e1 (by omega) (by omega) dL_law_1991 ?_
      refine zd_MV (as := [.int (iZ (q1))]) C Z Y G (c_X5_factors_ok l D cB cJ u v _ _ _ _ _ (q1) (by first | assumption | omega) (by first | assumption | omega)) ml_L_300 rfl ⟨Nat.le_of_ble_eq_true rfl, Nat.le_of_ble_eq_true rfl⟩ ⟨by show cells + 24 + 24 ≤ 665987; omega, by show slots + 10000 + 10000 ≤ 7103520; omega⟩ hl (Nat.le_of_ble_eq_true rfl) rfl dL_law_1992 (fun y9 H locs hy9 G => ?_)
      obtain ⟨q9, rfl⟩ := hy9
      refine lv_astore (lv' := [(6, .ref q9), (5, .int (iZ (0))), (0, .ref t), (1, .ref o), (2, .ref u), (3, .ref w), (4, .int (iZ (x)))]) C.1 C.2.1 dL_law_1995 hl (by decide) rfl (fun ls hl => ?_)
      refine lv_goto (tgt := 2207) C.1 C.2.1 dL_law_1997 (by decide) ?_
      exact kk _ _ _ _ _ _ _ _ _ _ _ _ G (by omega) (by omega) (lv_sub hl [2, 3, 4, 5, 6] rfl)
    · skip
      refine lv_aload_n C.1 C.2.1 dL_law_1972 rfl (lv_at hl 1 rfl) ?_
      refine lv_aload_n C.1 C.2.1 dL_law_1973 rfl (lv_at hl 0 rfl) ?_
      refine lv_iload C.1 C.2.1 dL_law_1974 (lv_at hl 4 rfl) ?_
      refine z_iconst C dL_law_1976 ?_
      refine z_iadd C dL_law_1977 ?_
      refine zd_ld C Z G q1 (x.toNat + 1) e1 (by omega) (by omega) dL_law_1978 ?_
      refine lv_aload_n C.1 C.2.1 dL_law_1979 rfl (lv_at hl 3 rfl) ?_
      refine zd_WV (as := [.ref o, .int (iZ (q1)), .ref w]) C Z Y G (c_L_factors_no l D cB cJ o a _ _ _ _ (q1) (by first | assumption | omega) (by first | assumption | omega) w _ _) ml_L_298 ⟨Nat.le_of_ble_eq_true rfl, Nat.le_of_ble_eq_true rfl⟩ ⟨by show cells + 0 + 24 ≤ 665987; omega, by show slots + 0 + 10000 ≤ 7103520; omega⟩ hl (Nat.le_of_ble_eq_true rfl) rfl dL_law_1980 (fun sv H locs G => ?_)
      refine lv_istore (lv' := [(5, .int (iZ (0))), (0, .ref t), (1, .ref o), (2, .ref u), (3, .ref w), (4, .int (iZ (x)))]) C.1 C.2.1 dL_law_1983 hl (by decide) rfl (fun ls hl => ?_)
      refine lv_aload_n C.1 C.2.1 dL_law_1985 rfl (lv_at hl 3 rfl) ?_
      refine lv_aload_n C.1 C.2.1 dL_law_1986 rfl (lv_at hl 1 rfl) ?_
      refine lv_iload C.1 C.2.1 dL_law_1987 (lv_at hl 5 rfl) ?_
      refine z_iconst C dL_law_1989 ?_
      refine z_iadd C dL_law_1990 ?_
      refine zd_ld C Z G q1 (x.toNat + 1) e1 (by omega) (by omega) dL_law_1991 ?_
      refine zd_MV (as := [.int (iZ (q1))]) C Z Y G (c_X5_factors_no l D cB cJ u v _ _ _ _ _ (q1) (by first | assumption | omega) (by first | assumption | omega)) ml_L_300 rfl ⟨Nat.le_of_ble_eq_true rfl, Nat.le_of_ble_eq_true rfl⟩ ⟨by show cells + 24 + 0 ≤ 665987; omega, by show slots + 10000 + 0 ≤ 7103520; omega⟩ hl (Nat.le_of_ble_eq_true rfl) rfl dL_law_1992 (fun y9 H locs hy9 G => ?_)
      obtain ⟨q9, rfl⟩ := hy9
      refine lv_astore (lv' := [(6, .ref q9), (5, .int (iZ (0))), (0, .ref t), (1, .ref o), (2, .ref u), (3, .ref w), (4, .int (iZ (x)))]) C.1 C.2.1 dL_law_1995 hl (by decide) rfl (fun ls hl => ?_)
      refine lv_goto (tgt := 2207) C.1 C.2.1 dL_law_1997 (by decide) ?_
      exact kk _ _ _ _ _ _ _ _ _ _ _ _ G (by omega) (by omega) (lv_sub hl [2, 3, 4, 5, 6] rfl)
  · skip
    refine lv_aload_n C.1 C.2.1 dL_law_1972 rfl (lv_at hl 1 rfl) ?_
    refine lv_aload_n C.1 C.2.1 dL_law_1973 rfl (lv_at hl 0 rfl) ?_
    refine lv_iload C.1 C.2.1 dL_law_1974 (lv_at hl 4 rfl) ?_
    refine z_iconst C dL_law_1976 ?_
    refine z_iadd C dL_law_1977 ?_
    refine zd_ld C Z G q1 (x.toNat + 1) e1 (by omega) (by omega) dL_law_1978 ?_
    refine lv_aload_n C.1 C.2.1 dL_law_1979 rfl (lv_at hl 3 rfl) ?_
    refine zd_W (as := [.ref o, .int (iZ (q1)), .ref w]) C Z Y G (c_L_factors_badc l hlq D cJ o a _ _ _ _ (q1) (by first | assumption | omega) (by first | assumption | omega) w _ _) ml_L_298 ⟨Nat.le_of_ble_eq_true rfl, Nat.le_of_ble_eq_true rfl⟩ ⟨by show cells + 0 + 1 ≤ 665987; omega, by show slots + 0 + 6 ≤ 7103520; omega⟩ hl (Nat.le_of_ble_eq_true rfl) rfl dL_law_1980 (fun H locs G => ?_)
    refine lv_istore (lv' := [(5, .int (iZ (1))), (0, .ref t), (1, .ref o), (2, .ref u), (3, .ref w), (4, .int (iZ (x)))]) C.1 C.2.1 dL_law_1983 hl (by decide) rfl (fun ls hl => ?_)
    refine lv_aload_n C.1 C.2.1 dL_law_1985 rfl (lv_at hl 3 rfl) ?_
    refine lv_aload_n C.1 C.2.1 dL_law_1986 rfl (lv_at hl 1 rfl) ?_
    refine lv_iload C.1 C.2.1 dL_law_1987 (lv_at hl 5 rfl) ?_
    refine z_iconst C dL_law_1989 ?_
    refine z_iadd C dL_law_1990 ?_
    refine zd_ld C Z G q1 (x.toNat + 1) e1 (by omega) (by omega) dL_law_1991 ?_
    refine zd_MV (as := [.int (iZ (q1))]) C Z Y G (c_X5_factors_bad1 l D cB cJ u v _ _ _ _ _ (q1) (by first | assumption | omega) (by first | assumption | omega)) ml_L_300 rfl ⟨Nat.le_of_ble_eq_true rfl, Nat.le_of_ble_eq_true rfl⟩ ⟨by show cells + 1 + 0 ≤ 665987; omega, by show slots + 6 + 0 ≤ 7103520; omega⟩ hl (Nat.le_of_ble_eq_true rfl) rfl dL_law_1992 (fun y9 H locs hy9 G => ?_)
    obtain ⟨q9, rfl⟩ := hy9
    refine lv_astore (lv' := [(6, .ref q9), (5, .int (iZ (1))), (0, .ref t), (1, .ref o), (2, .ref u), (3, .ref w), (4, .int (iZ (x)))]) C.1 C.2.1 dL_law_1995 hl (by decide) rfl (fun ls hl => ?_)
    refine lv_goto (tgt := 2207) C.1 C.2.1 dL_law_1997 (by decide) ?_
    exact kk _ _ _ _ _ _ _ _ _ _ _ _ G (by omega) (by omega) (lv_sub hl [2, 3, 4, 5, 6] rfl)
set_option maxHeartbeats 4000000 in
set_option maxRecDepth 100000 in
theorem lk_39 (hlq : l.stackTraces = false) (C : CallFix p m c0 cL_law 7 s args T0 RL) (Z : zLw D cB t N g s) (Y : zAd o a u v w s) {c : Nat → Nat} {ac re kn : Int32} {th : Int} {n : Int64} {sv : Value} {H : Heap} {locs : List Loc} {ls : Array Slot} {cells slots : Nat} (G : zG D cJ o a u v w c [.int ac, .int re, .int kn] c [.int (iZ th), .int ac, .int re, .int kn] n sv s H locs) (x : Int) (hx : 0 ≤ x ∧ x + 5 ≤ (N : Int)) (hf : cells + 150 ≤ 665987 ∧ slots + 75000 ≤ 7103520) (hl : lv_has ls 7 [(0, .ref t), (1, .ref o), (2, .ref u), (3, .ref w), (4, .int (iZ (x)))])
    (kk : zNx p l e s m args below meth c0 D cJ t o a u v w x cells slots Qw 2207) : W p l e room_1 s m args below meth c0 H locs cells slots Qw (F0 m 2000 ls []) := by
  have hc := G.1.2.2.2
  obtain ⟨q1, e1⟩ : ∃ z, g (x.toNat + 1) = z := ⟨_, rfl⟩
  have r1 : -2147483648 ≤ q1 ∧ q1 ≤ 2147483647 := e1 ▸ Z.2.2.2.2.2.1 _
  by_cases hcel : (0 ≤ q1 ∧ q1 ≤ 5)
  · skip
    refine lv_aload_n C.1 C.2.1 dL_law_2000 rfl (lv_at hl 1 rfl) ?_
    refine lv_aload_n C.1 C.2.1 dL_law_2001 rfl (lv_at hl 0 rfl) ?_
    refine lv_iload C.1 C.2.1 dL_law_2002 (lv_at hl 4 rfl) ?_
    refine z_iconst C dL_law_2004 ?_
    refine z_iadd C dL_law_2005 ?_
    refine zd_ld C Z G q1 (x.toNat + 1) e1 (by omega) (by omega) dL_law_2006 ?_
    refine lv_aload_n C.1 C.2.1 dL_law_2007 rfl (lv_at hl 3 rfl) ?_
    refine zd_W (as := [.ref o, .int (iZ (q1)), .ref w]) C Z Y G (c_L_period l D cJ o a _ _ _ _ (q1) (by first | assumption | omega) w _ _) ml_L_301 ⟨Nat.le_of_ble_eq_true rfl, Nat.le_of_ble_eq_true rfl⟩ ⟨by show cells + 0 + 0 ≤ 665987; omega, by show slots + 0 + 0 ≤ 7103520; omega⟩ hl (Nat.le_of_ble_eq_true rfl) rfl dL_law_2008 (fun H locs G => ?_)
    refine lv_istore (lv' := [(5, .int (iZ (0))), (0, .ref t), (1, .ref o), (2, .ref u), (3, .ref w), (4, .int (iZ (x)))]) C.1 C.2.1 dL_law_2011 hl (by decide) rfl (fun ls hl => ?_)
    refine lv_aload_n C.1 C.2.1 dL_law_2013 rfl (lv_at hl 3 rfl) ?_
    refine lv_aload_n C.1 C.2.1 dL_law_2014 rfl (lv_at hl 1 rfl) ?_
    refine lv_iload C.1 C.2.1 dL_law_2015 (lv_at hl 5 rfl) ?_
    refine z_iconst C dL_law_2017 ?_
    refine z_iadd C dL_law_2018 ?_
    refine zd_ld C Z G q1 (x.toNat + 1) e1 (by omega) (by omega) dL_law_2019 ?_
    refine zd_M (as := [.int (iZ (q1))]) C Y G (c_X5_period l D cJ u v _ _ _ _ _ (q1) (by first | assumption | omega)) ml_L_303 rfl ⟨Nat.le_of_ble_eq_true rfl, Nat.le_of_ble_eq_true rfl⟩ ⟨by show cells + 0 + 0 ≤ 665987; omega, by show slots + 0 + 0 ≤ 7103520; omega⟩ hl (Nat.le_of_ble_eq_true rfl) rfl dL_law_2020 (fun y9 H locs hy9 G => ?_)
    subst hy9
    refine lv_istore (lv' := [(6, _), (5, .int (iZ (0))), (0, .ref t), (1, .ref o), (2, .ref u), (3, .ref w), (4, .int (iZ (x)))]) C.1 C.2.1 dL_law_2023 hl (by decide) rfl (fun ls hl => ?_)
    refine lv_goto (tgt := 2207) C.1 C.2.1 dL_law_2025 (by decide) ?_
    exact kk _ _ _ _ _ _ _ _ _ _ _ _ G (by omega) (by omega) (lv_sub hl [2, 3, 4, 5, 6] rfl)
  · skip
    refine lv_aload_n C.1 C.2.1 dL_law_2000 rfl (lv_at hl 1 rfl) ?_
    refine lv_aload_n C.1 C.2.1 dL_law_2001 rfl (lv_at hl 0 rfl) ?_
    refine lv_iload C.1 C.2.1 dL_law_2002 (lv_at hl 4 rfl) ?_
    refine z_iconst C dL_law_2004 ?_
    refine z_iadd C dL_law_2005 ?_
    refine zd_ld C Z G q1 (x.toNat + 1) e1 (by omega) (by omega) dL_law_2006 ?_
    refine lv_aload_n C.1 C.2.1 dL_law_2007 rfl (lv_at hl 3 rfl) ?_
    refine zd_W (as := [.ref o, .int (iZ (q1)), .ref w]) C Z Y G (c_L_period_badc l hlq D cJ o a _ _ _ _ (q1) (by first | assumption | omega) (by first | assumption | omega) w _ _) ml_L_301 ⟨Nat.le_of_ble_eq_true rfl, Nat.le_of_ble_eq_true rfl⟩ ⟨by show cells + 0 + 1 ≤ 665987; omega, by show slots + 0 + 6 ≤ 7103520; omega⟩ hl (Nat.le_of_ble_eq_true rfl) rfl dL_law_2008 (fun H locs G => ?_)
    refine lv_istore (lv' := [(5, .int (iZ (1))), (0, .ref t), (1, .ref o), (2, .ref u), (3, .ref w), (4, .int (iZ (x)))]) C.1 C.2.1 dL_law_2011 hl (by decide) rfl (fun ls hl => ?_)
    refine lv_aload_n C.1 C.2.1 dL_law_2013 rfl (lv_at hl 3 rfl) ?_
    refine lv_aload_n C.1 C.2.1 dL_law_2014 rfl (lv_at hl 1 rfl) ?_
    refine lv_iload C.1 C.2.1 dL_law_2015 (lv_at hl 5 rfl) ?_
    refine z_iconst C dL_law_2017 ?_
    refine z_iadd C dL_law_2018 ?_
    refine zd_ld C Z G q1 (x.toNat + 1) e1 (by omega) (by omega) dL_law_2019 ?_
    refine zd_M (as := [.int (iZ (q1))]) C Y G (c_X5_period_bad1 l D cJ u v _ _ _ _ _ (q1) (by first | assumption | omega) (by first | assumption | omega)) ml_L_303 rfl ⟨Nat.le_of_ble_eq_true rfl, Nat.le_of_ble_eq_true rfl⟩ ⟨by show cells + 1 + 0 ≤ 665987; omega, by show slots + 6 + 0 ≤ 7103520; omega⟩ hl (Nat.le_of_ble_eq_true rfl) rfl dL_law_2020 (fun y9 H locs hy9 G => ?_)
    subst hy9
    refine lv_istore (lv' := [(6, _), (5, .int (iZ (1))), (0, .ref t), (1, .ref o), (2, .ref u), (3, .ref w), (4, .int (iZ (x)))]) C.1 C.2.1 dL_law_2023 hl (by decide) rfl (fun ls hl => ?_)
    refine lv_goto (tgt := 2207) C.1 C.2.1 dL_law_2025 (by decide) ?_
    exact kk _ _ _ _ _ _ _ _ _ _ _ _ G (by omega) (by omega) (lv_sub hl [2, 3, 4, 5, 6] rfl)
set_option maxHeartbeats 4000000 in
set_option maxRecDepth 100000 in
theorem lk_40 (hlq : l.stackTraces = false) (C : CallFix p m c0 cL_law 7 s args T0 RL) (Z : zLw D cB t N g s) (Y : zAd o a u v w s) {c : Nat → Nat} {ac re kn : Int32} {th : Int} {n : Int64} {sv : Value} {H : Heap} {locs : List Loc} {ls : Array Slot} {cells slots : Nat} (G : zG D cJ o a u v w c [.int ac, .int re, .int kn] c [.int (iZ th), .int ac, .int re, .int kn] n sv s H locs) (x : Int) (hx : 0 ≤ x ∧ x + 5 ≤ (N : Int)) (hf : cells + 150 ≤ 665987 ∧ slots + 75000 ≤ 7103520) (hl : lv_has ls 7 [(0, .ref t), (1, .ref o), (2, .ref u), (3, .ref w), (4, .int (iZ (x)))])
    (kk : zNx p l e s m args below meth c0 D cJ t o a u v w x cells slots Qw 2207) : W p l e room_1 s m args below meth c0 H locs cells slots Qw (F0 m 2028 ls []) := by
  have hc := G.1.2.2.2
  obtain ⟨q1, e1⟩ : ∃ z, g (x.toNat + 1) = z := ⟨_, rfl⟩
  have r1 : -2147483648 ≤ q1 ∧ q1 ≤ 2147483647 := e1 ▸ Z.2.2.2.2.2.1 _
  by_cases hrng : (1 ≤ q1 ∧ q1 ≤ 8)
  · skip
    refine lv_aload_n C.1 C.2.1 dL_law_2028 rfl (lv_at hl 1 rfl) ?_
    refine lv_aload_n C.1 C.2.1 dL_law_2029 rfl (lv_at hl 0 rfl) ?_
    refine lv_iload C.1 C.2.1 dL_law_2030 (lv_at hl 4 rfl) ?_
    refine z_iconst C dL_law_2032 ?_
    refine z_iadd C dL_law_2033 ?_
    refine zd_ld C Z G q1 (x.toNat + 1) e1 (by omega) (by omega) dL_law_2034 ?_
    refine lv_aload_n C.1 C.2.1 dL_law_2035 rfl (lv_at hl 3 rfl) ?_
    refine zd_W (as := [.ref o, .int (iZ (q1)), .ref w]) C Z Y G (c_L_many l D cJ o a _ _ _ _ (q1) (by first | assumption | omega) w _ _) ml_L_304 ⟨Nat.le_of_ble_eq_true rfl, Nat.le_of_ble_eq_true rfl⟩ ⟨by show cells + 0 + 0 ≤ 665987; omega, by show slots + 0 + 0 ≤ 7103520; omega⟩ hl (Nat.le_of_ble_eq_true rfl) rfl dL_law_2036 (fun H locs G => ?_)
    refine lv_istore (lv' := [(5, .int (iZ (0))), (0, .ref t), (1, .ref o), (2, .ref u), (3, .ref w), (4, .int (iZ (x)))]) C.1 C.2.1 dL_law_2039 hl (by decide) rfl (fun ls hl => ?_)
    refine lv_aload_n C.1 C.2.1 dL_law_2041 rfl (lv_at hl 3 rfl) ?_
    refine lv_aload_n C.1 C.2.1 dL_law_2042 rfl (lv_at hl 1 rfl) ?_
    refine lv_iload C.1 C.2.1 dL_law_2043 (lv_at hl 5 rfl) ?_
    refine z_iconst C dL_law_2045 ?_
    refine z_iadd C dL_law_2046 ?_
    refine zd_ld C Z G q1 (x.toNat + 1) e1 (by omega) (by omega) dL_law_2047 ?_
    refine zd_M (as := [.int (iZ (q1))]) C Y G (c_X5_many l D cJ u v _ _ _ _ _ (q1) (by first | assumption | omega)) ml_L_306 rfl ⟨Nat.le_of_ble_eq_true rfl, Nat.le_of_ble_eq_true rfl⟩ ⟨by show cells + 0 + 0 ≤ 665987; omega, by show slots + 0 + 0 ≤ 7103520; omega⟩ hl (Nat.le_of_ble_eq_true rfl) rfl dL_law_2048 (fun y9 H locs hy9 G => ?_)
    subst hy9
    refine lv_istore (lv' := [(6, _), (5, .int (iZ (0))), (0, .ref t), (1, .ref o), (2, .ref u), (3, .ref w), (4, .int (iZ (x)))]) C.1 C.2.1 dL_law_2051 hl (by decide) rfl (fun ls hl => ?_)
    refine lv_goto (tgt := 2207) C.1 C.2.1 dL_law_2053 (by decide) ?_
    exact kk _ _ _ _ _ _ _ _ _ _ _ _ G (by omega) (by omega) (lv_sub hl [2, 3, 4, 5, 6] rfl)
  · skip
    refine lv_aload_n C.1 C.2.1 dL_law_2028 rfl (lv_at hl 1 rfl) ?_
    refine lv_aload_n C.1 C.2.1 dL_law_2029 rfl (lv_at hl 0 rfl) ?_
    refine lv_iload C.1 C.2.1 dL_law_2030 (lv_at hl 4 rfl) ?_
    refine z_iconst C dL_law_2032 ?_
    refine z_iadd C dL_law_2033 ?_
    refine zd_ld C Z G q1 (x.toNat + 1) e1 (by omega) (by omega) dL_law_2034 ?_
    refine lv_aload_n C.1 C.2.1 dL_law_2035 rfl (lv_at hl 3 rfl) ?_
    refine zd_W (as := [.ref o, .int (iZ (q1)), .ref w]) C Z Y G (c_L_many_badr l hlq D cJ o a _ _ _ _ (q1) (by first | assumption | omega) (by first | assumption | omega) w _ _) ml_L_304 ⟨Nat.le_of_ble_eq_true rfl, Nat.le_of_ble_eq_true rfl⟩ ⟨by show cells + 0 + 1 ≤ 665987; omega, by show slots + 0 + 6 ≤ 7103520; omega⟩ hl (Nat.le_of_ble_eq_true rfl) rfl dL_law_2036 (fun H locs G => ?_)
    refine lv_istore (lv' := [(5, .int (iZ (1))), (0, .ref t), (1, .ref o), (2, .ref u), (3, .ref w), (4, .int (iZ (x)))]) C.1 C.2.1 dL_law_2039 hl (by decide) rfl (fun ls hl => ?_)
    refine lv_aload_n C.1 C.2.1 dL_law_2041 rfl (lv_at hl 3 rfl) ?_
    refine lv_aload_n C.1 C.2.1 dL_law_2042 rfl (lv_at hl 1 rfl) ?_
    refine lv_iload C.1 C.2.1 dL_law_2043 (lv_at hl 5 rfl) ?_
    refine z_iconst C dL_law_2045 ?_
    refine z_iadd C dL_law_2046 ?_
    refine zd_ld C Z G q1 (x.toNat + 1) e1 (by omega) (by omega) dL_law_2047 ?_
    refine zd_M (as := [.int (iZ (q1))]) C Y G (c_X5_many_bad1 l D cJ u v _ _ _ _ _ (q1) (by first | assumption | omega) (by first | assumption | omega)) ml_L_306 rfl ⟨Nat.le_of_ble_eq_true rfl, Nat.le_of_ble_eq_true rfl⟩ ⟨by show cells + 1 + 0 ≤ 665987; omega, by show slots + 6 + 0 ≤ 7103520; omega⟩ hl (Nat.le_of_ble_eq_true rfl) rfl dL_law_2048 (fun y9 H locs hy9 G => ?_)
    subst hy9
    refine lv_istore (lv' := [(6, _), (5, .int (iZ (1))), (0, .ref t), (1, .ref o), (2, .ref u), (3, .ref w), (4, .int (iZ (x)))]) C.1 C.2.1 dL_law_2051 hl (by decide) rfl (fun ls hl => ?_)
    refine lv_goto (tgt := 2207) C.1 C.2.1 dL_law_2053 (by decide) ?_
    exact kk _ _ _ _ _ _ _ _ _ _ _ _ G (by omega) (by omega) (lv_sub hl [2, 3, 4, 5, 6] rfl)
set_option maxHeartbeats 4000000 in
set_option maxRecDepth 100000 in
theorem lk_41 (hlq : l.stackTraces = false) (C : CallFix p m c0 cL_law 7 s args T0 RL) (Z : zLw D cB t N g s) (Y : zAd o a u v w s) {c : Nat → Nat} {ac re kn : Int32} {th : Int} {n : Int64} {sv : Value} {H : Heap} {locs : List Loc} {ls : Array Slot} {cells slots : Nat} (G : zG D cJ o a u v w c [.int ac, .int re, .int kn] c [.int (iZ th), .int ac, .int re, .int kn] n sv s H locs) (x : Int) (hx : 0 ≤ x ∧ x + 5 ≤ (N : Int)) (hf : cells + 150 ≤ 665987 ∧ slots + 75000 ≤ 7103520) (hl : lv_has ls 7 [(0, .ref t), (1, .ref o), (2, .ref u), (3, .ref w), (4, .int (iZ (x)))])
    (kk : zNx p l e s m args below meth c0 D cJ t o a u v w x cells slots Qw 2207) : W p l e room_1 s m args below meth c0 H locs cells slots Qw (F0 m 2056 ls []) := by
  have hc := G.1.2.2.2
  obtain ⟨q1, e1⟩ : ∃ z, g (x.toNat + 1) = z := ⟨_, rfl⟩
  have r1 : -2147483648 ≤ q1 ∧ q1 ≤ 2147483647 := e1 ▸ Z.2.2.2.2.2.1 _
  by_cases hrng : (1 ≤ q1 ∧ q1 ≤ 8)
  · skip
    refine lv_aload_n C.1 C.2.1 dL_law_2056 rfl (lv_at hl 1 rfl) ?_
    refine lv_aload_n C.1 C.2.1 dL_law_2057 rfl (lv_at hl 0 rfl) ?_
    refine lv_iload C.1 C.2.1 dL_law_2058 (lv_at hl 4 rfl) ?_
    refine z_iconst C dL_law_2060 ?_
    refine z_iadd C dL_law_2061 ?_
    refine zd_ld C Z G q1 (x.toNat + 1) e1 (by omega) (by omega) dL_law_2062 ?_
    refine lv_aload_n C.1 C.2.1 dL_law_2063 rfl (lv_at hl 3 rfl) ?_
    refine zd_W (as := [.ref o, .int (iZ (q1)), .ref w]) C Z Y G (c_L_formula l D cJ o a _ _ _ _ (q1) (by first | assumption | omega) w _ _) ml_L_307 ⟨Nat.le_of_ble_eq_true rfl, Nat.le_of_ble_eq_true rfl⟩ ⟨by show cells + 0 + 0 ≤ 665987; omega, by show slots + 0 + 0 ≤ 7103520; omega⟩ hl (Nat.le_of_ble_eq_true rfl) rfl dL_law_2064 (fun H locs G => ?_)
    refine lv_istore (lv' := [(5, .int (iZ (0))), (0, .ref t), (1, .ref o), (2, .ref u), (3, .ref w), (4, .int (iZ (x)))]) C.1 C.2.1 dL_law_2067 hl (by decide) rfl (fun ls hl => ?_)
    refine lv_aload_n C.1 C.2.1 dL_law_2069 rfl (lv_at hl 3 rfl) ?_
    refine lv_aload_n C.1 C.2.1 dL_law_2070 rfl (lv_at hl 1 rfl) ?_
    refine lv_iload C.1 C.2.1 dL_law_2071 (lv_at hl 5 rfl) ?_
    refine z_iconst C dL_law_2073 ?_
    refine z_iadd C dL_law_2074 ?_
    refine zd_ld C Z G q1 (x.toNat + 1) e1 (by omega) (by omega) dL_law_2075 ?_
    refine zd_MV (as := [.int (iZ (q1))]) C Z Y G (c_X5_formula l D cB cJ u v _ _ _ _ _ (q1) (by first | assumption | omega)) ml_L_309 rfl ⟨Nat.le_of_ble_eq_true rfl, Nat.le_of_ble_eq_true rfl⟩ ⟨by show cells + 0 + 0 ≤ 665987; omega, by show slots + 0 + 0 ≤ 7103520; omega⟩ hl (Nat.le_of_ble_eq_true rfl) rfl dL_law_2076 (fun y9 H locs hy9 G => ?_)
    subst hy9
    refine lv_istore (lv' := [(6, _), (5, .int (iZ (0))), (0, .ref t), (1, .ref o), (2, .ref u), (3, .ref w), (4, .int (iZ (x)))]) C.1 C.2.1 dL_law_2079 hl (by decide) rfl (fun ls hl => ?_)
    refine lv_goto (tgt := 2207) C.1 C.2.1 dL_law_2081 (by decide) ?_
    exact kk _ _ _ _ _ _ _ _ _ _ _ _ G (by omega) (by omega) (lv_sub hl [2, 3, 4, 5, 6] rfl)
  · skip
    refine lv_aload_n C.1 C.2.1 dL_law_2056 rfl (lv_at hl 1 rfl) ?_
    refine lv_aload_n C.1 C.2.1 dL_law_2057 rfl (lv_at hl 0 rfl) ?_
    refine lv_iload C.1 C.2.1 dL_law_2058 (lv_at hl 4 rfl) ?_
    refine z_iconst C dL_law_2060 ?_
    refine z_iadd C dL_law_2061 ?_
    refine zd_ld C Z G q1 (x.toNat + 1) e1 (by omega) (by omega) dL_law_2062 ?_
    refine lv_aload_n C.1 C.2.1 dL_law_2063 rfl (lv_at hl 3 rfl) ?_
    refine zd_W (as := [.ref o, .int (iZ (q1)), .ref w]) C Z Y G (c_L_formula_badr l hlq D cJ o a _ _ _ _ (q1) (by first | assumption | omega) (by first | assumption | omega) w _ _) ml_L_307 ⟨Nat.le_of_ble_eq_true rfl, Nat.le_of_ble_eq_true rfl⟩ ⟨by show cells + 0 + 1 ≤ 665987; omega, by show slots + 0 + 6 ≤ 7103520; omega⟩ hl (Nat.le_of_ble_eq_true rfl) rfl dL_law_2064 (fun H locs G => ?_)
    refine lv_istore (lv' := [(5, .int (iZ (1))), (0, .ref t), (1, .ref o), (2, .ref u), (3, .ref w), (4, .int (iZ (x)))]) C.1 C.2.1 dL_law_2067 hl (by decide) rfl (fun ls hl => ?_)
    refine lv_aload_n C.1 C.2.1 dL_law_2069 rfl (lv_at hl 3 rfl) ?_
    refine lv_aload_n C.1 C.2.1 dL_law_2070 rfl (lv_at hl 1 rfl) ?_
    refine lv_iload C.1 C.2.1 dL_law_2071 (lv_at hl 5 rfl) ?_
    refine z_iconst C dL_law_2073 ?_
    refine z_iadd C dL_law_2074 ?_
    refine zd_ld C Z G q1 (x.toNat + 1) e1 (by omega) (by omega) dL_law_2075 ?_
    refine zd_M (as := [.int (iZ (q1))]) C Y G (c_X5_formula_bad1 l D cJ u v _ _ _ _ _ (q1) (by first | assumption | omega) (by first | assumption | omega)) ml_L_309 rfl ⟨Nat.le_of_ble_eq_true rfl, Nat.le_of_ble_eq_true rfl⟩ ⟨by show cells + 1 + 0 ≤ 665987; omega, by show slots + 6 + 0 ≤ 7103520; omega⟩ hl (Nat.le_of_ble_eq_true rfl) rfl dL_law_2076 (fun y9 H locs hy9 G => ?_)
    subst hy9
    refine lv_istore (lv' := [(6, _), (5, .int (iZ (1))), (0, .ref t), (1, .ref o), (2, .ref u), (3, .ref w), (4, .int (iZ (x)))]) C.1 C.2.1 dL_law_2079 hl (by decide) rfl (fun ls hl => ?_)
    refine lv_goto (tgt := 2207) C.1 C.2.1 dL_law_2081 (by decide) ?_
    exact kk _ _ _ _ _ _ _ _ _ _ _ _ G (by omega) (by omega) (lv_sub hl [2, 3, 4, 5, 6] rfl)
set_option maxHeartbeats 4000000 in
set_option maxRecDepth 100000 in
theorem lk_42 (hlq : l.stackTraces = false) (C : CallFix p m c0 cL_law 7 s args T0 RL) (Z : zLw D cB t N g s) (Y : zAd o a u v w s) {c : Nat → Nat} {ac re kn : Int32} {th : Int} {n : Int64} {sv : Value} {H : Heap} {locs : List Loc} {ls : Array Slot} {cells slots : Nat} (G : zG D cJ o a u v w c [.int ac, .int re, .int kn] c [.int (iZ th), .int ac, .int re, .int kn] n sv s H locs) (x : Int) (hx : 0 ≤ x ∧ x + 5 ≤ (N : Int)) (hf : cells + 150 ≤ 665987 ∧ slots + 75000 ≤ 7103520) (hl : lv_has ls 7 [(0, .ref t), (1, .ref o), (2, .ref u), (3, .ref w), (4, .int (iZ (x)))])
    (kk : zNx p l e s m args below meth c0 D cJ t o a u v w x cells slots Qw 2207) : W p l e room_1 s m args below meth c0 H locs cells slots Qw (F0 m 2084 ls []) := by
  have hc := G.1.2.2.2
  obtain ⟨q1, e1⟩ : ∃ z, g (x.toNat + 1) = z := ⟨_, rfl⟩
  have r1 : -2147483648 ≤ q1 ∧ q1 ≤ 2147483647 := e1 ▸ Z.2.2.2.2.2.1 _
  obtain ⟨q2, e2⟩ : ∃ z, g (x.toNat + 2) = z := ⟨_, rfl⟩
  have r2 : -2147483648 ≤ q2 ∧ q2 ≤ 2147483647 := e2 ▸ Z.2.2.2.2.2.1 _
  by_cases hcel : (0 ≤ q1 ∧ q1 ≤ 5)
  · skip
    refine lv_aload_n C.1 C.2.1 dL_law_2084 rfl (lv_at hl 1 rfl) ?_
    refine lv_aload_n C.1 C.2.1 dL_law_2085 rfl (lv_at hl 0 rfl) ?_
    refine lv_iload C.1 C.2.1 dL_law_2086 (lv_at hl 4 rfl) ?_
    refine z_iconst C dL_law_2088 ?_
    refine z_iadd C dL_law_2089 ?_
    refine zd_ld C Z G q1 (x.toNat + 1) e1 (by omega) (by omega) dL_law_2090 ?_
    refine lv_aload_n C.1 C.2.1 dL_law_2091 rfl (lv_at hl 0 rfl) ?_
    refine lv_iload C.1 C.2.1 dL_law_2092 (lv_at hl 4 rfl) ?_
    refine z_iconst C dL_law_2094 ?_
    refine z_iadd C dL_law_2095 ?_
    refine zd_ld C Z G q2 (x.toNat + 2) e2 (by omega) (by omega) dL_law_2096 ?_
    refine zd_nz C (by omega) dL_law_2097 dL_law_2100 dL_law_2101 dL_law_2104 ?_
    refine lv_aload_n C.1 C.2.1 dL_law_2105 rfl (lv_at hl 3 rfl) ?_
    refine zd_W (as := [.ref o, .int (iZ (q1)), .int (iZ (zB (decide (q2 ≠ 0)))), .ref w]) C Z Y G (c_L_find l D cJ o a _ _ _ _ (q1) (decide (q2 ≠ 0)) (by first | assumption | omega) w _ _) ml_L_310 ⟨Nat.le_of_ble_eq_true rfl, Nat.le_of_ble_eq_true rfl⟩ ⟨by show cells + 0 + 0 ≤ 665987; omega, by show slots + 0 + 0 ≤ 7103520; omega⟩ hl (Nat.le_of_ble_eq_true rfl) rfl dL_law_2106 (fun H locs G => ?_)
    refine lv_istore (lv' := [(5, .int (iZ (0))), (0, .ref t), (1, .ref o), (2, .ref u), (3, .ref w), (4, .int (iZ (x)))]) C.1 C.2.1 dL_law_2109 hl (by decide) rfl (fun ls hl => ?_)
    refine lv_aload_n C.1 C.2.1 dL_law_2111 rfl (lv_at hl 3 rfl) ?_
    refine lv_aload_n C.1 C.2.1 dL_law_2112 rfl (lv_at hl 1 rfl) ?_
    refine lv_iload C.1 C.2.1 dL_law_2113 (lv_at hl 5 rfl) ?_
    refine z_iconst C dL_law_2115 ?_
    refine z_iadd C dL_law_2116 ?_
    refine zd_ld C Z G q1 (x.toNat + 1) e1 (by omega) (by omega) dL_law_2117 ?_
    refine lv_aload_n C.1 C.2.1 dL_law_2118 rfl (lv_at hl 1 rfl) ?_
    refine lv_iload C.1 C.2.1 dL_law_2119 (lv_at hl 5 rfl) ?_
    refine z_iconst C dL_law_2121 ?_
    refine z_iadd C dL_law_2122 ?_
    refine zd_ld C Z G q2 (x.toNat + 2) e2 (by omega) (by omega) dL_law_2123 ?_
    refine zd_nz C (by omega) dL_law_2124 dL_law_2127 dL_law_2128 dL_law_2131 ?_
    refine zd_M (as := [.int (iZ (q1)), .int (iZ (zB (decide (q2 ≠ 0))))]) C Y G (c_X5_find l D cJ u v _ _ _ _ _ (q1) (decide (q2 ≠ 0)) (by first | assumption | omega)) ml_L_312 rfl ⟨Nat.le_of_ble_eq_true rfl, Nat.le_of_ble_eq_true rfl⟩ ⟨by show cells + 0 + 0 ≤ 665987; omega, by show slots + 0 + 0 ≤ 7103520; omega⟩ hl (Nat.le_of_ble_eq_true rfl) rfl dL_law_2132 (fun y9 H locs hy9 G => ?_)
    subst hy9
    refine lv_istore (lv' := [(6, _), (5, .int (iZ (0))), (0, .ref t), (1, .ref o), (2, .ref u), (3, .ref w), (4, .int (iZ (x)))]) C.1 C.2.1 dL_law_2135 hl (by decide) rfl (fun ls hl => ?_)
    refine lv_goto (tgt := 2207) C.1 C.2.1 dL_law_2137 (by decide) ?_
    exact kk _ _ _ _ _ _ _ _ _ _ _ _ G (by omega) (by omega) (lv_sub hl [2, 3, 4, 5, 6] rfl)
  · skip
    refine lv_aload_n C.1 C.2.1 dL_law_2084 rfl (lv_at hl 1 rfl) ?_
    refine lv_aload_n C.1 C.2.1 dL_law_2085 rfl (lv_at hl 0 rfl) ?_
    refine lv_iload C.1 C.2.1 dL_law_2086 (lv_at hl 4 rfl) ?_
    refine z_iconst C dL_law_2088 ?_
    refine z_iadd C dL_law_2089 ?_
    refine zd_ld C Z G q1 (x.toNat + 1) e1 (by omega) (by omega) dL_law_2090 ?_
    refine lv_aload_n C.1 C.2.1 dL_law_2091 rfl (lv_at hl 0 rfl) ?_
    refine lv_iload C.1 C.2.1 dL_law_2092 (lv_at hl 4 rfl) ?_
    refine z_iconst C dL_law_2094 ?_
    refine z_iadd C dL_law_2095 ?_
    refine zd_ld C Z G q2 (x.toNat + 2) e2 (by omega) (by omega) dL_law_2096 ?_
    refine zd_nz C (by omega) dL_law_2097 dL_law_2100 dL_law_2101 dL_law_2104 ?_
    refine lv_aload_n C.1 C.2.1 dL_law_2105 rfl (lv_at hl 3 rfl) ?_
    refine zd_W (as := [.ref o, .int (iZ (q1)), .int (iZ (zB (decide (q2 ≠ 0)))), .ref w]) C Z Y G (c_L_find_badc l hlq D cJ o a _ _ _ _ (q1) (decide (q2 ≠ 0)) (by first | assumption | omega) (by first | assumption | omega) w _ _) ml_L_310 ⟨Nat.le_of_ble_eq_true rfl, Nat.le_of_ble_eq_true rfl⟩ ⟨by show cells + 0 + 1 ≤ 665987; omega, by show slots + 0 + 6 ≤ 7103520; omega⟩ hl (Nat.le_of_ble_eq_true rfl) rfl dL_law_2106 (fun H locs G => ?_)
    refine lv_istore (lv' := [(5, .int (iZ (1))), (0, .ref t), (1, .ref o), (2, .ref u), (3, .ref w), (4, .int (iZ (x)))]) C.1 C.2.1 dL_law_2109 hl (by decide) rfl (fun ls hl => ?_)
    refine lv_aload_n C.1 C.2.1 dL_law_2111 rfl (lv_at hl 3 rfl) ?_
    refine lv_aload_n C.1 C.2.1 dL_law_2112 rfl (lv_at hl 1 rfl) ?_
    refine lv_iload C.1 C.2.1 dL_law_2113 (lv_at hl 5 rfl) ?_
    refine z_iconst C dL_law_2115 ?_
    refine z_iadd C dL_law_2116 ?_
    refine zd_ld C Z G q1 (x.toNat + 1) e1 (by omega) (by omega) dL_law_2117 ?_
    refine lv_aload_n C.1 C.2.1 dL_law_2118 rfl (lv_at hl 1 rfl) ?_
    refine lv_iload C.1 C.2.1 dL_law_2119 (lv_at hl 5 rfl) ?_
    refine z_iconst C dL_law_2121 ?_
    refine z_iadd C dL_law_2122 ?_
    refine zd_ld C Z G q2 (x.toNat + 2) e2 (by omega) (by omega) dL_law_2123 ?_
    refine zd_nz C (by omega) dL_law_2124 dL_law_2127 dL_law_2128 dL_law_2131 ?_
    refine zd_M (as := [.int (iZ (q1)), .int (iZ (zB (decide (q2 ≠ 0))))]) C Y G (c_X5_find_bad1 l D cJ u v _ _ _ _ _ (q1) (decide (q2 ≠ 0)) (by first | assumption | omega) (by first | assumption | omega)) ml_L_312 rfl ⟨Nat.le_of_ble_eq_true rfl, Nat.le_of_ble_eq_true rfl⟩ ⟨by show cells + 1 + 0 ≤ 665987; omega, by show slots + 6 + 0 ≤ 7103520; omega⟩ hl (Nat.le_of_ble_eq_true rfl) rfl dL_law_2132 (fun y9 H locs hy9 G => ?_)
    subst hy9
    refine lv_istore (lv' := [(6, _), (5, .int (iZ (1))), (0, .ref t), (1, .ref o), (2, .ref u), (3, .ref w), (4, .int (iZ (x)))]) C.1 C.2.1 dL_law_2135 hl (by decide) rfl (fun ls hl => ?_)
    refine lv_goto (tgt := 2207) C.1 C.2.1 dL_law_2137 (by decide) ?_
    exact kk _ _ _ _ _ _ _ _ _ _ _ _ G (by omega) (by omega) (lv_sub hl [2, 3, 4, 5, 6] rfl)
set_option maxHeartbeats 4000000 in
set_option maxRecDepth 100000 in
theorem lk_43 (hlq : l.stackTraces = false) (C : CallFix p m c0 cL_law 7 s args T0 RL) (Z : zLw D cB t N g s) (Y : zAd o a u v w s) {c : Nat → Nat} {ac re kn : Int32} {th : Int} {n : Int64} {sv : Value} {H : Heap} {locs : List Loc} {ls : Array Slot} {cells slots : Nat} (G : zG D cJ o a u v w c [.int ac, .int re, .int kn] c [.int (iZ th), .int ac, .int re, .int kn] n sv s H locs) (x : Int) (hx : 0 ≤ x ∧ x + 5 ≤ (N : Int)) (hf : cells + 150 ≤ 665987 ∧ slots + 75000 ≤ 7103520) (hl : lv_has ls 7 [(0, .ref t), (1, .ref o), (2, .ref u), (3, .ref w), (4, .int (iZ (x)))])
    (kk : zNx p l e s m args below meth c0 D cJ t o a u v w x cells slots Qw 2207) : W p l e room_1 s m args below meth c0 H locs cells slots Qw (F0 m 2140 ls []) := by
  have hc := G.1.2.2.2
  obtain ⟨q1, e1⟩ : ∃ z, g (x.toNat + 1) = z := ⟨_, rfl⟩
  have r1 : -2147483648 ≤ q1 ∧ q1 ≤ 2147483647 := e1 ▸ Z.2.2.2.2.2.1 _
  by_cases hrng : (0 ≤ q1 ∧ q1 ≤ 4)
  · skip
    refine lv_aload_n C.1 C.2.1 dL_law_2140 rfl (lv_at hl 1 rfl) ?_
    refine lv_aload_n C.1 C.2.1 dL_law_2141 rfl (lv_at hl 0 rfl) ?_
    refine lv_iload C.1 C.2.1 dL_law_2142 (lv_at hl 4 rfl) ?_
    refine z_iconst C dL_law_2144 ?_
    refine z_iadd C dL_law_2145 ?_
    refine zd_ld C Z G q1 (x.toNat + 1) e1 (by omega) (by omega) dL_law_2146 ?_
    refine lv_aload_n C.1 C.2.1 dL_law_2147 rfl (lv_at hl 3 rfl) ?_
    refine zd_W (as := [.ref o, .int (iZ (q1)), .ref w]) C Z Y G (c_L_house l D cJ o a _ _ _ _ (q1) (by first | assumption | omega) w _ _) ml_L_313 ⟨Nat.le_of_ble_eq_true rfl, Nat.le_of_ble_eq_true rfl⟩ ⟨by show cells + 0 + 0 ≤ 665987; omega, by show slots + 0 + 0 ≤ 7103520; omega⟩ hl (Nat.le_of_ble_eq_true rfl) rfl dL_law_2148 (fun H locs G => ?_)
    refine lv_istore (lv' := [(5, .int (iZ (0))), (0, .ref t), (1, .ref o), (2, .ref u), (3, .ref w), (4, .int (iZ (x)))]) C.1 C.2.1 dL_law_2151 hl (by decide) rfl (fun ls hl => ?_)
    refine lv_aload_n C.1 C.2.1 dL_law_2153 rfl (lv_at hl 3 rfl) ?_
    refine lv_aload_n C.1 C.2.1 dL_law_2154 rfl (lv_at hl 1 rfl) ?_
    refine lv_iload C.1 C.2.1 dL_law_2155 (lv_at hl 5 rfl) ?_
    refine z_iconst C dL_law_2157 ?_
    refine z_iadd C dL_law_2158 ?_
    refine zd_ld C Z G q1 (x.toNat + 1) e1 (by omega) (by omega) dL_law_2159 ?_
    refine zd_M (as := [.int (iZ (q1))]) C Y G (c_X5_house l D cJ u v _ _ _ _ _ (q1) (by first | assumption | omega)) ml_L_315 rfl ⟨Nat.le_of_ble_eq_true rfl, Nat.le_of_ble_eq_true rfl⟩ ⟨by show cells + 0 + 0 ≤ 665987; omega, by show slots + 0 + 0 ≤ 7103520; omega⟩ hl (Nat.le_of_ble_eq_true rfl) rfl dL_law_2160 (fun y9 H locs hy9 G => ?_)
    subst hy9
    refine lv_istore (lv' := [(6, _), (5, .int (iZ (0))), (0, .ref t), (1, .ref o), (2, .ref u), (3, .ref w), (4, .int (iZ (x)))]) C.1 C.2.1 dL_law_2163 hl (by decide) rfl (fun ls hl => ?_)
    refine lv_goto (tgt := 2207) C.1 C.2.1 dL_law_2165 (by decide) ?_
    exact kk _ _ _ _ _ _ _ _ _ _ _ _ G (by omega) (by omega) (lv_sub hl [2, 3, 4, 5, 6] rfl)
  · skip
    refine lv_aload_n C.1 C.2.1 dL_law_2140 rfl (lv_at hl 1 rfl) ?_
    refine lv_aload_n C.1 C.2.1 dL_law_2141 rfl (lv_at hl 0 rfl) ?_
    refine lv_iload C.1 C.2.1 dL_law_2142 (lv_at hl 4 rfl) ?_
    refine z_iconst C dL_law_2144 ?_
    refine z_iadd C dL_law_2145 ?_
    refine zd_ld C Z G q1 (x.toNat + 1) e1 (by omega) (by omega) dL_law_2146 ?_
    refine lv_aload_n C.1 C.2.1 dL_law_2147 rfl (lv_at hl 3 rfl) ?_
    refine zd_W (as := [.ref o, .int (iZ (q1)), .ref w]) C Z Y G (c_L_house_badr l hlq D cJ o a _ _ _ _ (q1) (by first | assumption | omega) (by first | assumption | omega) w _ _) ml_L_313 ⟨Nat.le_of_ble_eq_true rfl, Nat.le_of_ble_eq_true rfl⟩ ⟨by show cells + 0 + 1 ≤ 665987; omega, by show slots + 0 + 6 ≤ 7103520; omega⟩ hl (Nat.le_of_ble_eq_true rfl) rfl dL_law_2148 (fun H locs G => ?_)
    refine lv_istore (lv' := [(5, .int (iZ (1))), (0, .ref t), (1, .ref o), (2, .ref u), (3, .ref w), (4, .int (iZ (x)))]) C.1 C.2.1 dL_law_2151 hl (by decide) rfl (fun ls hl => ?_)
    refine lv_aload_n C.1 C.2.1 dL_law_2153 rfl (lv_at hl 3 rfl) ?_
    refine lv_aload_n C.1 C.2.1 dL_law_2154 rfl (lv_at hl 1 rfl) ?_
    refine lv_iload C.1 C.2.1 dL_law_2155 (lv_at hl 5 rfl) ?_
    refine z_iconst C dL_law_2157 ?_
    refine z_iadd C dL_law_2158 ?_
    refine zd_ld C Z G q1 (x.toNat + 1) e1 (by omega) (by omega) dL_law_2159 ?_
    refine zd_M (as := [.int (iZ (q1))]) C Y G (c_X5_house_bad1 l D cJ u v _ _ _ _ _ (q1) (by first | assumption | omega) (by first | assumption | omega)) ml_L_315 rfl ⟨Nat.le_of_ble_eq_true rfl, Nat.le_of_ble_eq_true rfl⟩ ⟨by show cells + 1 + 0 ≤ 665987; omega, by show slots + 6 + 0 ≤ 7103520; omega⟩ hl (Nat.le_of_ble_eq_true rfl) rfl dL_law_2160 (fun y9 H locs hy9 G => ?_)
    subst hy9
    refine lv_istore (lv' := [(6, _), (5, .int (iZ (1))), (0, .ref t), (1, .ref o), (2, .ref u), (3, .ref w), (4, .int (iZ (x)))]) C.1 C.2.1 dL_law_2163 hl (by decide) rfl (fun ls hl => ?_)
    refine lv_goto (tgt := 2207) C.1 C.2.1 dL_law_2165 (by decide) ?_
    exact kk _ _ _ _ _ _ _ _ _ _ _ _ G (by omega) (by omega) (lv_sub hl [2, 3, 4, 5, 6] rfl)
set_option maxHeartbeats 4000000 in
set_option maxRecDepth 100000 in
theorem lk_44 (hlq : l.stackTraces = false) (C : CallFix p m c0 cL_law 7 s args T0 RL) (Z : zLw D cB t N g s) (Y : zAd o a u v w s) {c : Nat → Nat} {ac re kn : Int32} {th : Int} {n : Int64} {sv : Value} {H : Heap} {locs : List Loc} {ls : Array Slot} {cells slots : Nat} (G : zG D cJ o a u v w c [.int ac, .int re, .int kn] c [.int (iZ th), .int ac, .int re, .int kn] n sv s H locs) (x : Int) (hx : 0 ≤ x ∧ x + 5 ≤ (N : Int)) (hf : cells + 150 ≤ 665987 ∧ slots + 75000 ≤ 7103520) (hl : lv_has ls 7 [(0, .ref t), (1, .ref o), (2, .ref u), (3, .ref w), (4, .int (iZ (x)))])
    (kk : zNx p l e s m args below meth c0 D cJ t o a u v w x cells slots Qw 2207) : W p l e room_1 s m args below meth c0 H locs cells slots Qw (F0 m 2168 ls []) := by
  have hc := G.1.2.2.2
  refine lv_aload_n C.1 C.2.1 dL_law_2168 rfl (lv_at hl 1 rfl) ?_
  refine zd_X (as := []) C Y G (c_X3_knock l D cJ o a _ _ _ _) ml_L_316 rfl ⟨Nat.le_of_ble_eq_true rfl, Nat.le_of_ble_eq_true rfl⟩ ⟨by show cells + 0 + 0 ≤ 665987; omega, by show slots + 0 + 0 ≤ 7103520; omega⟩ hl (Nat.le_of_ble_eq_true rfl) rfl dL_law_2169 (fun y9 H locs hy9 G => ?_)
  subst hy9
  refine lv_pop C.1 C.2.1 dL_law_2172 rfl ?_
  refine lv_aload_n C.1 C.2.1 dL_law_2173 rfl (lv_at hl 2 rfl) ?_
  refine zd_M (as := []) C Y G (c_X5_knock l D cJ u v _ _ _ _ _) ml_L_319 rfl ⟨Nat.le_of_ble_eq_true rfl, Nat.le_of_ble_eq_true rfl⟩ ⟨by show cells + 0 + 0 ≤ 665987; omega, by show slots + 0 + 0 ≤ 7103520; omega⟩ hl (Nat.le_of_ble_eq_true rfl) rfl dL_law_2174 (fun y9 H locs hy9 G => ?_)
  subst hy9
  refine lv_pop C.1 C.2.1 dL_law_2177 rfl ?_
  refine lv_goto (tgt := 2207) C.1 C.2.1 dL_law_2178 (by decide) ?_
  exact kk _ _ _ _ _ _ _ _ _ _ _ _ G (by omega) (by omega) (lv_sub hl [0, 1, 2, 3, 4] rfl)
set_option maxHeartbeats 4000000 in
set_option maxRecDepth 100000 in
theorem lk_45 (hlq : l.stackTraces = false) (C : CallFix p m c0 cL_law 7 s args T0 RL) (Z : zLw D cB t N g s) (Y : zAd o a u v w s) {c : Nat → Nat} {ac re kn : Int32} {th : Int} {n : Int64} {sv : Value} {H : Heap} {locs : List Loc} {ls : Array Slot} {cells slots : Nat} (G : zG D cJ o a u v w c [.int ac, .int re, .int kn] c [.int (iZ th), .int ac, .int re, .int kn] n sv s H locs) (x : Int) (hx : 0 ≤ x ∧ x + 5 ≤ (N : Int)) (hf : cells + 150 ≤ 665987 ∧ slots + 75000 ≤ 7103520) (hl : lv_has ls 7 [(0, .ref t), (1, .ref o), (2, .ref u), (3, .ref w), (4, .int (iZ (x)))])
    (kk : zNx p l e s m args below meth c0 D cJ t o a u v w x cells slots Qw 2207) : W p l e room_1 s m args below meth c0 H locs cells slots Qw (F0 m 2181 ls []) := by
  have hc := G.1.2.2.2
  refine lv_aload_n C.1 C.2.1 dL_law_2181 rfl (lv_at hl 1 rfl) ?_
  refine zd_X (as := []) C Y G (c_X3_isSound l D cJ o a _ _ _ _) ml_L_320 rfl ⟨Nat.le_of_ble_eq_true rfl, Nat.le_of_ble_eq_true rfl⟩ ⟨by show cells + 0 + 0 ≤ 665987; omega, by show slots + 0 + 0 ≤ 7103520; omega⟩ hl (Nat.le_of_ble_eq_true rfl) rfl dL_law_2182 (fun y9 H locs hy9 G => ?_)
  subst hy9
  refine lv_pop C.1 C.2.1 dL_law_2185 rfl ?_
  refine lv_aload_n C.1 C.2.1 dL_law_2186 rfl (lv_at hl 2 rfl) ?_
  refine zd_M (as := []) C Y G (c_X5_isSound l D cJ u v _ _ _ _ _) ml_L_324 rfl ⟨Nat.le_of_ble_eq_true rfl, Nat.le_of_ble_eq_true rfl⟩ ⟨by show cells + 0 + 0 ≤ 665987; omega, by show slots + 0 + 0 ≤ 7103520; omega⟩ hl (Nat.le_of_ble_eq_true rfl) rfl dL_law_2187 (fun y9 H locs hy9 G => ?_)
  subst hy9
  refine lv_pop C.1 C.2.1 dL_law_2190 rfl ?_
  refine lv_goto (tgt := 2207) C.1 C.2.1 dL_law_2191 (by decide) ?_
  exact kk _ _ _ _ _ _ _ _ _ _ _ _ G (by omega) (by omega) (lv_sub hl [0, 1, 2, 3, 4] rfl)
set_option maxHeartbeats 4000000 in
set_option maxRecDepth 100000 in
theorem lk_46 (hlq : l.stackTraces = false) (C : CallFix p m c0 cL_law 7 s args T0 RL) (Z : zLw D cB t N g s) (Y : zAd o a u v w s) {c : Nat → Nat} {ac re kn : Int32} {th : Int} {n : Int64} {sv : Value} {H : Heap} {locs : List Loc} {ls : Array Slot} {cells slots : Nat} (G : zG D cJ o a u v w c [.int ac, .int re, .int kn] c [.int (iZ th), .int ac, .int re, .int kn] n sv s H locs) (x : Int) (hx : 0 ≤ x ∧ x + 5 ≤ (N : Int)) (hf : cells + 150 ≤ 665987 ∧ slots + 75000 ≤ 7103520) (hl : lv_has ls 7 [(0, .ref t), (1, .ref o), (2, .ref u), (3, .ref w), (4, .int (iZ (x)))])
    (kk : zNx p l e s m args below meth c0 D cJ t o a u v w x cells slots Qw 2207) : W p l e room_1 s m args below meth c0 H locs cells slots Qw (F0 m 2194 ls []) := by
  have hc := G.1.2.2.2
  refine lv_aload_n C.1 C.2.1 dL_law_2194 rfl (lv_at hl 1 rfl) ?_
  refine zd_X (as := []) C Y G (c_X3_digest l D cJ o a _ _ _ _) ml_L_325 rfl ⟨Nat.le_of_ble_eq_true rfl, Nat.le_of_ble_eq_true rfl⟩ ⟨by show cells + 0 + 0 ≤ 665987; omega, by show slots + 0 + 0 ≤ 7103520; omega⟩ hl (Nat.le_of_ble_eq_true rfl) rfl dL_law_2195 (fun y9 H locs hy9 G => ?_)
  subst hy9
  refine lv_pop2_2 C.1 C.2.1 dL_law_2198 rfl ?_
  refine lv_aload_n C.1 C.2.1 dL_law_2199 rfl (lv_at hl 2 rfl) ?_
  refine zd_M (as := []) C Y G (c_X5_digest l D cJ u v _ _ _ _ _) ml_L_329 rfl ⟨Nat.le_of_ble_eq_true rfl, Nat.le_of_ble_eq_true rfl⟩ ⟨by show cells + 0 + 0 ≤ 665987; omega, by show slots + 0 + 0 ≤ 7103520; omega⟩ hl (Nat.le_of_ble_eq_true rfl) rfl dL_law_2200 (fun y9 H locs hy9 G => ?_)
  subst hy9
  refine lv_pop2_2 C.1 C.2.1 dL_law_2203 rfl ?_
  refine lv_goto (tgt := 2207) C.1 C.2.1 dL_law_2204 (by decide) ?_
  exact kk _ _ _ _ _ _ _ _ _ _ _ _ G (by omega) (by omega) (lv_sub hl [0, 1, 2, 3, 4] rfl)
end LC
