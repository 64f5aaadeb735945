/-! ===== the law's own instructions ===== -/
theorem wtL_law_0 : dwcj cL_law 0 [(0, .new 8, 3), (3, .dup, 1), (4, .invokespecial 166, 3), (7, .astore_n 1, 1), (8, .new 167, 3), (11, .dup, 1), (12, .invokespecial 169, 3), (15, .astore_n 2, 1), (16, .new 14, 3), (19, .dup, 1), (20, .invokespecial 170, 3), (23, .astore_n 3, 1)] := dw_all (l := [187, 0, 8, 89, 183, 0, 166, 76, 187, 0, 167, 89, 183, 0, 169, 77, 187, 0, 14, 89, 183, 0, 170, 78]) (by decide +kernel)
theorem dL_law_0 : decode cL_law 0 = .ok (.new 8, 3) := wtL_law_0.1
theorem dL_law_3 : decode cL_law 3 = .ok (.dup, 1) := wtL_law_0.2.1
theorem dL_law_4 : decode cL_law 4 = .ok (.invokespecial 166, 3) := wtL_law_0.2.2.1
theorem dL_law_7 : decode cL_law 7 = .ok (.astore_n 1, 1) := wtL_law_0.2.2.2.1
theorem dL_law_8 : decode cL_law 8 = .ok (.new 167, 3) := wtL_law_0.2.2.2.2.1
theorem dL_law_11 : decode cL_law 11 = .ok (.dup, 1) := wtL_law_0.2.2.2.2.2.1
theorem dL_law_12 : decode cL_law 12 = .ok (.invokespecial 169, 3) := wtL_law_0.2.2.2.2.2.2.1
theorem dL_law_15 : decode cL_law 15 = .ok (.astore_n 2, 1) := wtL_law_0.2.2.2.2.2.2.2.1
theorem dL_law_16 : decode cL_law 16 = .ok (.new 14, 3) := wtL_law_0.2.2.2.2.2.2.2.2.1
theorem dL_law_19 : decode cL_law 19 = .ok (.dup, 1) := wtL_law_0.2.2.2.2.2.2.2.2.2.1
theorem dL_law_20 : decode cL_law 20 = .ok (.invokespecial 170, 3) := wtL_law_0.2.2.2.2.2.2.2.2.2.2.1
theorem dL_law_23 : decode cL_law 23 = .ok (.astore_n 3, 1) := wtL_law_0.2.2.2.2.2.2.2.2.2.2.2.1
theorem wtL_law_24 : dwcj cL_law 24 [(0, .iconst 0, 1), (1, .istore 4, 2), (3, .iload 4, 2), (5, .aload_n 0, 1), (6, .arraylength, 1), (7, .iconst 5, 1), (8, .isub, 1), (9, .if_icmp .gt 2145, 3), (12, .aload_n 0, 1), (13, .iload 4, 2), (15, .iaload, 1), (16, .bipush 63, 2), (18, .iand, 1)] := dw_all (l := [3, 54, 4, 21, 4, 42, 190, 8, 100, 163, 8, 97, 42, 21, 4, 46, 16, 63, 126]) (by decide +kernel)
theorem dL_law_24 : decode cL_law 24 = .ok (.iconst 0, 1) := wtL_law_24.1
theorem dL_law_25 : decode cL_law 25 = .ok (.istore 4, 2) := wtL_law_24.2.1
theorem dL_law_27 : decode cL_law 27 = .ok (.iload 4, 2) := wtL_law_24.2.2.1
theorem dL_law_29 : decode cL_law 29 = .ok (.aload_n 0, 1) := wtL_law_24.2.2.2.1
theorem dL_law_30 : decode cL_law 30 = .ok (.arraylength, 1) := wtL_law_24.2.2.2.2.1
theorem dL_law_31 : decode cL_law 31 = .ok (.iconst 5, 1) := wtL_law_24.2.2.2.2.2.1
theorem dL_law_32 : decode cL_law 32 = .ok (.isub, 1) := wtL_law_24.2.2.2.2.2.2.1
theorem dL_law_33 : decode cL_law 33 = .ok (.if_icmp .gt 2145, 3) := wtL_law_24.2.2.2.2.2.2.2.1
theorem dL_law_36 : decode cL_law 36 = .ok (.aload_n 0, 1) := wtL_law_24.2.2.2.2.2.2.2.2.1
theorem dL_law_37 : decode cL_law 37 = .ok (.iload 4, 2) := wtL_law_24.2.2.2.2.2.2.2.2.2.1
theorem dL_law_39 : decode cL_law 39 = .ok (.iaload, 1) := wtL_law_24.2.2.2.2.2.2.2.2.2.2.1
theorem dL_law_40 : decode cL_law 40 = .ok (.bipush 63, 2) := wtL_law_24.2.2.2.2.2.2.2.2.2.2.2.1
theorem dL_law_42 : decode cL_law 42 = .ok (.iand, 1) := wtL_law_24.2.2.2.2.2.2.2.2.2.2.2.2.1
theorem dL_law_43 : decode cL_law 43 = .ok (.tableswitch 2129 0 46 #[201, 241, 281, 349, 389, 429, 469, 549, 613, 665, 705, 757, 809, 861, 913, 965, 1045, 1085, 1125, 1165, 1205, 1269, 1321, 1361, 1413, 1441, 1469, 1497, 1537, 1565, 1593, 1633, 1673, 1713, 1769, 1809, 1837, 1865, 1893, 1921, 1949, 1977, 2005, 2061, 2089, 2102, 2115], 201) := by decide +kernel
theorem wtL_law_244 : dwcj cL_law 244 [(0, .aload_n 1, 1), (1, .aload_n 0, 1), (2, .iload 4, 2), (4, .iconst 1, 1), (5, .iadd, 1), (6, .iaload, 1), (7, .aload_n 0, 1), (8, .iload 4, 2), (10, .iconst 2, 1), (11, .iadd, 1), (12, .iaload, 1), (13, .aload_n 3, 1), (14, .invokestatic 171, 3), (17, .istore 5, 2), (19, .aload_n 2, 1), (20, .aload_n 0, 1), (21, .iload 4, 2), (23, .iconst 1, 1)] := dw_all (l := [43, 42, 21, 4, 4, 96, 46, 42, 21, 4, 5, 96, 46, 45, 184, 0, 171, 54, 5, 44, 42, 21, 4, 4]) (by decide +kernel)
theorem dL_law_244 : decode cL_law 244 = .ok (.aload_n 1, 1) := wtL_law_244.1
theorem dL_law_245 : decode cL_law 245 = .ok (.aload_n 0, 1) := wtL_law_244.2.1
theorem dL_law_246 : decode cL_law 246 = .ok (.iload 4, 2) := wtL_law_244.2.2.1
theorem dL_law_248 : decode cL_law 248 = .ok (.iconst 1, 1) := wtL_law_244.2.2.2.1
theorem dL_law_249 : decode cL_law 249 = .ok (.iadd, 1) := wtL_law_244.2.2.2.2.1
theorem dL_law_250 : decode cL_law 250 = .ok (.iaload, 1) := wtL_law_244.2.2.2.2.2.1
theorem dL_law_251 : decode cL_law 251 = .ok (.aload_n 0, 1) := wtL_law_244.2.2.2.2.2.2.1
theorem dL_law_252 : decode cL_law 252 = .ok (.iload 4, 2) := wtL_law_244.2.2.2.2.2.2.2.1
theorem dL_law_254 : decode cL_law 254 = .ok (.iconst 2, 1) := wtL_law_244.2.2.2.2.2.2.2.2.1
theorem dL_law_255 : decode cL_law 255 = .ok (.iadd, 1) := wtL_law_244.2.2.2.2.2.2.2.2.2.1
theorem dL_law_256 : decode cL_law 256 = .ok (.iaload, 1) := wtL_law_244.2.2.2.2.2.2.2.2.2.2.1
theorem dL_law_257 : decode cL_law 257 = .ok (.aload_n 3, 1) := wtL_law_244.2.2.2.2.2.2.2.2.2.2.2.1
theorem dL_law_258 : decode cL_law 258 = .ok (.invokestatic 171, 3) := wtL_law_244.2.2.2.2.2.2.2.2.2.2.2.2.1
theorem dL_law_261 : decode cL_law 261 = .ok (.istore 5, 2) := wtL_law_244.2.2.2.2.2.2.2.2.2.2.2.2.2.1
theorem dL_law_263 : decode cL_law 263 = .ok (.aload_n 2, 1) := wtL_law_244.2.2.2.2.2.2.2.2.2.2.2.2.2.2.1
theorem dL_law_264 : decode cL_law 264 = .ok (.aload_n 0, 1) := wtL_law_244.2.2.2.2.2.2.2.2.2.2.2.2.2.2.2.1
theorem dL_law_265 : decode cL_law 265 = .ok (.iload 4, 2) := wtL_law_244.2.2.2.2.2.2.2.2.2.2.2.2.2.2.2.2.1
theorem dL_law_267 : decode cL_law 267 = .ok (.iconst 1, 1) := wtL_law_244.2.2.2.2.2.2.2.2.2.2.2.2.2.2.2.2.2.1
theorem wtL_law_268 : dwcj cL_law 268 [(0, .iadd, 1), (1, .iaload, 1), (2, .aload_n 0, 1), (3, .iload 4, 2), (5, .iconst 2, 1), (6, .iadd, 1), (7, .iaload, 1), (8, .invokevirtual 176, 3), (11, .istore 6, 2), (13, .goto 1891, 3), (16, .aload_n 1, 1), (17, .aload_n 0, 1), (18, .iload 4, 2), (20, .iconst 1, 1), (21, .iadd, 1), (22, .iaload, 1), (23, .aload_n 0, 1)] := dw_all (l := [96, 46, 42, 21, 4, 5, 96, 46, 182, 0, 176, 54, 6, 167, 7, 99, 43, 42, 21, 4, 4, 96, 46, 42]) (by decide +kernel)
theorem dL_law_268 : decode cL_law 268 = .ok (.iadd, 1) := wtL_law_268.1
theorem dL_law_269 : decode cL_law 269 = .ok (.iaload, 1) := wtL_law_268.2.1
theorem dL_law_270 : decode cL_law 270 = .ok (.aload_n 0, 1) := wtL_law_268.2.2.1
theorem dL_law_271 : decode cL_law 271 = .ok (.iload 4, 2) := wtL_law_268.2.2.2.1
theorem dL_law_273 : decode cL_law 273 = .ok (.iconst 2, 1) := wtL_law_268.2.2.2.2.1
theorem dL_law_274 : decode cL_law 274 = .ok (.iadd, 1) := wtL_law_268.2.2.2.2.2.1
theorem dL_law_275 : decode cL_law 275 = .ok (.iaload, 1) := wtL_law_268.2.2.2.2.2.2.1
theorem dL_law_276 : decode cL_law 276 = .ok (.invokevirtual 176, 3) := wtL_law_268.2.2.2.2.2.2.2.1
theorem dL_law_279 : decode cL_law 279 = .ok (.istore 6, 2) := wtL_law_268.2.2.2.2.2.2.2.2.1
theorem dL_law_281 : decode cL_law 281 = .ok (.goto 1891, 3) := wtL_law_268.2.2.2.2.2.2.2.2.2.1
theorem dL_law_284 : decode cL_law 284 = .ok (.aload_n 1, 1) := wtL_law_268.2.2.2.2.2.2.2.2.2.2.1
theorem dL_law_285 : decode cL_law 285 = .ok (.aload_n 0, 1) := wtL_law_268.2.2.2.2.2.2.2.2.2.2.2.1
theorem dL_law_286 : decode cL_law 286 = .ok (.iload 4, 2) := wtL_law_268.2.2.2.2.2.2.2.2.2.2.2.2.1
theorem dL_law_288 : decode cL_law 288 = .ok (.iconst 1, 1) := wtL_law_268.2.2.2.2.2.2.2.2.2.2.2.2.2.1
theorem dL_law_289 : decode cL_law 289 = .ok (.iadd, 1) := wtL_law_268.2.2.2.2.2.2.2.2.2.2.2.2.2.2.1
theorem dL_law_290 : decode cL_law 290 = .ok (.iaload, 1) := wtL_law_268.2.2.2.2.2.2.2.2.2.2.2.2.2.2.2.1
theorem dL_law_291 : decode cL_law 291 = .ok (.aload_n 0, 1) := wtL_law_268.2.2.2.2.2.2.2.2.2.2.2.2.2.2.2.2.1
theorem wtL_law_292 : dwcj cL_law 292 [(0, .iload 4, 2), (2, .iconst 2, 1), (3, .iadd, 1), (4, .iaload, 1), (5, .aload_n 3, 1), (6, .invokestatic 177, 3), (9, .istore 5, 2), (11, .aload_n 2, 1), (12, .aload_n 0, 1), (13, .iload 4, 2), (15, .iconst 1, 1), (16, .iadd, 1), (17, .iaload, 1), (18, .aload_n 0, 1), (19, .iload 4, 2), (21, .iconst 2, 1), (22, .iadd, 1), (23, .iaload, 1)] := dw_all (l := [21, 4, 5, 96, 46, 45, 184, 0, 177, 54, 5, 44, 42, 21, 4, 4, 96, 46, 42, 21, 4, 5, 96, 46]) (by decide +kernel)
theorem dL_law_292 : decode cL_law 292 = .ok (.iload 4, 2) := wtL_law_292.1
theorem dL_law_294 : decode cL_law 294 = .ok (.iconst 2, 1) := wtL_law_292.2.1
theorem dL_law_295 : decode cL_law 295 = .ok (.iadd, 1) := wtL_law_292.2.2.1
theorem dL_law_296 : decode cL_law 296 = .ok (.iaload, 1) := wtL_law_292.2.2.2.1
theorem dL_law_297 : decode cL_law 297 = .ok (.aload_n 3, 1) := wtL_law_292.2.2.2.2.1
theorem dL_law_298 : decode cL_law 298 = .ok (.invokestatic 177, 3) := wtL_law_292.2.2.2.2.2.1
theorem dL_law_301 : decode cL_law 301 = .ok (.istore 5, 2) := wtL_law_292.2.2.2.2.2.2.1
theorem dL_law_303 : decode cL_law 303 = .ok (.aload_n 2, 1) := wtL_law_292.2.2.2.2.2.2.2.1
theorem dL_law_304 : decode cL_law 304 = .ok (.aload_n 0, 1) := wtL_law_292.2.2.2.2.2.2.2.2.1
theorem dL_law_305 : decode cL_law 305 = .ok (.iload 4, 2) := wtL_law_292.2.2.2.2.2.2.2.2.2.1
theorem dL_law_307 : decode cL_law 307 = .ok (.iconst 1, 1) := wtL_law_292.2.2.2.2.2.2.2.2.2.2.1
theorem dL_law_308 : decode cL_law 308 = .ok (.iadd, 1) := wtL_law_292.2.2.2.2.2.2.2.2.2.2.2.1
theorem dL_law_309 : decode cL_law 309 = .ok (.iaload, 1) := wtL_law_292.2.2.2.2.2.2.2.2.2.2.2.2.1
theorem dL_law_310 : decode cL_law 310 = .ok (.aload_n 0, 1) := wtL_law_292.2.2.2.2.2.2.2.2.2.2.2.2.2.1
theorem dL_law_311 : decode cL_law 311 = .ok (.iload 4, 2) := wtL_law_292.2.2.2.2.2.2.2.2.2.2.2.2.2.2.1
theorem dL_law_313 : decode cL_law 313 = .ok (.iconst 2, 1) := wtL_law_292.2.2.2.2.2.2.2.2.2.2.2.2.2.2.2.1
theorem dL_law_314 : decode cL_law 314 = .ok (.iadd, 1) := wtL_law_292.2.2.2.2.2.2.2.2.2.2.2.2.2.2.2.2.1
theorem dL_law_315 : decode cL_law 315 = .ok (.iaload, 1) := wtL_law_292.2.2.2.2.2.2.2.2.2.2.2.2.2.2.2.2.2.1
theorem wtL_law_316 : dwcj cL_law 316 [(0, .invokevirtual 179, 3), (3, .istore 6, 2), (5, .goto 1851, 3), (8, .aload_n 1, 1), (9, .aload_n 0, 1), (10, .iload 4, 2), (12, .iconst 1, 1), (13, .iadd, 1), (14, .iaload, 1), (15, .aload_n 0, 1), (16, .iload 4, 2), (18, .iconst 2, 1), (19, .iadd, 1), (20, .iaload, 1), (21, .aload_n 0, 1), (22, .iload 4, 2)] := dw_all (l := [182, 0, 179, 54, 6, 167, 7, 59, 43, 42, 21, 4, 4, 96, 46, 42, 21, 4, 5, 96, 46, 42, 21, 4]) (by decide +kernel)
theorem dL_law_316 : decode cL_law 316 = .ok (.invokevirtual 179, 3) := wtL_law_316.1
theorem dL_law_319 : decode cL_law 319 = .ok (.istore 6, 2) := wtL_law_316.2.1
theorem dL_law_321 : decode cL_law 321 = .ok (.goto 1851, 3) := wtL_law_316.2.2.1
theorem dL_law_324 : decode cL_law 324 = .ok (.aload_n 1, 1) := wtL_law_316.2.2.2.1
theorem dL_law_325 : decode cL_law 325 = .ok (.aload_n 0, 1) := wtL_law_316.2.2.2.2.1
theorem dL_law_326 : decode cL_law 326 = .ok (.iload 4, 2) := wtL_law_316.2.2.2.2.2.1
theorem dL_law_328 : decode cL_law 328 = .ok (.iconst 1, 1) := wtL_law_316.2.2.2.2.2.2.1
theorem dL_law_329 : decode cL_law 329 = .ok (.iadd, 1) := wtL_law_316.2.2.2.2.2.2.2.1
theorem dL_law_330 : decode cL_law 330 = .ok (.iaload, 1) := wtL_law_316.2.2.2.2.2.2.2.2.1
theorem dL_law_331 : decode cL_law 331 = .ok (.aload_n 0, 1) := wtL_law_316.2.2.2.2.2.2.2.2.2.1
theorem dL_law_332 : decode cL_law 332 = .ok (.iload 4, 2) := wtL_law_316.2.2.2.2.2.2.2.2.2.2.1
theorem dL_law_334 : decode cL_law 334 = .ok (.iconst 2, 1) := wtL_law_316.2.2.2.2.2.2.2.2.2.2.2.1
theorem dL_law_335 : decode cL_law 335 = .ok (.iadd, 1) := wtL_law_316.2.2.2.2.2.2.2.2.2.2.2.2.1
theorem dL_law_336 : decode cL_law 336 = .ok (.iaload, 1) := wtL_law_316.2.2.2.2.2.2.2.2.2.2.2.2.2.1
theorem dL_law_337 : decode cL_law 337 = .ok (.aload_n 0, 1) := wtL_law_316.2.2.2.2.2.2.2.2.2.2.2.2.2.2.1
theorem dL_law_338 : decode cL_law 338 = .ok (.iload 4, 2) := wtL_law_316.2.2.2.2.2.2.2.2.2.2.2.2.2.2.2.1
theorem wtL_law_340 : dwcj cL_law 340 [(0, .iconst 3, 1), (1, .iadd, 1), (2, .iaload, 1), (3, .ifCond .eq 7, 3), (6, .iconst 1, 1), (7, .goto 4, 3), (10, .iconst 0, 1), (11, .aload_n 3, 1), (12, .invokestatic 180, 3), (15, .istore 5, 2), (17, .aload_n 2, 1), (18, .aload_n 0, 1), (19, .iload 4, 2), (21, .iconst 1, 1), (22, .iadd, 1), (23, .iaload, 1)] := dw_all (l := [6, 96, 46, 153, 0, 7, 4, 167, 0, 4, 3, 45, 184, 0, 180, 54, 5, 44, 42, 21, 4, 4, 96, 46]) (by decide +kernel)
theorem dL_law_340 : decode cL_law 340 = .ok (.iconst 3, 1) := wtL_law_340.1
theorem dL_law_341 : decode cL_law 341 = .ok (.iadd, 1) := wtL_law_340.2.1
theorem dL_law_342 : decode cL_law 342 = .ok (.iaload, 1) := wtL_law_340.2.2.1
theorem dL_law_343 : decode cL_law 343 = .ok (.ifCond .eq 7, 3) := wtL_law_340.2.2.2.1
theorem dL_law_346 : decode cL_law 346 = .ok (.iconst 1, 1) := wtL_law_340.2.2.2.2.1
theorem dL_law_347 : decode cL_law 347 = .ok (.goto 4, 3) := wtL_law_340.2.2.2.2.2.1
theorem dL_law_350 : decode cL_law 350 = .ok (.iconst 0, 1) := wtL_law_340.2.2.2.2.2.2.1
theorem dL_law_351 : decode cL_law 351 = .ok (.aload_n 3, 1) := wtL_law_340.2.2.2.2.2.2.2.1
theorem dL_law_352 : decode cL_law 352 = .ok (.invokestatic 180, 3) := wtL_law_340.2.2.2.2.2.2.2.2.1
theorem dL_law_355 : decode cL_law 355 = .ok (.istore 5, 2) := wtL_law_340.2.2.2.2.2.2.2.2.2.1
theorem dL_law_357 : decode cL_law 357 = .ok (.aload_n 2, 1) := wtL_law_340.2.2.2.2.2.2.2.2.2.2.1
theorem dL_law_358 : decode cL_law 358 = .ok (.aload_n 0, 1) := wtL_law_340.2.2.2.2.2.2.2.2.2.2.2.1
theorem dL_law_359 : decode cL_law 359 = .ok (.iload 4, 2) := wtL_law_340.2.2.2.2.2.2.2.2.2.2.2.2.1
theorem dL_law_361 : decode cL_law 361 = .ok (.iconst 1, 1) := wtL_law_340.2.2.2.2.2.2.2.2.2.2.2.2.2.1
theorem dL_law_362 : decode cL_law 362 = .ok (.iadd, 1) := wtL_law_340.2.2.2.2.2.2.2.2.2.2.2.2.2.2.1
theorem dL_law_363 : decode cL_law 363 = .ok (.iaload, 1) := wtL_law_340.2.2.2.2.2.2.2.2.2.2.2.2.2.2.2.1
theorem wtL_law_364 : dwcj cL_law 364 [(0, .aload_n 0, 1), (1, .iload 4, 2), (3, .iconst 2, 1), (4, .iadd, 1), (5, .iaload, 1), (6, .aload_n 0, 1), (7, .iload 4, 2), (9, .iconst 3, 1), (10, .iadd, 1), (11, .iaload, 1), (12, .ifCond .eq 7, 3), (15, .iconst 1, 1), (16, .goto 4, 3), (19, .iconst 0, 1), (20, .invokevirtual 183, 3), (23, .istore 6, 2)] := dw_all (l := [42, 21, 4, 5, 96, 46, 42, 21, 4, 6, 96, 46, 153, 0, 7, 4, 167, 0, 4, 3, 182, 0, 183, 54, 6]) (by decide +kernel)
theorem dL_law_364 : decode cL_law 364 = .ok (.aload_n 0, 1) := wtL_law_364.1
theorem dL_law_365 : decode cL_law 365 = .ok (.iload 4, 2) := wtL_law_364.2.1
theorem dL_law_367 : decode cL_law 367 = .ok (.iconst 2, 1) := wtL_law_364.2.2.1
theorem dL_law_368 : decode cL_law 368 = .ok (.iadd, 1) := wtL_law_364.2.2.2.1
theorem dL_law_369 : decode cL_law 369 = .ok (.iaload, 1) := wtL_law_364.2.2.2.2.1
theorem dL_law_370 : decode cL_law 370 = .ok (.aload_n 0, 1) := wtL_law_364.2.2.2.2.2.1
theorem dL_law_371 : decode cL_law 371 = .ok (.iload 4, 2) := wtL_law_364.2.2.2.2.2.2.1
theorem dL_law_373 : decode cL_law 373 = .ok (.iconst 3, 1) := wtL_law_364.2.2.2.2.2.2.2.1
theorem dL_law_374 : decode cL_law 374 = .ok (.iadd, 1) := wtL_law_364.2.2.2.2.2.2.2.2.1
theorem dL_law_375 : decode cL_law 375 = .ok (.iaload, 1) := wtL_law_364.2.2.2.2.2.2.2.2.2.1
theorem dL_law_376 : decode cL_law 376 = .ok (.ifCond .eq 7, 3) := wtL_law_364.2.2.2.2.2.2.2.2.2.2.1
theorem dL_law_379 : decode cL_law 379 = .ok (.iconst 1, 1) := wtL_law_364.2.2.2.2.2.2.2.2.2.2.2.1
theorem dL_law_380 : decode cL_law 380 = .ok (.goto 4, 3) := wtL_law_364.2.2.2.2.2.2.2.2.2.2.2.2.1
theorem dL_law_383 : decode cL_law 383 = .ok (.iconst 0, 1) := wtL_law_364.2.2.2.2.2.2.2.2.2.2.2.2.2.1
theorem dL_law_384 : decode cL_law 384 = .ok (.invokevirtual 183, 3) := wtL_law_364.2.2.2.2.2.2.2.2.2.2.2.2.2.2.1
theorem dL_law_387 : decode cL_law 387 = .ok (.istore 6, 2) := wtL_law_364.2.2.2.2.2.2.2.2.2.2.2.2.2.2.2.1
theorem wtL_law_389 : dwcj cL_law 389 [(0, .goto 1783, 3), (3, .aload_n 1, 1), (4, .aload_n 0, 1), (5, .iload 4, 2), (7, .iconst 1, 1), (8, .iadd, 1), (9, .iaload, 1), (10, .aload_n 0, 1), (11, .iload 4, 2), (13, .iconst 2, 1), (14, .iadd, 1), (15, .iaload, 1), (16, .aload_n 3, 1), (17, .invokestatic 184, 3), (20, .istore 5, 2), (22, .aload_n 2, 1), (23, .aload_n 0, 1)] := dw_all (l := [167, 6, 247, 43, 42, 21, 4, 4, 96, 46, 42, 21, 4, 5, 96, 46, 45, 184, 0, 184, 54, 5, 44, 42]) (by decide +kernel)
theorem dL_law_389 : decode cL_law 389 = .ok (.goto 1783, 3) := wtL_law_389.1
theorem dL_law_392 : decode cL_law 392 = .ok (.aload_n 1, 1) := wtL_law_389.2.1
theorem dL_law_393 : decode cL_law 393 = .ok (.aload_n 0, 1) := wtL_law_389.2.2.1
theorem dL_law_394 : decode cL_law 394 = .ok (.iload 4, 2) := wtL_law_389.2.2.2.1
theorem dL_law_396 : decode cL_law 396 = .ok (.iconst 1, 1) := wtL_law_389.2.2.2.2.1
theorem dL_law_397 : decode cL_law 397 = .ok (.iadd, 1) := wtL_law_389.2.2.2.2.2.1
theorem dL_law_398 : decode cL_law 398 = .ok (.iaload, 1) := wtL_law_389.2.2.2.2.2.2.1
theorem dL_law_399 : decode cL_law 399 = .ok (.aload_n 0, 1) := wtL_law_389.2.2.2.2.2.2.2.1
theorem dL_law_400 : decode cL_law 400 = .ok (.iload 4, 2) := wtL_law_389.2.2.2.2.2.2.2.2.1
theorem dL_law_402 : decode cL_law 402 = .ok (.iconst 2, 1) := wtL_law_389.2.2.2.2.2.2.2.2.2.1
theorem dL_law_403 : decode cL_law 403 = .ok (.iadd, 1) := wtL_law_389.2.2.2.2.2.2.2.2.2.2.1
theorem dL_law_404 : decode cL_law 404 = .ok (.iaload, 1) := wtL_law_389.2.2.2.2.2.2.2.2.2.2.2.1
theorem dL_law_405 : decode cL_law 405 = .ok (.aload_n 3, 1) := wtL_law_389.2.2.2.2.2.2.2.2.2.2.2.2.1
theorem dL_law_406 : decode cL_law 406 = .ok (.invokestatic 184, 3) := wtL_law_389.2.2.2.2.2.2.2.2.2.2.2.2.2.1
theorem dL_law_409 : decode cL_law 409 = .ok (.istore 5, 2) := wtL_law_389.2.2.2.2.2.2.2.2.2.2.2.2.2.2.1
theorem dL_law_411 : decode cL_law 411 = .ok (.aload_n 2, 1) := wtL_law_389.2.2.2.2.2.2.2.2.2.2.2.2.2.2.2.1
theorem dL_law_412 : decode cL_law 412 = .ok (.aload_n 0, 1) := wtL_law_389.2.2.2.2.2.2.2.2.2.2.2.2.2.2.2.2.1
theorem wtL_law_413 : dwcj cL_law 413 [(0, .iload 4, 2), (2, .iconst 1, 1), (3, .iadd, 1), (4, .iaload, 1), (5, .aload_n 0, 1), (6, .iload 4, 2), (8, .iconst 2, 1), (9, .iadd, 1), (10, .iaload, 1), (11, .invokevirtual 186, 3), (14, .istore 6, 2), (16, .goto 1743, 3), (19, .aload_n 1, 1), (20, .aload_n 0, 1), (21, .iload 4, 2), (23, .iconst 1, 1)] := dw_all (l := [21, 4, 4, 96, 46, 42, 21, 4, 5, 96, 46, 182, 0, 186, 54, 6, 167, 6, 207, 43, 42, 21, 4, 4]) (by decide +kernel)
theorem dL_law_413 : decode cL_law 413 = .ok (.iload 4, 2) := wtL_law_413.1
theorem dL_law_415 : decode cL_law 415 = .ok (.iconst 1, 1) := wtL_law_413.2.1
theorem dL_law_416 : decode cL_law 416 = .ok (.iadd, 1) := wtL_law_413.2.2.1
theorem dL_law_417 : decode cL_law 417 = .ok (.iaload, 1) := wtL_law_413.2.2.2.1
theorem dL_law_418 : decode cL_law 418 = .ok (.aload_n 0, 1) := wtL_law_413.2.2.2.2.1
theorem dL_law_419 : decode cL_law 419 = .ok (.iload 4, 2) := wtL_law_413.2.2.2.2.2.1
theorem dL_law_421 : decode cL_law 421 = .ok (.iconst 2, 1) := wtL_law_413.2.2.2.2.2.2.1
theorem dL_law_422 : decode cL_law 422 = .ok (.iadd, 1) := wtL_law_413.2.2.2.2.2.2.2.1
theorem dL_law_423 : decode cL_law 423 = .ok (.iaload, 1) := wtL_law_413.2.2.2.2.2.2.2.2.1
theorem dL_law_424 : decode cL_law 424 = .ok (.invokevirtual 186, 3) := wtL_law_413.2.2.2.2.2.2.2.2.2.1
theorem dL_law_427 : decode cL_law 427 = .ok (.istore 6, 2) := wtL_law_413.2.2.2.2.2.2.2.2.2.2.1
theorem dL_law_429 : decode cL_law 429 = .ok (.goto 1743, 3) := wtL_law_413.2.2.2.2.2.2.2.2.2.2.2.1
theorem dL_law_432 : decode cL_law 432 = .ok (.aload_n 1, 1) := wtL_law_413.2.2.2.2.2.2.2.2.2.2.2.2.1
theorem dL_law_433 : decode cL_law 433 = .ok (.aload_n 0, 1) := wtL_law_413.2.2.2.2.2.2.2.2.2.2.2.2.2.1
theorem dL_law_434 : decode cL_law 434 = .ok (.iload 4, 2) := wtL_law_413.2.2.2.2.2.2.2.2.2.2.2.2.2.2.1
theorem dL_law_436 : decode cL_law 436 = .ok (.iconst 1, 1) := wtL_law_413.2.2.2.2.2.2.2.2.2.2.2.2.2.2.2.1
theorem wtL_law_437 : dwcj cL_law 437 [(0, .iadd, 1), (1, .iaload, 1), (2, .aload_n 0, 1), (3, .iload 4, 2), (5, .iconst 2, 1), (6, .iadd, 1), (7, .iaload, 1), (8, .aload_n 3, 1), (9, .invokestatic 187, 3), (12, .istore 5, 2), (14, .aload_n 2, 1), (15, .aload_n 0, 1), (16, .iload 4, 2), (18, .iconst 1, 1), (19, .iadd, 1), (20, .iaload, 1), (21, .aload_n 0, 1), (22, .iload 4, 2)] := dw_all (l := [96, 46, 42, 21, 4, 5, 96, 46, 45, 184, 0, 187, 54, 5, 44, 42, 21, 4, 4, 96, 46, 42, 21, 4]) (by decide +kernel)
theorem dL_law_437 : decode cL_law 437 = .ok (.iadd, 1) := wtL_law_437.1
theorem dL_law_438 : decode cL_law 438 = .ok (.iaload, 1) := wtL_law_437.2.1
theorem dL_law_439 : decode cL_law 439 = .ok (.aload_n 0, 1) := wtL_law_437.2.2.1
theorem dL_law_440 : decode cL_law 440 = .ok (.iload 4, 2) := wtL_law_437.2.2.2.1
theorem dL_law_442 : decode cL_law 442 = .ok (.iconst 2, 1) := wtL_law_437.2.2.2.2.1
theorem dL_law_443 : decode cL_law 443 = .ok (.iadd, 1) := wtL_law_437.2.2.2.2.2.1
theorem dL_law_444 : decode cL_law 444 = .ok (.iaload, 1) := wtL_law_437.2.2.2.2.2.2.1
theorem dL_law_445 : decode cL_law 445 = .ok (.aload_n 3, 1) := wtL_law_437.2.2.2.2.2.2.2.1
theorem dL_law_446 : decode cL_law 446 = .ok (.invokestatic 187, 3) := wtL_law_437.2.2.2.2.2.2.2.2.1
theorem dL_law_449 : decode cL_law 449 = .ok (.istore 5, 2) := wtL_law_437.2.2.2.2.2.2.2.2.2.1
theorem dL_law_451 : decode cL_law 451 = .ok (.aload_n 2, 1) := wtL_law_437.2.2.2.2.2.2.2.2.2.2.1
theorem dL_law_452 : decode cL_law 452 = .ok (.aload_n 0, 1) := wtL_law_437.2.2.2.2.2.2.2.2.2.2.2.1
theorem dL_law_453 : decode cL_law 453 = .ok (.iload 4, 2) := wtL_law_437.2.2.2.2.2.2.2.2.2.2.2.2.1
theorem dL_law_455 : decode cL_law 455 = .ok (.iconst 1, 1) := wtL_law_437.2.2.2.2.2.2.2.2.2.2.2.2.2.1
theorem dL_law_456 : decode cL_law 456 = .ok (.iadd, 1) := wtL_law_437.2.2.2.2.2.2.2.2.2.2.2.2.2.2.1
theorem dL_law_457 : decode cL_law 457 = .ok (.iaload, 1) := wtL_law_437.2.2.2.2.2.2.2.2.2.2.2.2.2.2.2.1
theorem dL_law_458 : decode cL_law 458 = .ok (.aload_n 0, 1) := wtL_law_437.2.2.2.2.2.2.2.2.2.2.2.2.2.2.2.2.1
theorem dL_law_459 : decode cL_law 459 = .ok (.iload 4, 2) := wtL_law_437.2.2.2.2.2.2.2.2.2.2.2.2.2.2.2.2.2.1
theorem wtL_law_461 : dwcj cL_law 461 [(0, .iconst 2, 1), (1, .iadd, 1), (2, .iaload, 1), (3, .invokevirtual 189, 3), (6, .istore 6, 2), (8, .goto 1703, 3), (11, .aload_n 1, 1), (12, .aload_n 0, 1), (13, .iload 4, 2), (15, .iconst 1, 1), (16, .iadd, 1), (17, .iaload, 1), (18, .aload_n 0, 1), (19, .iload 4, 2), (21, .iconst 2, 1), (22, .iadd, 1), (23, .iaload, 1)] := dw_all (l := [5, 96, 46, 182, 0, 189, 54, 6, 167, 6, 167, 43, 42, 21, 4, 4, 96, 46, 42, 21, 4, 5, 96, 46]) (by decide +kernel)
theorem dL_law_461 : decode cL_law 461 = .ok (.iconst 2, 1) := wtL_law_461.1
theorem dL_law_462 : decode cL_law 462 = .ok (.iadd, 1) := wtL_law_461.2.1
theorem dL_law_463 : decode cL_law 463 = .ok (.iaload, 1) := wtL_law_461.2.2.1
theorem dL_law_464 : decode cL_law 464 = .ok (.invokevirtual 189, 3) := wtL_law_461.2.2.2.1
theorem dL_law_467 : decode cL_law 467 = .ok (.istore 6, 2) := wtL_law_461.2.2.2.2.1
theorem dL_law_469 : decode cL_law 469 = .ok (.goto 1703, 3) := wtL_law_461.2.2.2.2.2.1
theorem dL_law_472 : decode cL_law 472 = .ok (.aload_n 1, 1) := wtL_law_461.2.2.2.2.2.2.1
theorem dL_law_473 : decode cL_law 473 = .ok (.aload_n 0, 1) := wtL_law_461.2.2.2.2.2.2.2.1
theorem dL_law_474 : decode cL_law 474 = .ok (.iload 4, 2) := wtL_law_461.2.2.2.2.2.2.2.2.1
theorem dL_law_476 : decode cL_law 476 = .ok (.iconst 1, 1) := wtL_law_461.2.2.2.2.2.2.2.2.2.1
theorem dL_law_477 : decode cL_law 477 = .ok (.iadd, 1) := wtL_law_461.2.2.2.2.2.2.2.2.2.2.1
theorem dL_law_478 : decode cL_law 478 = .ok (.iaload, 1) := wtL_law_461.2.2.2.2.2.2.2.2.2.2.2.1
theorem dL_law_479 : decode cL_law 479 = .ok (.aload_n 0, 1) := wtL_law_461.2.2.2.2.2.2.2.2.2.2.2.2.1
theorem dL_law_480 : decode cL_law 480 = .ok (.iload 4, 2) := wtL_law_461.2.2.2.2.2.2.2.2.2.2.2.2.2.1
theorem dL_law_482 : decode cL_law 482 = .ok (.iconst 2, 1) := wtL_law_461.2.2.2.2.2.2.2.2.2.2.2.2.2.2.1
theorem dL_law_483 : decode cL_law 483 = .ok (.iadd, 1) := wtL_law_461.2.2.2.2.2.2.2.2.2.2.2.2.2.2.2.1
theorem dL_law_484 : decode cL_law 484 = .ok (.iaload, 1) := wtL_law_461.2.2.2.2.2.2.2.2.2.2.2.2.2.2.2.2.1
theorem wtL_law_485 : dwcj cL_law 485 [(0, .aload_n 3, 1), (1, .invokestatic 190, 3), (4, .istore 5, 2), (6, .aload_n 2, 1), (7, .aload_n 0, 1), (8, .iload 4, 2), (10, .iconst 1, 1), (11, .iadd, 1), (12, .iaload, 1), (13, .aload_n 0, 1), (14, .iload 4, 2), (16, .iconst 2, 1), (17, .iadd, 1), (18, .iaload, 1), (19, .invokevirtual 192, 3), (22, .istore 6, 2)] := dw_all (l := [45, 184, 0, 190, 54, 5, 44, 42, 21, 4, 4, 96, 46, 42, 21, 4, 5, 96, 46, 182, 0, 192, 54, 6]) (by decide +kernel)
theorem dL_law_485 : decode cL_law 485 = .ok (.aload_n 3, 1) := wtL_law_485.1
theorem dL_law_486 : decode cL_law 486 = .ok (.invokestatic 190, 3) := wtL_law_485.2.1
theorem dL_law_489 : decode cL_law 489 = .ok (.istore 5, 2) := wtL_law_485.2.2.1
theorem dL_law_491 : decode cL_law 491 = .ok (.aload_n 2, 1) := wtL_law_485.2.2.2.1
theorem dL_law_492 : decode cL_law 492 = .ok (.aload_n 0, 1) := wtL_law_485.2.2.2.2.1
theorem dL_law_493 : decode cL_law 493 = .ok (.iload 4, 2) := wtL_law_485.2.2.2.2.2.1
theorem dL_law_495 : decode cL_law 495 = .ok (.iconst 1, 1) := wtL_law_485.2.2.2.2.2.2.1
theorem dL_law_496 : decode cL_law 496 = .ok (.iadd, 1) := wtL_law_485.2.2.2.2.2.2.2.1
theorem dL_law_497 : decode cL_law 497 = .ok (.iaload, 1) := wtL_law_485.2.2.2.2.2.2.2.2.1
theorem dL_law_498 : decode cL_law 498 = .ok (.aload_n 0, 1) := wtL_law_485.2.2.2.2.2.2.2.2.2.1
theorem dL_law_499 : decode cL_law 499 = .ok (.iload 4, 2) := wtL_law_485.2.2.2.2.2.2.2.2.2.2.1
theorem dL_law_501 : decode cL_law 501 = .ok (.iconst 2, 1) := wtL_law_485.2.2.2.2.2.2.2.2.2.2.2.1
theorem dL_law_502 : decode cL_law 502 = .ok (.iadd, 1) := wtL_law_485.2.2.2.2.2.2.2.2.2.2.2.2.1
theorem dL_law_503 : decode cL_law 503 = .ok (.iaload, 1) := wtL_law_485.2.2.2.2.2.2.2.2.2.2.2.2.2.1
theorem dL_law_504 : decode cL_law 504 = .ok (.invokevirtual 192, 3) := wtL_law_485.2.2.2.2.2.2.2.2.2.2.2.2.2.2.1
theorem dL_law_507 : decode cL_law 507 = .ok (.istore 6, 2) := wtL_law_485.2.2.2.2.2.2.2.2.2.2.2.2.2.2.2.1
theorem wtL_law_509 : dwcj cL_law 509 [(0, .goto 1663, 3), (3, .aload_n 1, 1), (4, .aload_n 0, 1), (5, .iload 4, 2), (7, .iconst 1, 1), (8, .iadd, 1), (9, .iaload, 1), (10, .aload_n 0, 1), (11, .iload 4, 2), (13, .iconst 2, 1), (14, .iadd, 1), (15, .iaload, 1), (16, .aload_n 0, 1), (17, .iload 4, 2), (19, .iconst 3, 1), (20, .iadd, 1), (21, .iaload, 1), (22, .ifCond .eq 7, 3)] := dw_all (l := [167, 6, 127, 43, 42, 21, 4, 4, 96, 46, 42, 21, 4, 5, 96, 46, 42, 21, 4, 6, 96, 46, 153, 0, 7]) (by decide +kernel)
theorem dL_law_509 : decode cL_law 509 = .ok (.goto 1663, 3) := wtL_law_509.1
theorem dL_law_512 : decode cL_law 512 = .ok (.aload_n 1, 1) := wtL_law_509.2.1
theorem dL_law_513 : decode cL_law 513 = .ok (.aload_n 0, 1) := wtL_law_509.2.2.1
theorem dL_law_514 : decode cL_law 514 = .ok (.iload 4, 2) := wtL_law_509.2.2.2.1
theorem dL_law_516 : decode cL_law 516 = .ok (.iconst 1, 1) := wtL_law_509.2.2.2.2.1
theorem dL_law_517 : decode cL_law 517 = .ok (.iadd, 1) := wtL_law_509.2.2.2.2.2.1
theorem dL_law_518 : decode cL_law 518 = .ok (.iaload, 1) := wtL_law_509.2.2.2.2.2.2.1
theorem dL_law_519 : decode cL_law 519 = .ok (.aload_n 0, 1) := wtL_law_509.2.2.2.2.2.2.2.1
theorem dL_law_520 : decode cL_law 520 = .ok (.iload 4, 2) := wtL_law_509.2.2.2.2.2.2.2.2.1
theorem dL_law_522 : decode cL_law 522 = .ok (.iconst 2, 1) := wtL_law_509.2.2.2.2.2.2.2.2.2.1
theorem dL_law_523 : decode cL_law 523 = .ok (.iadd, 1) := wtL_law_509.2.2.2.2.2.2.2.2.2.2.1
theorem dL_law_524 : decode cL_law 524 = .ok (.iaload, 1) := wtL_law_509.2.2.2.2.2.2.2.2.2.2.2.1
theorem dL_law_525 : decode cL_law 525 = .ok (.aload_n 0, 1) := wtL_law_509.2.2.2.2.2.2.2.2.2.2.2.2.1
theorem dL_law_526 : decode cL_law 526 = .ok (.iload 4, 2) := wtL_law_509.2.2.2.2.2.2.2.2.2.2.2.2.2.1
theorem dL_law_528 : decode cL_law 528 = .ok (.iconst 3, 1) := wtL_law_509.2.2.2.2.2.2.2.2.2.2.2.2.2.2.1
theorem dL_law_529 : decode cL_law 529 = .ok (.iadd, 1) := wtL_law_509.2.2.2.2.2.2.2.2.2.2.2.2.2.2.2.1
theorem dL_law_530 : decode cL_law 530 = .ok (.iaload, 1) := wtL_law_509.2.2.2.2.2.2.2.2.2.2.2.2.2.2.2.2.1
theorem dL_law_531 : decode cL_law 531 = .ok (.ifCond .eq 7, 3) := wtL_law_509.2.2.2.2.2.2.2.2.2.2.2.2.2.2.2.2.2.1
theorem wtL_law_534 : dwcj cL_law 534 [(0, .iconst 1, 1), (1, .goto 4, 3), (4, .iconst 0, 1), (5, .aload_n 0, 1), (6, .iload 4, 2), (8, .iconst 4, 1), (9, .iadd, 1), (10, .iaload, 1), (11, .aload_n 3, 1), (12, .invokestatic 193, 3), (15, .istore 5, 2), (17, .aload_n 2, 1), (18, .aload_n 0, 1), (19, .iload 4, 2), (21, .iconst 1, 1), (22, .iadd, 1), (23, .iaload, 1)] := dw_all (l := [4, 167, 0, 4, 3, 42, 21, 4, 7, 96, 46, 45, 184, 0, 193, 54, 5, 44, 42, 21, 4, 4, 96, 46]) (by decide +kernel)
theorem dL_law_534 : decode cL_law 534 = .ok (.iconst 1, 1) := wtL_law_534.1
theorem dL_law_535 : decode cL_law 535 = .ok (.goto 4, 3) := wtL_law_534.2.1
theorem dL_law_538 : decode cL_law 538 = .ok (.iconst 0, 1) := wtL_law_534.2.2.1
theorem dL_law_539 : decode cL_law 539 = .ok (.aload_n 0, 1) := wtL_law_534.2.2.2.1
theorem dL_law_540 : decode cL_law 540 = .ok (.iload 4, 2) := wtL_law_534.2.2.2.2.1
theorem dL_law_542 : decode cL_law 542 = .ok (.iconst 4, 1) := wtL_law_534.2.2.2.2.2.1
theorem dL_law_543 : decode cL_law 543 = .ok (.iadd, 1) := wtL_law_534.2.2.2.2.2.2.1
theorem dL_law_544 : decode cL_law 544 = .ok (.iaload, 1) := wtL_law_534.2.2.2.2.2.2.2.1
theorem dL_law_545 : decode cL_law 545 = .ok (.aload_n 3, 1) := wtL_law_534.2.2.2.2.2.2.2.2.1
theorem dL_law_546 : decode cL_law 546 = .ok (.invokestatic 193, 3) := wtL_law_534.2.2.2.2.2.2.2.2.2.1
theorem dL_law_549 : decode cL_law 549 = .ok (.istore 5, 2) := wtL_law_534.2.2.2.2.2.2.2.2.2.2.1
theorem dL_law_551 : decode cL_law 551 = .ok (.aload_n 2, 1) := wtL_law_534.2.2.2.2.2.2.2.2.2.2.2.1
theorem dL_law_552 : decode cL_law 552 = .ok (.aload_n 0, 1) := wtL_law_534.2.2.2.2.2.2.2.2.2.2.2.2.1
theorem dL_law_553 : decode cL_law 553 = .ok (.iload 4, 2) := wtL_law_534.2.2.2.2.2.2.2.2.2.2.2.2.2.1
theorem dL_law_555 : decode cL_law 555 = .ok (.iconst 1, 1) := wtL_law_534.2.2.2.2.2.2.2.2.2.2.2.2.2.2.1
theorem dL_law_556 : decode cL_law 556 = .ok (.iadd, 1) := wtL_law_534.2.2.2.2.2.2.2.2.2.2.2.2.2.2.2.1
theorem dL_law_557 : decode cL_law 557 = .ok (.iaload, 1) := wtL_law_534.2.2.2.2.2.2.2.2.2.2.2.2.2.2.2.2.1
theorem wtL_law_558 : dwcj cL_law 558 [(0, .aload_n 0, 1), (1, .iload 4, 2), (3, .iconst 2, 1), (4, .iadd, 1), (5, .iaload, 1), (6, .aload_n 0, 1), (7, .iload 4, 2), (9, .iconst 3, 1), (10, .iadd, 1), (11, .iaload, 1), (12, .ifCond .eq 7, 3), (15, .iconst 1, 1), (16, .goto 4, 3), (19, .iconst 0, 1), (20, .aload_n 0, 1), (21, .iload 4, 2), (23, .iconst 4, 1)] := dw_all (l := [42, 21, 4, 5, 96, 46, 42, 21, 4, 6, 96, 46, 153, 0, 7, 4, 167, 0, 4, 3, 42, 21, 4, 7]) (by decide +kernel)
theorem dL_law_558 : decode cL_law 558 = .ok (.aload_n 0, 1) := wtL_law_558.1
theorem dL_law_559 : decode cL_law 559 = .ok (.iload 4, 2) := wtL_law_558.2.1
theorem dL_law_561 : decode cL_law 561 = .ok (.iconst 2, 1) := wtL_law_558.2.2.1
theorem dL_law_562 : decode cL_law 562 = .ok (.iadd, 1) := wtL_law_558.2.2.2.1
theorem dL_law_563 : decode cL_law 563 = .ok (.iaload, 1) := wtL_law_558.2.2.2.2.1
theorem dL_law_564 : decode cL_law 564 = .ok (.aload_n 0, 1) := wtL_law_558.2.2.2.2.2.1
theorem dL_law_565 : decode cL_law 565 = .ok (.iload 4, 2) := wtL_law_558.2.2.2.2.2.2.1
theorem dL_law_567 : decode cL_law 567 = .ok (.iconst 3, 1) := wtL_law_558.2.2.2.2.2.2.2.1
theorem dL_law_568 : decode cL_law 568 = .ok (.iadd, 1) := wtL_law_558.2.2.2.2.2.2.2.2.1
theorem dL_law_569 : decode cL_law 569 = .ok (.iaload, 1) := wtL_law_558.2.2.2.2.2.2.2.2.2.1
theorem dL_law_570 : decode cL_law 570 = .ok (.ifCond .eq 7, 3) := wtL_law_558.2.2.2.2.2.2.2.2.2.2.1
theorem dL_law_573 : decode cL_law 573 = .ok (.iconst 1, 1) := wtL_law_558.2.2.2.2.2.2.2.2.2.2.2.1
theorem dL_law_574 : decode cL_law 574 = .ok (.goto 4, 3) := wtL_law_558.2.2.2.2.2.2.2.2.2.2.2.2.1
theorem dL_law_577 : decode cL_law 577 = .ok (.iconst 0, 1) := wtL_law_558.2.2.2.2.2.2.2.2.2.2.2.2.2.1
theorem dL_law_578 : decode cL_law 578 = .ok (.aload_n 0, 1) := wtL_law_558.2.2.2.2.2.2.2.2.2.2.2.2.2.2.1
theorem dL_law_579 : decode cL_law 579 = .ok (.iload 4, 2) := wtL_law_558.2.2.2.2.2.2.2.2.2.2.2.2.2.2.2.1
theorem dL_law_581 : decode cL_law 581 = .ok (.iconst 4, 1) := wtL_law_558.2.2.2.2.2.2.2.2.2.2.2.2.2.2.2.2.1
theorem wtL_law_582 : dwcj cL_law 582 [(0, .iadd, 1), (1, .iaload, 1), (2, .invokevirtual 196, 3), (5, .istore 6, 2), (7, .goto 1583, 3), (10, .aload_n 1, 1), (11, .aload_n 0, 1), (12, .iload 4, 2), (14, .iconst 1, 1), (15, .iadd, 1), (16, .iaload, 1), (17, .aload_n 0, 1), (18, .iload 4, 2), (20, .iconst 2, 1), (21, .iadd, 1), (22, .iaload, 1), (23, .aload_n 0, 1)] := dw_all (l := [96, 46, 182, 0, 196, 54, 6, 167, 6, 47, 43, 42, 21, 4, 4, 96, 46, 42, 21, 4, 5, 96, 46, 42]) (by decide +kernel)
theorem dL_law_582 : decode cL_law 582 = .ok (.iadd, 1) := wtL_law_582.1
theorem dL_law_583 : decode cL_law 583 = .ok (.iaload, 1) := wtL_law_582.2.1
theorem dL_law_584 : decode cL_law 584 = .ok (.invokevirtual 196, 3) := wtL_law_582.2.2.1
theorem dL_law_587 : decode cL_law 587 = .ok (.istore 6, 2) := wtL_law_582.2.2.2.1
theorem dL_law_589 : decode cL_law 589 = .ok (.goto 1583, 3) := wtL_law_582.2.2.2.2.1
theorem dL_law_592 : decode cL_law 592 = .ok (.aload_n 1, 1) := wtL_law_582.2.2.2.2.2.1
theorem dL_law_593 : decode cL_law 593 = .ok (.aload_n 0, 1) := wtL_law_582.2.2.2.2.2.2.1
theorem dL_law_594 : decode cL_law 594 = .ok (.iload 4, 2) := wtL_law_582.2.2.2.2.2.2.2.1
theorem dL_law_596 : decode cL_law 596 = .ok (.iconst 1, 1) := wtL_law_582.2.2.2.2.2.2.2.2.1
theorem dL_law_597 : decode cL_law 597 = .ok (.iadd, 1) := wtL_law_582.2.2.2.2.2.2.2.2.2.1
theorem dL_law_598 : decode cL_law 598 = .ok (.iaload, 1) := wtL_law_582.2.2.2.2.2.2.2.2.2.2.1
theorem dL_law_599 : decode cL_law 599 = .ok (.aload_n 0, 1) := wtL_law_582.2.2.2.2.2.2.2.2.2.2.2.1
theorem dL_law_600 : decode cL_law 600 = .ok (.iload 4, 2) := wtL_law_582.2.2.2.2.2.2.2.2.2.2.2.2.1
theorem dL_law_602 : decode cL_law 602 = .ok (.iconst 2, 1) := wtL_law_582.2.2.2.2.2.2.2.2.2.2.2.2.2.1
theorem dL_law_603 : decode cL_law 603 = .ok (.iadd, 1) := wtL_law_582.2.2.2.2.2.2.2.2.2.2.2.2.2.2.1
theorem dL_law_604 : decode cL_law 604 = .ok (.iaload, 1) := wtL_law_582.2.2.2.2.2.2.2.2.2.2.2.2.2.2.2.1
theorem dL_law_605 : decode cL_law 605 = .ok (.aload_n 0, 1) := wtL_law_582.2.2.2.2.2.2.2.2.2.2.2.2.2.2.2.2.1
theorem wtL_law_606 : dwcj cL_law 606 [(0, .iload 4, 2), (2, .iconst 3, 1), (3, .iadd, 1), (4, .iaload, 1), (5, .aload_n 0, 1), (6, .iload 4, 2), (8, .iconst 4, 1), (9, .iadd, 1), (10, .iaload, 1), (11, .aload_n 3, 1), (12, .invokestatic 197, 3), (15, .istore 5, 2), (17, .aload_n 2, 1), (18, .aload_n 0, 1), (19, .iload 4, 2), (21, .iconst 1, 1), (22, .iadd, 1), (23, .iaload, 1)] := dw_all (l := [21, 4, 6, 96, 46, 42, 21, 4, 7, 96, 46, 45, 184, 0, 197, 54, 5, 44, 42, 21, 4, 4, 96, 46]) (by decide +kernel)
theorem dL_law_606 : decode cL_law 606 = .ok (.iload 4, 2) := wtL_law_606.1
theorem dL_law_608 : decode cL_law 608 = .ok (.iconst 3, 1) := wtL_law_606.2.1
theorem dL_law_609 : decode cL_law 609 = .ok (.iadd, 1) := wtL_law_606.2.2.1
theorem dL_law_610 : decode cL_law 610 = .ok (.iaload, 1) := wtL_law_606.2.2.2.1
theorem dL_law_611 : decode cL_law 611 = .ok (.aload_n 0, 1) := wtL_law_606.2.2.2.2.1
theorem dL_law_612 : decode cL_law 612 = .ok (.iload 4, 2) := wtL_law_606.2.2.2.2.2.1
theorem dL_law_614 : decode cL_law 614 = .ok (.iconst 4, 1) := wtL_law_606.2.2.2.2.2.2.1
theorem dL_law_615 : decode cL_law 615 = .ok (.iadd, 1) := wtL_law_606.2.2.2.2.2.2.2.1
theorem dL_law_616 : decode cL_law 616 = .ok (.iaload, 1) := wtL_law_606.2.2.2.2.2.2.2.2.1
theorem dL_law_617 : decode cL_law 617 = .ok (.aload_n 3, 1) := wtL_law_606.2.2.2.2.2.2.2.2.2.1
theorem dL_law_618 : decode cL_law 618 = .ok (.invokestatic 197, 3) := wtL_law_606.2.2.2.2.2.2.2.2.2.2.1
theorem dL_law_621 : decode cL_law 621 = .ok (.istore 5, 2) := wtL_law_606.2.2.2.2.2.2.2.2.2.2.2.1
theorem dL_law_623 : decode cL_law 623 = .ok (.aload_n 2, 1) := wtL_law_606.2.2.2.2.2.2.2.2.2.2.2.2.1
theorem dL_law_624 : decode cL_law 624 = .ok (.aload_n 0, 1) := wtL_law_606.2.2.2.2.2.2.2.2.2.2.2.2.2.1
theorem dL_law_625 : decode cL_law 625 = .ok (.iload 4, 2) := wtL_law_606.2.2.2.2.2.2.2.2.2.2.2.2.2.2.1
theorem dL_law_627 : decode cL_law 627 = .ok (.iconst 1, 1) := wtL_law_606.2.2.2.2.2.2.2.2.2.2.2.2.2.2.2.1
theorem dL_law_628 : decode cL_law 628 = .ok (.iadd, 1) := wtL_law_606.2.2.2.2.2.2.2.2.2.2.2.2.2.2.2.2.1
theorem dL_law_629 : decode cL_law 629 = .ok (.iaload, 1) := wtL_law_606.2.2.2.2.2.2.2.2.2.2.2.2.2.2.2.2.2.1
theorem wtL_law_630 : dwcj cL_law 630 [(0, .aload_n 0, 1), (1, .iload 4, 2), (3, .iconst 2, 1), (4, .iadd, 1), (5, .iaload, 1), (6, .aload_n 0, 1), (7, .iload 4, 2), (9, .iconst 3, 1), (10, .iadd, 1), (11, .iaload, 1), (12, .aload_n 0, 1), (13, .iload 4, 2), (15, .iconst 4, 1), (16, .iadd, 1), (17, .iaload, 1), (18, .invokevirtual 200, 3), (21, .istore 6, 2), (23, .goto 1519, 3)] := dw_all (l := [42, 21, 4, 5, 96, 46, 42, 21, 4, 6, 96, 46, 42, 21, 4, 7, 96, 46, 182, 0, 200, 54, 6, 167, 5, 239]) (by decide +kernel)
theorem dL_law_630 : decode cL_law 630 = .ok (.aload_n 0, 1) := wtL_law_630.1
theorem dL_law_631 : decode cL_law 631 = .ok (.iload 4, 2) := wtL_law_630.2.1
theorem dL_law_633 : decode cL_law 633 = .ok (.iconst 2, 1) := wtL_law_630.2.2.1
theorem dL_law_634 : decode cL_law 634 = .ok (.iadd, 1) := wtL_law_630.2.2.2.1
theorem dL_law_635 : decode cL_law 635 = .ok (.iaload, 1) := wtL_law_630.2.2.2.2.1
theorem dL_law_636 : decode cL_law 636 = .ok (.aload_n 0, 1) := wtL_law_630.2.2.2.2.2.1
theorem dL_law_637 : decode cL_law 637 = .ok (.iload 4, 2) := wtL_law_630.2.2.2.2.2.2.1
theorem dL_law_639 : decode cL_law 639 = .ok (.iconst 3, 1) := wtL_law_630.2.2.2.2.2.2.2.1
theorem dL_law_640 : decode cL_law 640 = .ok (.iadd, 1) := wtL_law_630.2.2.2.2.2.2.2.2.1
theorem dL_law_641 : decode cL_law 641 = .ok (.iaload, 1) := wtL_law_630.2.2.2.2.2.2.2.2.2.1
theorem dL_law_642 : decode cL_law 642 = .ok (.aload_n 0, 1) := wtL_law_630.2.2.2.2.2.2.2.2.2.2.1
theorem dL_law_643 : decode cL_law 643 = .ok (.iload 4, 2) := wtL_law_630.2.2.2.2.2.2.2.2.2.2.2.1
theorem dL_law_645 : decode cL_law 645 = .ok (.iconst 4, 1) := wtL_law_630.2.2.2.2.2.2.2.2.2.2.2.2.1
theorem dL_law_646 : decode cL_law 646 = .ok (.iadd, 1) := wtL_law_630.2.2.2.2.2.2.2.2.2.2.2.2.2.1
theorem dL_law_647 : decode cL_law 647 = .ok (.iaload, 1) := wtL_law_630.2.2.2.2.2.2.2.2.2.2.2.2.2.2.1
theorem dL_law_648 : decode cL_law 648 = .ok (.invokevirtual 200, 3) := wtL_law_630.2.2.2.2.2.2.2.2.2.2.2.2.2.2.2.1
theorem dL_law_651 : decode cL_law 651 = .ok (.istore 6, 2) := wtL_law_630.2.2.2.2.2.2.2.2.2.2.2.2.2.2.2.2.1
theorem dL_law_653 : decode cL_law 653 = .ok (.goto 1519, 3) := wtL_law_630.2.2.2.2.2.2.2.2.2.2.2.2.2.2.2.2.2.1
theorem wtL_law_656 : dwcj cL_law 656 [(0, .aload_n 1, 1), (1, .aload_n 0, 1), (2, .iload 4, 2), (4, .iconst 1, 1), (5, .iadd, 1), (6, .iaload, 1), (7, .aload_n 0, 1), (8, .iload 4, 2), (10, .iconst 2, 1), (11, .iadd, 1), (12, .iaload, 1), (13, .aload_n 0, 1), (14, .iload 4, 2), (16, .iconst 3, 1), (17, .iadd, 1), (18, .iaload, 1), (19, .aload_n 3, 1), (20, .invokestatic 201, 3), (23, .istore 5, 2)] := dw_all (l := [43, 42, 21, 4, 4, 96, 46, 42, 21, 4, 5, 96, 46, 42, 21, 4, 6, 96, 46, 45, 184, 0, 201, 54, 5]) (by decide +kernel)
theorem dL_law_656 : decode cL_law 656 = .ok (.aload_n 1, 1) := wtL_law_656.1
theorem dL_law_657 : decode cL_law 657 = .ok (.aload_n 0, 1) := wtL_law_656.2.1
theorem dL_law_658 : decode cL_law 658 = .ok (.iload 4, 2) := wtL_law_656.2.2.1
theorem dL_law_660 : decode cL_law 660 = .ok (.iconst 1, 1) := wtL_law_656.2.2.2.1
theorem dL_law_661 : decode cL_law 661 = .ok (.iadd, 1) := wtL_law_656.2.2.2.2.1
theorem dL_law_662 : decode cL_law 662 = .ok (.iaload, 1) := wtL_law_656.2.2.2.2.2.1
theorem dL_law_663 : decode cL_law 663 = .ok (.aload_n 0, 1) := wtL_law_656.2.2.2.2.2.2.1
theorem dL_law_664 : decode cL_law 664 = .ok (.iload 4, 2) := wtL_law_656.2.2.2.2.2.2.2.1
theorem dL_law_666 : decode cL_law 666 = .ok (.iconst 2, 1) := wtL_law_656.2.2.2.2.2.2.2.2.1
theorem dL_law_667 : decode cL_law 667 = .ok (.iadd, 1) := wtL_law_656.2.2.2.2.2.2.2.2.2.1
theorem dL_law_668 : decode cL_law 668 = .ok (.iaload, 1) := wtL_law_656.2.2.2.2.2.2.2.2.2.2.1
theorem dL_law_669 : decode cL_law 669 = .ok (.aload_n 0, 1) := wtL_law_656.2.2.2.2.2.2.2.2.2.2.2.1
theorem dL_law_670 : decode cL_law 670 = .ok (.iload 4, 2) := wtL_law_656.2.2.2.2.2.2.2.2.2.2.2.2.1
theorem dL_law_672 : decode cL_law 672 = .ok (.iconst 3, 1) := wtL_law_656.2.2.2.2.2.2.2.2.2.2.2.2.2.1
theorem dL_law_673 : decode cL_law 673 = .ok (.iadd, 1) := wtL_law_656.2.2.2.2.2.2.2.2.2.2.2.2.2.2.1
theorem dL_law_674 : decode cL_law 674 = .ok (.iaload, 1) := wtL_law_656.2.2.2.2.2.2.2.2.2.2.2.2.2.2.2.1
theorem dL_law_675 : decode cL_law 675 = .ok (.aload_n 3, 1) := wtL_law_656.2.2.2.2.2.2.2.2.2.2.2.2.2.2.2.2.1
theorem dL_law_676 : decode cL_law 676 = .ok (.invokestatic 201, 3) := wtL_law_656.2.2.2.2.2.2.2.2.2.2.2.2.2.2.2.2.2.1
theorem dL_law_679 : decode cL_law 679 = .ok (.istore 5, 2) := wtL_law_656.2.2.2.2.2.2.2.2.2.2.2.2.2.2.2.2.2.2.1
theorem wtL_law_681 : dwcj cL_law 681 [(0, .aload_n 2, 1), (1, .aload_n 0, 1), (2, .iload 4, 2), (4, .iconst 1, 1), (5, .iadd, 1), (6, .iaload, 1), (7, .aload_n 0, 1), (8, .iload 4, 2), (10, .iconst 2, 1), (11, .iadd, 1), (12, .iaload, 1), (13, .aload_n 0, 1), (14, .iload 4, 2), (16, .iconst 3, 1), (17, .iadd, 1), (18, .iaload, 1), (19, .invokevirtual 204, 3), (22, .istore 6, 2)] := dw_all (l := [44, 42, 21, 4, 4, 96, 46, 42, 21, 4, 5, 96, 46, 42, 21, 4, 6, 96, 46, 182, 0, 204, 54, 6]) (by decide +kernel)
theorem dL_law_681 : decode cL_law 681 = .ok (.aload_n 2, 1) := wtL_law_681.1
theorem dL_law_682 : decode cL_law 682 = .ok (.aload_n 0, 1) := wtL_law_681.2.1
theorem dL_law_683 : decode cL_law 683 = .ok (.iload 4, 2) := wtL_law_681.2.2.1
theorem dL_law_685 : decode cL_law 685 = .ok (.iconst 1, 1) := wtL_law_681.2.2.2.1
theorem dL_law_686 : decode cL_law 686 = .ok (.iadd, 1) := wtL_law_681.2.2.2.2.1
theorem dL_law_687 : decode cL_law 687 = .ok (.iaload, 1) := wtL_law_681.2.2.2.2.2.1
theorem dL_law_688 : decode cL_law 688 = .ok (.aload_n 0, 1) := wtL_law_681.2.2.2.2.2.2.1
theorem dL_law_689 : decode cL_law 689 = .ok (.iload 4, 2) := wtL_law_681.2.2.2.2.2.2.2.1
theorem dL_law_691 : decode cL_law 691 = .ok (.iconst 2, 1) := wtL_law_681.2.2.2.2.2.2.2.2.1
theorem dL_law_692 : decode cL_law 692 = .ok (.iadd, 1) := wtL_law_681.2.2.2.2.2.2.2.2.2.1
theorem dL_law_693 : decode cL_law 693 = .ok (.iaload, 1) := wtL_law_681.2.2.2.2.2.2.2.2.2.2.1
theorem dL_law_694 : decode cL_law 694 = .ok (.aload_n 0, 1) := wtL_law_681.2.2.2.2.2.2.2.2.2.2.2.1
theorem dL_law_695 : decode cL_law 695 = .ok (.iload 4, 2) := wtL_law_681.2.2.2.2.2.2.2.2.2.2.2.2.1
theorem dL_law_697 : decode cL_law 697 = .ok (.iconst 3, 1) := wtL_law_681.2.2.2.2.2.2.2.2.2.2.2.2.2.1
theorem dL_law_698 : decode cL_law 698 = .ok (.iadd, 1) := wtL_law_681.2.2.2.2.2.2.2.2.2.2.2.2.2.2.1
theorem dL_law_699 : decode cL_law 699 = .ok (.iaload, 1) := wtL_law_681.2.2.2.2.2.2.2.2.2.2.2.2.2.2.2.1
theorem dL_law_700 : decode cL_law 700 = .ok (.invokevirtual 204, 3) := wtL_law_681.2.2.2.2.2.2.2.2.2.2.2.2.2.2.2.2.1
theorem dL_law_703 : decode cL_law 703 = .ok (.istore 6, 2) := wtL_law_681.2.2.2.2.2.2.2.2.2.2.2.2.2.2.2.2.2.1
theorem wtL_law_705 : dwcj cL_law 705 [(0, .goto 1467, 3), (3, .aload_n 1, 1), (4, .aload_n 0, 1), (5, .iload 4, 2), (7, .iconst 1, 1), (8, .iadd, 1), (9, .iaload, 1), (10, .aload_n 0, 1), (11, .iload 4, 2), (13, .iconst 2, 1), (14, .iadd, 1), (15, .iaload, 1), (16, .aload_n 3, 1), (17, .invokestatic 205, 3), (20, .istore 5, 2), (22, .aload_n 2, 1), (23, .aload_n 0, 1)] := dw_all (l := [167, 5, 187, 43, 42, 21, 4, 4, 96, 46, 42, 21, 4, 5, 96, 46, 45, 184, 0, 205, 54, 5, 44, 42]) (by decide +kernel)
theorem dL_law_705 : decode cL_law 705 = .ok (.goto 1467, 3) := wtL_law_705.1
theorem dL_law_708 : decode cL_law 708 = .ok (.aload_n 1, 1) := wtL_law_705.2.1
theorem dL_law_709 : decode cL_law 709 = .ok (.aload_n 0, 1) := wtL_law_705.2.2.1
theorem dL_law_710 : decode cL_law 710 = .ok (.iload 4, 2) := wtL_law_705.2.2.2.1
theorem dL_law_712 : decode cL_law 712 = .ok (.iconst 1, 1) := wtL_law_705.2.2.2.2.1
theorem dL_law_713 : decode cL_law 713 = .ok (.iadd, 1) := wtL_law_705.2.2.2.2.2.1
theorem dL_law_714 : decode cL_law 714 = .ok (.iaload, 1) := wtL_law_705.2.2.2.2.2.2.1
theorem dL_law_715 : decode cL_law 715 = .ok (.aload_n 0, 1) := wtL_law_705.2.2.2.2.2.2.2.1
theorem dL_law_716 : decode cL_law 716 = .ok (.iload 4, 2) := wtL_law_705.2.2.2.2.2.2.2.2.1
theorem dL_law_718 : decode cL_law 718 = .ok (.iconst 2, 1) := wtL_law_705.2.2.2.2.2.2.2.2.2.1
theorem dL_law_719 : decode cL_law 719 = .ok (.iadd, 1) := wtL_law_705.2.2.2.2.2.2.2.2.2.2.1
theorem dL_law_720 : decode cL_law 720 = .ok (.iaload, 1) := wtL_law_705.2.2.2.2.2.2.2.2.2.2.2.1
theorem dL_law_721 : decode cL_law 721 = .ok (.aload_n 3, 1) := wtL_law_705.2.2.2.2.2.2.2.2.2.2.2.2.1
theorem dL_law_722 : decode cL_law 722 = .ok (.invokestatic 205, 3) := wtL_law_705.2.2.2.2.2.2.2.2.2.2.2.2.2.1
theorem dL_law_725 : decode cL_law 725 = .ok (.istore 5, 2) := wtL_law_705.2.2.2.2.2.2.2.2.2.2.2.2.2.2.1
theorem dL_law_727 : decode cL_law 727 = .ok (.aload_n 2, 1) := wtL_law_705.2.2.2.2.2.2.2.2.2.2.2.2.2.2.2.1
theorem dL_law_728 : decode cL_law 728 = .ok (.aload_n 0, 1) := wtL_law_705.2.2.2.2.2.2.2.2.2.2.2.2.2.2.2.2.1
theorem wtL_law_729 : dwcj cL_law 729 [(0, .iload 4, 2), (2, .iconst 1, 1), (3, .iadd, 1), (4, .iaload, 1), (5, .aload_n 0, 1), (6, .iload 4, 2), (8, .iconst 2, 1), (9, .iadd, 1), (10, .iaload, 1), (11, .invokevirtual 207, 3), (14, .istore 6, 2), (16, .goto 1427, 3), (19, .aload_n 1, 1), (20, .aload_n 0, 1), (21, .iload 4, 2), (23, .iconst 1, 1)] := dw_all (l := [21, 4, 4, 96, 46, 42, 21, 4, 5, 96, 46, 182, 0, 207, 54, 6, 167, 5, 147, 43, 42, 21, 4, 4]) (by decide +kernel)
theorem dL_law_729 : decode cL_law 729 = .ok (.iload 4, 2) := wtL_law_729.1
theorem dL_law_731 : decode cL_law 731 = .ok (.iconst 1, 1) := wtL_law_729.2.1
theorem dL_law_732 : decode cL_law 732 = .ok (.iadd, 1) := wtL_law_729.2.2.1
theorem dL_law_733 : decode cL_law 733 = .ok (.iaload, 1) := wtL_law_729.2.2.2.1
theorem dL_law_734 : decode cL_law 734 = .ok (.aload_n 0, 1) := wtL_law_729.2.2.2.2.1
theorem dL_law_735 : decode cL_law 735 = .ok (.iload 4, 2) := wtL_law_729.2.2.2.2.2.1
theorem dL_law_737 : decode cL_law 737 = .ok (.iconst 2, 1) := wtL_law_729.2.2.2.2.2.2.1
theorem dL_law_738 : decode cL_law 738 = .ok (.iadd, 1) := wtL_law_729.2.2.2.2.2.2.2.1
theorem dL_law_739 : decode cL_law 739 = .ok (.iaload, 1) := wtL_law_729.2.2.2.2.2.2.2.2.1
theorem dL_law_740 : decode cL_law 740 = .ok (.invokevirtual 207, 3) := wtL_law_729.2.2.2.2.2.2.2.2.2.1
theorem dL_law_743 : decode cL_law 743 = .ok (.istore 6, 2) := wtL_law_729.2.2.2.2.2.2.2.2.2.2.1
theorem dL_law_745 : decode cL_law 745 = .ok (.goto 1427, 3) := wtL_law_729.2.2.2.2.2.2.2.2.2.2.2.1
theorem dL_law_748 : decode cL_law 748 = .ok (.aload_n 1, 1) := wtL_law_729.2.2.2.2.2.2.2.2.2.2.2.2.1
theorem dL_law_749 : decode cL_law 749 = .ok (.aload_n 0, 1) := wtL_law_729.2.2.2.2.2.2.2.2.2.2.2.2.2.1
theorem dL_law_750 : decode cL_law 750 = .ok (.iload 4, 2) := wtL_law_729.2.2.2.2.2.2.2.2.2.2.2.2.2.2.1
theorem dL_law_752 : decode cL_law 752 = .ok (.iconst 1, 1) := wtL_law_729.2.2.2.2.2.2.2.2.2.2.2.2.2.2.2.1
theorem wtL_law_753 : dwcj cL_law 753 [(0, .iadd, 1), (1, .iaload, 1), (2, .aload_n 0, 1), (3, .iload 4, 2), (5, .iconst 2, 1), (6, .iadd, 1), (7, .iaload, 1), (8, .aload_n 0, 1), (9, .iload 4, 2), (11, .iconst 3, 1), (12, .iadd, 1), (13, .iaload, 1), (14, .aload_n 3, 1), (15, .invokestatic 208, 3), (18, .istore 5, 2), (20, .aload_n 2, 1), (21, .aload_n 0, 1), (22, .iload 4, 2)] := dw_all (l := [96, 46, 42, 21, 4, 5, 96, 46, 42, 21, 4, 6, 96, 46, 45, 184, 0, 208, 54, 5, 44, 42, 21, 4]) (by decide +kernel)
theorem dL_law_753 : decode cL_law 753 = .ok (.iadd, 1) := wtL_law_753.1
theorem dL_law_754 : decode cL_law 754 = .ok (.iaload, 1) := wtL_law_753.2.1
theorem dL_law_755 : decode cL_law 755 = .ok (.aload_n 0, 1) := wtL_law_753.2.2.1
theorem dL_law_756 : decode cL_law 756 = .ok (.iload 4, 2) := wtL_law_753.2.2.2.1
theorem dL_law_758 : decode cL_law 758 = .ok (.iconst 2, 1) := wtL_law_753.2.2.2.2.1
theorem dL_law_759 : decode cL_law 759 = .ok (.iadd, 1) := wtL_law_753.2.2.2.2.2.1
theorem dL_law_760 : decode cL_law 760 = .ok (.iaload, 1) := wtL_law_753.2.2.2.2.2.2.1
theorem dL_law_761 : decode cL_law 761 = .ok (.aload_n 0, 1) := wtL_law_753.2.2.2.2.2.2.2.1
theorem dL_law_762 : decode cL_law 762 = .ok (.iload 4, 2) := wtL_law_753.2.2.2.2.2.2.2.2.1
theorem dL_law_764 : decode cL_law 764 = .ok (.iconst 3, 1) := wtL_law_753.2.2.2.2.2.2.2.2.2.1
theorem dL_law_765 : decode cL_law 765 = .ok (.iadd, 1) := wtL_law_753.2.2.2.2.2.2.2.2.2.2.1
theorem dL_law_766 : decode cL_law 766 = .ok (.iaload, 1) := wtL_law_753.2.2.2.2.2.2.2.2.2.2.2.1
theorem dL_law_767 : decode cL_law 767 = .ok (.aload_n 3, 1) := wtL_law_753.2.2.2.2.2.2.2.2.2.2.2.2.1
theorem dL_law_768 : decode cL_law 768 = .ok (.invokestatic 208, 3) := wtL_law_753.2.2.2.2.2.2.2.2.2.2.2.2.2.1
theorem dL_law_771 : decode cL_law 771 = .ok (.istore 5, 2) := wtL_law_753.2.2.2.2.2.2.2.2.2.2.2.2.2.2.1
theorem dL_law_773 : decode cL_law 773 = .ok (.aload_n 2, 1) := wtL_law_753.2.2.2.2.2.2.2.2.2.2.2.2.2.2.2.1
theorem dL_law_774 : decode cL_law 774 = .ok (.aload_n 0, 1) := wtL_law_753.2.2.2.2.2.2.2.2.2.2.2.2.2.2.2.2.1
theorem dL_law_775 : decode cL_law 775 = .ok (.iload 4, 2) := wtL_law_753.2.2.2.2.2.2.2.2.2.2.2.2.2.2.2.2.2.1
theorem wtL_law_777 : dwcj cL_law 777 [(0, .iconst 1, 1), (1, .iadd, 1), (2, .iaload, 1), (3, .aload_n 0, 1), (4, .iload 4, 2), (6, .iconst 2, 1), (7, .iadd, 1), (8, .iaload, 1), (9, .aload_n 0, 1), (10, .iload 4, 2), (12, .iconst 3, 1), (13, .iadd, 1), (14, .iaload, 1), (15, .invokevirtual 210, 3), (18, .istore 6, 2), (20, .goto 1375, 3), (23, .aload_n 1, 1)] := dw_all (l := [4, 96, 46, 42, 21, 4, 5, 96, 46, 42, 21, 4, 6, 96, 46, 182, 0, 210, 54, 6, 167, 5, 95, 43]) (by decide +kernel)
theorem dL_law_777 : decode cL_law 777 = .ok (.iconst 1, 1) := wtL_law_777.1
theorem dL_law_778 : decode cL_law 778 = .ok (.iadd, 1) := wtL_law_777.2.1
theorem dL_law_779 : decode cL_law 779 = .ok (.iaload, 1) := wtL_law_777.2.2.1
theorem dL_law_780 : decode cL_law 780 = .ok (.aload_n 0, 1) := wtL_law_777.2.2.2.1
theorem dL_law_781 : decode cL_law 781 = .ok (.iload 4, 2) := wtL_law_777.2.2.2.2.1
theorem dL_law_783 : decode cL_law 783 = .ok (.iconst 2, 1) := wtL_law_777.2.2.2.2.2.1
theorem dL_law_784 : decode cL_law 784 = .ok (.iadd, 1) := wtL_law_777.2.2.2.2.2.2.1
theorem dL_law_785 : decode cL_law 785 = .ok (.iaload, 1) := wtL_law_777.2.2.2.2.2.2.2.1
theorem dL_law_786 : decode cL_law 786 = .ok (.aload_n 0, 1) := wtL_law_777.2.2.2.2.2.2.2.2.1
theorem dL_law_787 : decode cL_law 787 = .ok (.iload 4, 2) := wtL_law_777.2.2.2.2.2.2.2.2.2.1
theorem dL_law_789 : decode cL_law 789 = .ok (.iconst 3, 1) := wtL_law_777.2.2.2.2.2.2.2.2.2.2.1
theorem dL_law_790 : decode cL_law 790 = .ok (.iadd, 1) := wtL_law_777.2.2.2.2.2.2.2.2.2.2.2.1
theorem dL_law_791 : decode cL_law 791 = .ok (.iaload, 1) := wtL_law_777.2.2.2.2.2.2.2.2.2.2.2.2.1
theorem dL_law_792 : decode cL_law 792 = .ok (.invokevirtual 210, 3) := wtL_law_777.2.2.2.2.2.2.2.2.2.2.2.2.2.1
theorem dL_law_795 : decode cL_law 795 = .ok (.istore 6, 2) := wtL_law_777.2.2.2.2.2.2.2.2.2.2.2.2.2.2.1
theorem dL_law_797 : decode cL_law 797 = .ok (.goto 1375, 3) := wtL_law_777.2.2.2.2.2.2.2.2.2.2.2.2.2.2.2.1
theorem dL_law_800 : decode cL_law 800 = .ok (.aload_n 1, 1) := wtL_law_777.2.2.2.2.2.2.2.2.2.2.2.2.2.2.2.2.1
theorem wtL_law_801 : dwcj cL_law 801 [(0, .aload_n 0, 1), (1, .iload 4, 2), (3, .iconst 1, 1), (4, .iadd, 1), (5, .iaload, 1), (6, .aload_n 0, 1), (7, .iload 4, 2), (9, .iconst 2, 1), (10, .iadd, 1), (11, .iaload, 1), (12, .aload_n 0, 1), (13, .iload 4, 2), (15, .iconst 3, 1), (16, .iadd, 1), (17, .iaload, 1), (18, .aload_n 3, 1), (19, .invokestatic 211, 3), (22, .istore 5, 2)] := dw_all (l := [42, 21, 4, 4, 96, 46, 42, 21, 4, 5, 96, 46, 42, 21, 4, 6, 96, 46, 45, 184, 0, 211, 54, 5]) (by decide +kernel)
theorem dL_law_801 : decode cL_law 801 = .ok (.aload_n 0, 1) := wtL_law_801.1
theorem dL_law_802 : decode cL_law 802 = .ok (.iload 4, 2) := wtL_law_801.2.1
theorem dL_law_804 : decode cL_law 804 = .ok (.iconst 1, 1) := wtL_law_801.2.2.1
theorem dL_law_805 : decode cL_law 805 = .ok (.iadd, 1) := wtL_law_801.2.2.2.1
theorem dL_law_806 : decode cL_law 806 = .ok (.iaload, 1) := wtL_law_801.2.2.2.2.1
theorem dL_law_807 : decode cL_law 807 = .ok (.aload_n 0, 1) := wtL_law_801.2.2.2.2.2.1
theorem dL_law_808 : decode cL_law 808 = .ok (.iload 4, 2) := wtL_law_801.2.2.2.2.2.2.1
theorem dL_law_810 : decode cL_law 810 = .ok (.iconst 2, 1) := wtL_law_801.2.2.2.2.2.2.2.1
theorem dL_law_811 : decode cL_law 811 = .ok (.iadd, 1) := wtL_law_801.2.2.2.2.2.2.2.2.1
theorem dL_law_812 : decode cL_law 812 = .ok (.iaload, 1) := wtL_law_801.2.2.2.2.2.2.2.2.2.1
theorem dL_law_813 : decode cL_law 813 = .ok (.aload_n 0, 1) := wtL_law_801.2.2.2.2.2.2.2.2.2.2.1
theorem dL_law_814 : decode cL_law 814 = .ok (.iload 4, 2) := wtL_law_801.2.2.2.2.2.2.2.2.2.2.2.1
theorem dL_law_816 : decode cL_law 816 = .ok (.iconst 3, 1) := wtL_law_801.2.2.2.2.2.2.2.2.2.2.2.2.1
theorem dL_law_817 : decode cL_law 817 = .ok (.iadd, 1) := wtL_law_801.2.2.2.2.2.2.2.2.2.2.2.2.2.1
theorem dL_law_818 : decode cL_law 818 = .ok (.iaload, 1) := wtL_law_801.2.2.2.2.2.2.2.2.2.2.2.2.2.2.1
theorem dL_law_819 : decode cL_law 819 = .ok (.aload_n 3, 1) := wtL_law_801.2.2.2.2.2.2.2.2.2.2.2.2.2.2.2.1
theorem dL_law_820 : decode cL_law 820 = .ok (.invokestatic 211, 3) := wtL_law_801.2.2.2.2.2.2.2.2.2.2.2.2.2.2.2.2.1
theorem dL_law_823 : decode cL_law 823 = .ok (.istore 5, 2) := wtL_law_801.2.2.2.2.2.2.2.2.2.2.2.2.2.2.2.2.2.1
theorem wtL_law_825 : dwcj cL_law 825 [(0, .aload_n 2, 1), (1, .aload_n 0, 1), (2, .iload 4, 2), (4, .iconst 1, 1), (5, .iadd, 1), (6, .iaload, 1), (7, .aload_n 0, 1), (8, .iload 4, 2), (10, .iconst 2, 1), (11, .iadd, 1), (12, .iaload, 1), (13, .aload_n 0, 1), (14, .iload 4, 2), (16, .iconst 3, 1), (17, .iadd, 1), (18, .iaload, 1), (19, .invokevirtual 213, 3), (22, .istore 6, 2)] := dw_all (l := [44, 42, 21, 4, 4, 96, 46, 42, 21, 4, 5, 96, 46, 42, 21, 4, 6, 96, 46, 182, 0, 213, 54, 6]) (by decide +kernel)
theorem dL_law_825 : decode cL_law 825 = .ok (.aload_n 2, 1) := wtL_law_825.1
theorem dL_law_826 : decode cL_law 826 = .ok (.aload_n 0, 1) := wtL_law_825.2.1
theorem dL_law_827 : decode cL_law 827 = .ok (.iload 4, 2) := wtL_law_825.2.2.1
theorem dL_law_829 : decode cL_law 829 = .ok (.iconst 1, 1) := wtL_law_825.2.2.2.1
theorem dL_law_830 : decode cL_law 830 = .ok (.iadd, 1) := wtL_law_825.2.2.2.2.1
theorem dL_law_831 : decode cL_law 831 = .ok (.iaload, 1) := wtL_law_825.2.2.2.2.2.1
theorem dL_law_832 : decode cL_law 832 = .ok (.aload_n 0, 1) := wtL_law_825.2.2.2.2.2.2.1
theorem dL_law_833 : decode cL_law 833 = .ok (.iload 4, 2) := wtL_law_825.2.2.2.2.2.2.2.1
theorem dL_law_835 : decode cL_law 835 = .ok (.iconst 2, 1) := wtL_law_825.2.2.2.2.2.2.2.2.1
theorem dL_law_836 : decode cL_law 836 = .ok (.iadd, 1) := wtL_law_825.2.2.2.2.2.2.2.2.2.1
theorem dL_law_837 : decode cL_law 837 = .ok (.iaload, 1) := wtL_law_825.2.2.2.2.2.2.2.2.2.2.1
theorem dL_law_838 : decode cL_law 838 = .ok (.aload_n 0, 1) := wtL_law_825.2.2.2.2.2.2.2.2.2.2.2.1
theorem dL_law_839 : decode cL_law 839 = .ok (.iload 4, 2) := wtL_law_825.2.2.2.2.2.2.2.2.2.2.2.2.1
theorem dL_law_841 : decode cL_law 841 = .ok (.iconst 3, 1) := wtL_law_825.2.2.2.2.2.2.2.2.2.2.2.2.2.1
theorem dL_law_842 : decode cL_law 842 = .ok (.iadd, 1) := wtL_law_825.2.2.2.2.2.2.2.2.2.2.2.2.2.2.1
theorem dL_law_843 : decode cL_law 843 = .ok (.iaload, 1) := wtL_law_825.2.2.2.2.2.2.2.2.2.2.2.2.2.2.2.1
theorem dL_law_844 : decode cL_law 844 = .ok (.invokevirtual 213, 3) := wtL_law_825.2.2.2.2.2.2.2.2.2.2.2.2.2.2.2.2.1
theorem dL_law_847 : decode cL_law 847 = .ok (.istore 6, 2) := wtL_law_825.2.2.2.2.2.2.2.2.2.2.2.2.2.2.2.2.2.1
theorem wtL_law_849 : dwcj cL_law 849 [(0, .goto 1323, 3), (3, .aload_n 1, 1), (4, .aload_n 0, 1), (5, .iload 4, 2), (7, .iconst 1, 1), (8, .iadd, 1), (9, .iaload, 1), (10, .aload_n 0, 1), (11, .iload 4, 2), (13, .iconst 2, 1), (14, .iadd, 1), (15, .iaload, 1), (16, .aload_n 0, 1), (17, .iload 4, 2), (19, .iconst 3, 1), (20, .iadd, 1), (21, .iaload, 1), (22, .aload_n 3, 1), (23, .invokestatic 214, 3)] := dw_all (l := [167, 5, 43, 43, 42, 21, 4, 4, 96, 46, 42, 21, 4, 5, 96, 46, 42, 21, 4, 6, 96, 46, 45, 184, 0, 214]) (by decide +kernel)
theorem dL_law_849 : decode cL_law 849 = .ok (.goto 1323, 3) := wtL_law_849.1
theorem dL_law_852 : decode cL_law 852 = .ok (.aload_n 1, 1) := wtL_law_849.2.1
theorem dL_law_853 : decode cL_law 853 = .ok (.aload_n 0, 1) := wtL_law_849.2.2.1
theorem dL_law_854 : decode cL_law 854 = .ok (.iload 4, 2) := wtL_law_849.2.2.2.1
theorem dL_law_856 : decode cL_law 856 = .ok (.iconst 1, 1) := wtL_law_849.2.2.2.2.1
theorem dL_law_857 : decode cL_law 857 = .ok (.iadd, 1) := wtL_law_849.2.2.2.2.2.1
theorem dL_law_858 : decode cL_law 858 = .ok (.iaload, 1) := wtL_law_849.2.2.2.2.2.2.1
theorem dL_law_859 : decode cL_law 859 = .ok (.aload_n 0, 1) := wtL_law_849.2.2.2.2.2.2.2.1
theorem dL_law_860 : decode cL_law 860 = .ok (.iload 4, 2) := wtL_law_849.2.2.2.2.2.2.2.2.1
theorem dL_law_862 : decode cL_law 862 = .ok (.iconst 2, 1) := wtL_law_849.2.2.2.2.2.2.2.2.2.1
theorem dL_law_863 : decode cL_law 863 = .ok (.iadd, 1) := wtL_law_849.2.2.2.2.2.2.2.2.2.2.1
theorem dL_law_864 : decode cL_law 864 = .ok (.iaload, 1) := wtL_law_849.2.2.2.2.2.2.2.2.2.2.2.1
theorem dL_law_865 : decode cL_law 865 = .ok (.aload_n 0, 1) := wtL_law_849.2.2.2.2.2.2.2.2.2.2.2.2.1
theorem dL_law_866 : decode cL_law 866 = .ok (.iload 4, 2) := wtL_law_849.2.2.2.2.2.2.2.2.2.2.2.2.2.1
theorem dL_law_868 : decode cL_law 868 = .ok (.iconst 3, 1) := wtL_law_849.2.2.2.2.2.2.2.2.2.2.2.2.2.2.1
theorem dL_law_869 : decode cL_law 869 = .ok (.iadd, 1) := wtL_law_849.2.2.2.2.2.2.2.2.2.2.2.2.2.2.2.1
theorem dL_law_870 : decode cL_law 870 = .ok (.iaload, 1) := wtL_law_849.2.2.2.2.2.2.2.2.2.2.2.2.2.2.2.2.1
theorem dL_law_871 : decode cL_law 871 = .ok (.aload_n 3, 1) := wtL_law_849.2.2.2.2.2.2.2.2.2.2.2.2.2.2.2.2.2.1
theorem dL_law_872 : decode cL_law 872 = .ok (.invokestatic 214, 3) := wtL_law_849.2.2.2.2.2.2.2.2.2.2.2.2.2.2.2.2.2.2.1
theorem wtL_law_875 : dwcj cL_law 875 [(0, .istore 5, 2), (2, .aload_n 2, 1), (3, .aload_n 0, 1), (4, .iload 4, 2), (6, .iconst 1, 1), (7, .iadd, 1), (8, .iaload, 1), (9, .aload_n 0, 1), (10, .iload 4, 2), (12, .iconst 2, 1), (13, .iadd, 1), (14, .iaload, 1), (15, .aload_n 0, 1), (16, .iload 4, 2), (18, .iconst 3, 1), (19, .iadd, 1), (20, .iaload, 1), (21, .invokevirtual 216, 3)] := dw_all (l := [54, 5, 44, 42, 21, 4, 4, 96, 46, 42, 21, 4, 5, 96, 46, 42, 21, 4, 6, 96, 46, 182, 0, 216]) (by decide +kernel)
theorem dL_law_875 : decode cL_law 875 = .ok (.istore 5, 2) := wtL_law_875.1
theorem dL_law_877 : decode cL_law 877 = .ok (.aload_n 2, 1) := wtL_law_875.2.1
theorem dL_law_878 : decode cL_law 878 = .ok (.aload_n 0, 1) := wtL_law_875.2.2.1
theorem dL_law_879 : decode cL_law 879 = .ok (.iload 4, 2) := wtL_law_875.2.2.2.1
theorem dL_law_881 : decode cL_law 881 = .ok (.iconst 1, 1) := wtL_law_875.2.2.2.2.1
theorem dL_law_882 : decode cL_law 882 = .ok (.iadd, 1) := wtL_law_875.2.2.2.2.2.1
theorem dL_law_883 : decode cL_law 883 = .ok (.iaload, 1) := wtL_law_875.2.2.2.2.2.2.1
theorem dL_law_884 : decode cL_law 884 = .ok (.aload_n 0, 1) := wtL_law_875.2.2.2.2.2.2.2.1
theorem dL_law_885 : decode cL_law 885 = .ok (.iload 4, 2) := wtL_law_875.2.2.2.2.2.2.2.2.1
theorem dL_law_887 : decode cL_law 887 = .ok (.iconst 2, 1) := wtL_law_875.2.2.2.2.2.2.2.2.2.1
theorem dL_law_888 : decode cL_law 888 = .ok (.iadd, 1) := wtL_law_875.2.2.2.2.2.2.2.2.2.2.1
theorem dL_law_889 : decode cL_law 889 = .ok (.iaload, 1) := wtL_law_875.2.2.2.2.2.2.2.2.2.2.2.1
theorem dL_law_890 : decode cL_law 890 = .ok (.aload_n 0, 1) := wtL_law_875.2.2.2.2.2.2.2.2.2.2.2.2.1
theorem dL_law_891 : decode cL_law 891 = .ok (.iload 4, 2) := wtL_law_875.2.2.2.2.2.2.2.2.2.2.2.2.2.1
theorem dL_law_893 : decode cL_law 893 = .ok (.iconst 3, 1) := wtL_law_875.2.2.2.2.2.2.2.2.2.2.2.2.2.2.1
theorem dL_law_894 : decode cL_law 894 = .ok (.iadd, 1) := wtL_law_875.2.2.2.2.2.2.2.2.2.2.2.2.2.2.2.1
theorem dL_law_895 : decode cL_law 895 = .ok (.iaload, 1) := wtL_law_875.2.2.2.2.2.2.2.2.2.2.2.2.2.2.2.2.1
theorem dL_law_896 : decode cL_law 896 = .ok (.invokevirtual 216, 3) := wtL_law_875.2.2.2.2.2.2.2.2.2.2.2.2.2.2.2.2.2.1
theorem wtL_law_899 : dwcj cL_law 899 [(0, .istore 6, 2), (2, .goto 1271, 3), (5, .aload_n 1, 1), (6, .aload_n 0, 1), (7, .iload 4, 2), (9, .iconst 1, 1), (10, .iadd, 1), (11, .iaload, 1), (12, .aload_n 0, 1), (13, .iload 4, 2), (15, .iconst 2, 1), (16, .iadd, 1), (17, .iaload, 1), (18, .aload_n 0, 1), (19, .iload 4, 2), (21, .iconst 3, 1), (22, .iadd, 1), (23, .iaload, 1)] := dw_all (l := [54, 6, 167, 4, 247, 43, 42, 21, 4, 4, 96, 46, 42, 21, 4, 5, 96, 46, 42, 21, 4, 6, 96, 46]) (by decide +kernel)
theorem dL_law_899 : decode cL_law 899 = .ok (.istore 6, 2) := wtL_law_899.1
theorem dL_law_901 : decode cL_law 901 = .ok (.goto 1271, 3) := wtL_law_899.2.1
theorem dL_law_904 : decode cL_law 904 = .ok (.aload_n 1, 1) := wtL_law_899.2.2.1
theorem dL_law_905 : decode cL_law 905 = .ok (.aload_n 0, 1) := wtL_law_899.2.2.2.1
theorem dL_law_906 : decode cL_law 906 = .ok (.iload 4, 2) := wtL_law_899.2.2.2.2.1
theorem dL_law_908 : decode cL_law 908 = .ok (.iconst 1, 1) := wtL_law_899.2.2.2.2.2.1
theorem dL_law_909 : decode cL_law 909 = .ok (.iadd, 1) := wtL_law_899.2.2.2.2.2.2.1
theorem dL_law_910 : decode cL_law 910 = .ok (.iaload, 1) := wtL_law_899.2.2.2.2.2.2.2.1
theorem dL_law_911 : decode cL_law 911 = .ok (.aload_n 0, 1) := wtL_law_899.2.2.2.2.2.2.2.2.1
theorem dL_law_912 : decode cL_law 912 = .ok (.iload 4, 2) := wtL_law_899.2.2.2.2.2.2.2.2.2.1
theorem dL_law_914 : decode cL_law 914 = .ok (.iconst 2, 1) := wtL_law_899.2.2.2.2.2.2.2.2.2.2.1
theorem dL_law_915 : decode cL_law 915 = .ok (.iadd, 1) := wtL_law_899.2.2.2.2.2.2.2.2.2.2.2.1
theorem dL_law_916 : decode cL_law 916 = .ok (.iaload, 1) := wtL_law_899.2.2.2.2.2.2.2.2.2.2.2.2.1
theorem dL_law_917 : decode cL_law 917 = .ok (.aload_n 0, 1) := wtL_law_899.2.2.2.2.2.2.2.2.2.2.2.2.2.1
theorem dL_law_918 : decode cL_law 918 = .ok (.iload 4, 2) := wtL_law_899.2.2.2.2.2.2.2.2.2.2.2.2.2.2.1
theorem dL_law_920 : decode cL_law 920 = .ok (.iconst 3, 1) := wtL_law_899.2.2.2.2.2.2.2.2.2.2.2.2.2.2.2.1
theorem dL_law_921 : decode cL_law 921 = .ok (.iadd, 1) := wtL_law_899.2.2.2.2.2.2.2.2.2.2.2.2.2.2.2.2.1
theorem dL_law_922 : decode cL_law 922 = .ok (.iaload, 1) := wtL_law_899.2.2.2.2.2.2.2.2.2.2.2.2.2.2.2.2.2.1
theorem wtL_law_923 : dwcj cL_law 923 [(0, .aload_n 3, 1), (1, .invokestatic 217, 3), (4, .istore 5, 2), (6, .aload_n 2, 1), (7, .aload_n 0, 1), (8, .iload 4, 2), (10, .iconst 1, 1), (11, .iadd, 1), (12, .iaload, 1), (13, .aload_n 0, 1), (14, .iload 4, 2), (16, .iconst 2, 1), (17, .iadd, 1), (18, .iaload, 1), (19, .aload_n 0, 1), (20, .iload 4, 2), (22, .iconst 3, 1), (23, .iadd, 1)] := dw_all (l := [45, 184, 0, 217, 54, 5, 44, 42, 21, 4, 4, 96, 46, 42, 21, 4, 5, 96, 46, 42, 21, 4, 6, 96]) (by decide +kernel)
theorem dL_law_923 : decode cL_law 923 = .ok (.aload_n 3, 1) := wtL_law_923.1
theorem dL_law_924 : decode cL_law 924 = .ok (.invokestatic 217, 3) := wtL_law_923.2.1
theorem dL_law_927 : decode cL_law 927 = .ok (.istore 5, 2) := wtL_law_923.2.2.1
theorem dL_law_929 : decode cL_law 929 = .ok (.aload_n 2, 1) := wtL_law_923.2.2.2.1
theorem dL_law_930 : decode cL_law 930 = .ok (.aload_n 0, 1) := wtL_law_923.2.2.2.2.1
theorem dL_law_931 : decode cL_law 931 = .ok (.iload 4, 2) := wtL_law_923.2.2.2.2.2.1
theorem dL_law_933 : decode cL_law 933 = .ok (.iconst 1, 1) := wtL_law_923.2.2.2.2.2.2.1
theorem dL_law_934 : decode cL_law 934 = .ok (.iadd, 1) := wtL_law_923.2.2.2.2.2.2.2.1
theorem dL_law_935 : decode cL_law 935 = .ok (.iaload, 1) := wtL_law_923.2.2.2.2.2.2.2.2.1
theorem dL_law_936 : decode cL_law 936 = .ok (.aload_n 0, 1) := wtL_law_923.2.2.2.2.2.2.2.2.2.1
theorem dL_law_937 : decode cL_law 937 = .ok (.iload 4, 2) := wtL_law_923.2.2.2.2.2.2.2.2.2.2.1
theorem dL_law_939 : decode cL_law 939 = .ok (.iconst 2, 1) := wtL_law_923.2.2.2.2.2.2.2.2.2.2.2.1
theorem dL_law_940 : decode cL_law 940 = .ok (.iadd, 1) := wtL_law_923.2.2.2.2.2.2.2.2.2.2.2.2.1
theorem dL_law_941 : decode cL_law 941 = .ok (.iaload, 1) := wtL_law_923.2.2.2.2.2.2.2.2.2.2.2.2.2.1
theorem dL_law_942 : decode cL_law 942 = .ok (.aload_n 0, 1) := wtL_law_923.2.2.2.2.2.2.2.2.2.2.2.2.2.2.1
theorem dL_law_943 : decode cL_law 943 = .ok (.iload 4, 2) := wtL_law_923.2.2.2.2.2.2.2.2.2.2.2.2.2.2.2.1
theorem dL_law_945 : decode cL_law 945 = .ok (.iconst 3, 1) := wtL_law_923.2.2.2.2.2.2.2.2.2.2.2.2.2.2.2.2.1
theorem dL_law_946 : decode cL_law 946 = .ok (.iadd, 1) := wtL_law_923.2.2.2.2.2.2.2.2.2.2.2.2.2.2.2.2.2.1
theorem wtL_law_947 : dwcj cL_law 947 [(0, .iaload, 1), (1, .invokevirtual 219, 3), (4, .istore 6, 2), (6, .goto 1219, 3), (9, .aload_n 1, 1), (10, .aload_n 0, 1), (11, .iload 4, 2), (13, .iconst 1, 1), (14, .iadd, 1), (15, .iaload, 1), (16, .aload_n 0, 1), (17, .iload 4, 2), (19, .iconst 2, 1), (20, .iadd, 1), (21, .iaload, 1), (22, .aload_n 0, 1), (23, .iload 4, 2)] := dw_all (l := [46, 182, 0, 219, 54, 6, 167, 4, 195, 43, 42, 21, 4, 4, 96, 46, 42, 21, 4, 5, 96, 46, 42, 21, 4]) (by decide +kernel)
theorem dL_law_947 : decode cL_law 947 = .ok (.iaload, 1) := wtL_law_947.1
theorem dL_law_948 : decode cL_law 948 = .ok (.invokevirtual 219, 3) := wtL_law_947.2.1
theorem dL_law_951 : decode cL_law 951 = .ok (.istore 6, 2) := wtL_law_947.2.2.1
theorem dL_law_953 : decode cL_law 953 = .ok (.goto 1219, 3) := wtL_law_947.2.2.2.1
theorem dL_law_956 : decode cL_law 956 = .ok (.aload_n 1, 1) := wtL_law_947.2.2.2.2.1
theorem dL_law_957 : decode cL_law 957 = .ok (.aload_n 0, 1) := wtL_law_947.2.2.2.2.2.1
theorem dL_law_958 : decode cL_law 958 = .ok (.iload 4, 2) := wtL_law_947.2.2.2.2.2.2.1
theorem dL_law_960 : decode cL_law 960 = .ok (.iconst 1, 1) := wtL_law_947.2.2.2.2.2.2.2.1
theorem dL_law_961 : decode cL_law 961 = .ok (.iadd, 1) := wtL_law_947.2.2.2.2.2.2.2.2.1
theorem dL_law_962 : decode cL_law 962 = .ok (.iaload, 1) := wtL_law_947.2.2.2.2.2.2.2.2.2.1
theorem dL_law_963 : decode cL_law 963 = .ok (.aload_n 0, 1) := wtL_law_947.2.2.2.2.2.2.2.2.2.2.1
theorem dL_law_964 : decode cL_law 964 = .ok (.iload 4, 2) := wtL_law_947.2.2.2.2.2.2.2.2.2.2.2.1
theorem dL_law_966 : decode cL_law 966 = .ok (.iconst 2, 1) := wtL_law_947.2.2.2.2.2.2.2.2.2.2.2.2.1
theorem dL_law_967 : decode cL_law 967 = .ok (.iadd, 1) := wtL_law_947.2.2.2.2.2.2.2.2.2.2.2.2.2.1
theorem dL_law_968 : decode cL_law 968 = .ok (.iaload, 1) := wtL_law_947.2.2.2.2.2.2.2.2.2.2.2.2.2.2.1
theorem dL_law_969 : decode cL_law 969 = .ok (.aload_n 0, 1) := wtL_law_947.2.2.2.2.2.2.2.2.2.2.2.2.2.2.2.1
theorem dL_law_970 : decode cL_law 970 = .ok (.iload 4, 2) := wtL_law_947.2.2.2.2.2.2.2.2.2.2.2.2.2.2.2.2.1
theorem wtL_law_972 : dwcj cL_law 972 [(0, .iconst 3, 1), (1, .iadd, 1), (2, .iaload, 1), (3, .aload_n 3, 1), (4, .invokestatic 220, 3), (7, .istore 5, 2), (9, .aload_n 2, 1), (10, .aload_n 0, 1), (11, .iload 4, 2), (13, .iconst 1, 1), (14, .iadd, 1), (15, .iaload, 1), (16, .aload_n 0, 1), (17, .iload 4, 2), (19, .iconst 2, 1), (20, .iadd, 1), (21, .iaload, 1), (22, .aload_n 0, 1), (23, .iload 4, 2)] := dw_all (l := [6, 96, 46, 45, 184, 0, 220, 54, 5, 44, 42, 21, 4, 4, 96, 46, 42, 21, 4, 5, 96, 46, 42, 21, 4]) (by decide +kernel)
theorem dL_law_972 : decode cL_law 972 = .ok (.iconst 3, 1) := wtL_law_972.1
theorem dL_law_973 : decode cL_law 973 = .ok (.iadd, 1) := wtL_law_972.2.1
theorem dL_law_974 : decode cL_law 974 = .ok (.iaload, 1) := wtL_law_972.2.2.1
theorem dL_law_975 : decode cL_law 975 = .ok (.aload_n 3, 1) := wtL_law_972.2.2.2.1
theorem dL_law_976 : decode cL_law 976 = .ok (.invokestatic 220, 3) := wtL_law_972.2.2.2.2.1
theorem dL_law_979 : decode cL_law 979 = .ok (.istore 5, 2) := wtL_law_972.2.2.2.2.2.1
theorem dL_law_981 : decode cL_law 981 = .ok (.aload_n 2, 1) := wtL_law_972.2.2.2.2.2.2.1
theorem dL_law_982 : decode cL_law 982 = .ok (.aload_n 0, 1) := wtL_law_972.2.2.2.2.2.2.2.1
theorem dL_law_983 : decode cL_law 983 = .ok (.iload 4, 2) := wtL_law_972.2.2.2.2.2.2.2.2.1
theorem dL_law_985 : decode cL_law 985 = .ok (.iconst 1, 1) := wtL_law_972.2.2.2.2.2.2.2.2.2.1
theorem dL_law_986 : decode cL_law 986 = .ok (.iadd, 1) := wtL_law_972.2.2.2.2.2.2.2.2.2.2.1
theorem dL_law_987 : decode cL_law 987 = .ok (.iaload, 1) := wtL_law_972.2.2.2.2.2.2.2.2.2.2.2.1
theorem dL_law_988 : decode cL_law 988 = .ok (.aload_n 0, 1) := wtL_law_972.2.2.2.2.2.2.2.2.2.2.2.2.1
theorem dL_law_989 : decode cL_law 989 = .ok (.iload 4, 2) := wtL_law_972.2.2.2.2.2.2.2.2.2.2.2.2.2.1
theorem dL_law_991 : decode cL_law 991 = .ok (.iconst 2, 1) := wtL_law_972.2.2.2.2.2.2.2.2.2.2.2.2.2.2.1
theorem dL_law_992 : decode cL_law 992 = .ok (.iadd, 1) := wtL_law_972.2.2.2.2.2.2.2.2.2.2.2.2.2.2.2.1
theorem dL_law_993 : decode cL_law 993 = .ok (.iaload, 1) := wtL_law_972.2.2.2.2.2.2.2.2.2.2.2.2.2.2.2.2.1
theorem dL_law_994 : decode cL_law 994 = .ok (.aload_n 0, 1) := wtL_law_972.2.2.2.2.2.2.2.2.2.2.2.2.2.2.2.2.2.1
theorem dL_law_995 : decode cL_law 995 = .ok (.iload 4, 2) := wtL_law_972.2.2.2.2.2.2.2.2.2.2.2.2.2.2.2.2.2.2.1
theorem wtL_law_997 : dwcj cL_law 997 [(0, .iconst 3, 1), (1, .iadd, 1), (2, .iaload, 1), (3, .invokevirtual 222, 3), (6, .istore 6, 2), (8, .goto 1167, 3), (11, .aload_n 1, 1), (12, .aload_n 0, 1), (13, .iload 4, 2), (15, .iconst 1, 1), (16, .iadd, 1), (17, .iaload, 1), (18, .aload_n 0, 1), (19, .iload 4, 2), (21, .iconst 2, 1), (22, .iadd, 1), (23, .iaload, 1)] := dw_all (l := [6, 96, 46, 182, 0, 222, 54, 6, 167, 4, 143, 43, 42, 21, 4, 4, 96, 46, 42, 21, 4, 5, 96, 46]) (by decide +kernel)
theorem dL_law_997 : decode cL_law 997 = .ok (.iconst 3, 1) := wtL_law_997.1
theorem dL_law_998 : decode cL_law 998 = .ok (.iadd, 1) := wtL_law_997.2.1
theorem dL_law_999 : decode cL_law 999 = .ok (.iaload, 1) := wtL_law_997.2.2.1
theorem dL_law_1000 : decode cL_law 1000 = .ok (.invokevirtual 222, 3) := wtL_law_997.2.2.2.1
theorem dL_law_1003 : decode cL_law 1003 = .ok (.istore 6, 2) := wtL_law_997.2.2.2.2.1
theorem dL_law_1005 : decode cL_law 1005 = .ok (.goto 1167, 3) := wtL_law_997.2.2.2.2.2.1
theorem dL_law_1008 : decode cL_law 1008 = .ok (.aload_n 1, 1) := wtL_law_997.2.2.2.2.2.2.1
theorem dL_law_1009 : decode cL_law 1009 = .ok (.aload_n 0, 1) := wtL_law_997.2.2.2.2.2.2.2.1
theorem dL_law_1010 : decode cL_law 1010 = .ok (.iload 4, 2) := wtL_law_997.2.2.2.2.2.2.2.2.1
theorem dL_law_1012 : decode cL_law 1012 = .ok (.iconst 1, 1) := wtL_law_997.2.2.2.2.2.2.2.2.2.1
theorem dL_law_1013 : decode cL_law 1013 = .ok (.iadd, 1) := wtL_law_997.2.2.2.2.2.2.2.2.2.2.1
theorem dL_law_1014 : decode cL_law 1014 = .ok (.iaload, 1) := wtL_law_997.2.2.2.2.2.2.2.2.2.2.2.1
theorem dL_law_1015 : decode cL_law 1015 = .ok (.aload_n 0, 1) := wtL_law_997.2.2.2.2.2.2.2.2.2.2.2.2.1
theorem dL_law_1016 : decode cL_law 1016 = .ok (.iload 4, 2) := wtL_law_997.2.2.2.2.2.2.2.2.2.2.2.2.2.1
theorem dL_law_1018 : decode cL_law 1018 = .ok (.iconst 2, 1) := wtL_law_997.2.2.2.2.2.2.2.2.2.2.2.2.2.2.1
theorem dL_law_1019 : decode cL_law 1019 = .ok (.iadd, 1) := wtL_law_997.2.2.2.2.2.2.2.2.2.2.2.2.2.2.2.1
theorem dL_law_1020 : decode cL_law 1020 = .ok (.iaload, 1) := wtL_law_997.2.2.2.2.2.2.2.2.2.2.2.2.2.2.2.2.1
theorem wtL_law_1021 : dwcj cL_law 1021 [(0, .aload_n 0, 1), (1, .iload 4, 2), (3, .iconst 3, 1), (4, .iadd, 1), (5, .iaload, 1), (6, .ifCond .eq 7, 3), (9, .iconst 1, 1), (10, .goto 4, 3), (13, .iconst 0, 1), (14, .aload_n 0, 1), (15, .iload 4, 2), (17, .iconst 4, 1), (18, .iadd, 1), (19, .iaload, 1), (20, .aload_n 3, 1), (21, .invokestatic 223, 3)] := dw_all (l := [42, 21, 4, 6, 96, 46, 153, 0, 7, 4, 167, 0, 4, 3, 42, 21, 4, 7, 96, 46, 45, 184, 0, 223]) (by decide +kernel)
theorem dL_law_1021 : decode cL_law 1021 = .ok (.aload_n 0, 1) := wtL_law_1021.1
theorem dL_law_1022 : decode cL_law 1022 = .ok (.iload 4, 2) := wtL_law_1021.2.1
theorem dL_law_1024 : decode cL_law 1024 = .ok (.iconst 3, 1) := wtL_law_1021.2.2.1
theorem dL_law_1025 : decode cL_law 1025 = .ok (.iadd, 1) := wtL_law_1021.2.2.2.1
theorem dL_law_1026 : decode cL_law 1026 = .ok (.iaload, 1) := wtL_law_1021.2.2.2.2.1
theorem dL_law_1027 : decode cL_law 1027 = .ok (.ifCond .eq 7, 3) := wtL_law_1021.2.2.2.2.2.1
theorem dL_law_1030 : decode cL_law 1030 = .ok (.iconst 1, 1) := wtL_law_1021.2.2.2.2.2.2.1
theorem dL_law_1031 : decode cL_law 1031 = .ok (.goto 4, 3) := wtL_law_1021.2.2.2.2.2.2.2.1
theorem dL_law_1034 : decode cL_law 1034 = .ok (.iconst 0, 1) := wtL_law_1021.2.2.2.2.2.2.2.2.1
theorem dL_law_1035 : decode cL_law 1035 = .ok (.aload_n 0, 1) := wtL_law_1021.2.2.2.2.2.2.2.2.2.1
theorem dL_law_1036 : decode cL_law 1036 = .ok (.iload 4, 2) := wtL_law_1021.2.2.2.2.2.2.2.2.2.2.1
theorem dL_law_1038 : decode cL_law 1038 = .ok (.iconst 4, 1) := wtL_law_1021.2.2.2.2.2.2.2.2.2.2.2.1
theorem dL_law_1039 : decode cL_law 1039 = .ok (.iadd, 1) := wtL_law_1021.2.2.2.2.2.2.2.2.2.2.2.2.1
theorem dL_law_1040 : decode cL_law 1040 = .ok (.iaload, 1) := wtL_law_1021.2.2.2.2.2.2.2.2.2.2.2.2.2.1
theorem dL_law_1041 : decode cL_law 1041 = .ok (.aload_n 3, 1) := wtL_law_1021.2.2.2.2.2.2.2.2.2.2.2.2.2.2.1
theorem dL_law_1042 : decode cL_law 1042 = .ok (.invokestatic 223, 3) := wtL_law_1021.2.2.2.2.2.2.2.2.2.2.2.2.2.2.2.1
theorem wtL_law_1045 : dwcj cL_law 1045 [(0, .istore 5, 2), (2, .aload_n 2, 1), (3, .aload_n 0, 1), (4, .iload 4, 2), (6, .iconst 1, 1), (7, .iadd, 1), (8, .iaload, 1), (9, .aload_n 0, 1), (10, .iload 4, 2), (12, .iconst 2, 1), (13, .iadd, 1), (14, .iaload, 1), (15, .aload_n 0, 1), (16, .iload 4, 2), (18, .iconst 3, 1), (19, .iadd, 1), (20, .iaload, 1), (21, .ifCond .eq 7, 3)] := dw_all (l := [54, 5, 44, 42, 21, 4, 4, 96, 46, 42, 21, 4, 5, 96, 46, 42, 21, 4, 6, 96, 46, 153, 0, 7]) (by decide +kernel)
theorem dL_law_1045 : decode cL_law 1045 = .ok (.istore 5, 2) := wtL_law_1045.1
theorem dL_law_1047 : decode cL_law 1047 = .ok (.aload_n 2, 1) := wtL_law_1045.2.1
theorem dL_law_1048 : decode cL_law 1048 = .ok (.aload_n 0, 1) := wtL_law_1045.2.2.1
theorem dL_law_1049 : decode cL_law 1049 = .ok (.iload 4, 2) := wtL_law_1045.2.2.2.1
theorem dL_law_1051 : decode cL_law 1051 = .ok (.iconst 1, 1) := wtL_law_1045.2.2.2.2.1
theorem dL_law_1052 : decode cL_law 1052 = .ok (.iadd, 1) := wtL_law_1045.2.2.2.2.2.1
theorem dL_law_1053 : decode cL_law 1053 = .ok (.iaload, 1) := wtL_law_1045.2.2.2.2.2.2.1
theorem dL_law_1054 : decode cL_law 1054 = .ok (.aload_n 0, 1) := wtL_law_1045.2.2.2.2.2.2.2.1
theorem dL_law_1055 : decode cL_law 1055 = .ok (.iload 4, 2) := wtL_law_1045.2.2.2.2.2.2.2.2.1
theorem dL_law_1057 : decode cL_law 1057 = .ok (.iconst 2, 1) := wtL_law_1045.2.2.2.2.2.2.2.2.2.1
theorem dL_law_1058 : decode cL_law 1058 = .ok (.iadd, 1) := wtL_law_1045.2.2.2.2.2.2.2.2.2.2.1
theorem dL_law_1059 : decode cL_law 1059 = .ok (.iaload, 1) := wtL_law_1045.2.2.2.2.2.2.2.2.2.2.2.1
theorem dL_law_1060 : decode cL_law 1060 = .ok (.aload_n 0, 1) := wtL_law_1045.2.2.2.2.2.2.2.2.2.2.2.2.1
theorem dL_law_1061 : decode cL_law 1061 = .ok (.iload 4, 2) := wtL_law_1045.2.2.2.2.2.2.2.2.2.2.2.2.2.1
theorem dL_law_1063 : decode cL_law 1063 = .ok (.iconst 3, 1) := wtL_law_1045.2.2.2.2.2.2.2.2.2.2.2.2.2.2.1
theorem dL_law_1064 : decode cL_law 1064 = .ok (.iadd, 1) := wtL_law_1045.2.2.2.2.2.2.2.2.2.2.2.2.2.2.2.1
theorem dL_law_1065 : decode cL_law 1065 = .ok (.iaload, 1) := wtL_law_1045.2.2.2.2.2.2.2.2.2.2.2.2.2.2.2.2.1
theorem dL_law_1066 : decode cL_law 1066 = .ok (.ifCond .eq 7, 3) := wtL_law_1045.2.2.2.2.2.2.2.2.2.2.2.2.2.2.2.2.2.1
theorem wtL_law_1069 : dwcj cL_law 1069 [(0, .iconst 1, 1), (1, .goto 4, 3), (4, .iconst 0, 1), (5, .aload_n 0, 1), (6, .iload 4, 2), (8, .iconst 4, 1), (9, .iadd, 1), (10, .iaload, 1), (11, .invokevirtual 225, 3), (14, .istore 6, 2), (16, .goto 1087, 3), (19, .aload_n 1, 1), (20, .aload_n 0, 1), (21, .iload 4, 2), (23, .iconst 1, 1)] := dw_all (l := [4, 167, 0, 4, 3, 42, 21, 4, 7, 96, 46, 182, 0, 225, 54, 6, 167, 4, 63, 43, 42, 21, 4, 4]) (by decide +kernel)
theorem dL_law_1069 : decode cL_law 1069 = .ok (.iconst 1, 1) := wtL_law_1069.1
theorem dL_law_1070 : decode cL_law 1070 = .ok (.goto 4, 3) := wtL_law_1069.2.1
theorem dL_law_1073 : decode cL_law 1073 = .ok (.iconst 0, 1) := wtL_law_1069.2.2.1
theorem dL_law_1074 : decode cL_law 1074 = .ok (.aload_n 0, 1) := wtL_law_1069.2.2.2.1
theorem dL_law_1075 : decode cL_law 1075 = .ok (.iload 4, 2) := wtL_law_1069.2.2.2.2.1
theorem dL_law_1077 : decode cL_law 1077 = .ok (.iconst 4, 1) := wtL_law_1069.2.2.2.2.2.1
theorem dL_law_1078 : decode cL_law 1078 = .ok (.iadd, 1) := wtL_law_1069.2.2.2.2.2.2.1
theorem dL_law_1079 : decode cL_law 1079 = .ok (.iaload, 1) := wtL_law_1069.2.2.2.2.2.2.2.1
theorem dL_law_1080 : decode cL_law 1080 = .ok (.invokevirtual 225, 3) := wtL_law_1069.2.2.2.2.2.2.2.2.1
theorem dL_law_1083 : decode cL_law 1083 = .ok (.istore 6, 2) := wtL_law_1069.2.2.2.2.2.2.2.2.2.1
theorem dL_law_1085 : decode cL_law 1085 = .ok (.goto 1087, 3) := wtL_law_1069.2.2.2.2.2.2.2.2.2.2.1
theorem dL_law_1088 : decode cL_law 1088 = .ok (.aload_n 1, 1) := wtL_law_1069.2.2.2.2.2.2.2.2.2.2.2.1
theorem dL_law_1089 : decode cL_law 1089 = .ok (.aload_n 0, 1) := wtL_law_1069.2.2.2.2.2.2.2.2.2.2.2.2.1
theorem dL_law_1090 : decode cL_law 1090 = .ok (.iload 4, 2) := wtL_law_1069.2.2.2.2.2.2.2.2.2.2.2.2.2.1
theorem dL_law_1092 : decode cL_law 1092 = .ok (.iconst 1, 1) := wtL_law_1069.2.2.2.2.2.2.2.2.2.2.2.2.2.2.1
theorem wtL_law_1093 : dwcj cL_law 1093 [(0, .iadd, 1), (1, .iaload, 1), (2, .aload_n 0, 1), (3, .iload 4, 2), (5, .iconst 2, 1), (6, .iadd, 1), (7, .iaload, 1), (8, .aload_n 3, 1), (9, .invokestatic 226, 3), (12, .istore 5, 2), (14, .aload_n 2, 1), (15, .aload_n 0, 1), (16, .iload 4, 2), (18, .iconst 1, 1), (19, .iadd, 1), (20, .iaload, 1), (21, .aload_n 0, 1), (22, .iload 4, 2)] := dw_all (l := [96, 46, 42, 21, 4, 5, 96, 46, 45, 184, 0, 226, 54, 5, 44, 42, 21, 4, 4, 96, 46, 42, 21, 4]) (by decide +kernel)
theorem dL_law_1093 : decode cL_law 1093 = .ok (.iadd, 1) := wtL_law_1093.1
theorem dL_law_1094 : decode cL_law 1094 = .ok (.iaload, 1) := wtL_law_1093.2.1
theorem dL_law_1095 : decode cL_law 1095 = .ok (.aload_n 0, 1) := wtL_law_1093.2.2.1
theorem dL_law_1096 : decode cL_law 1096 = .ok (.iload 4, 2) := wtL_law_1093.2.2.2.1
theorem dL_law_1098 : decode cL_law 1098 = .ok (.iconst 2, 1) := wtL_law_1093.2.2.2.2.1
theorem dL_law_1099 : decode cL_law 1099 = .ok (.iadd, 1) := wtL_law_1093.2.2.2.2.2.1
theorem dL_law_1100 : decode cL_law 1100 = .ok (.iaload, 1) := wtL_law_1093.2.2.2.2.2.2.1
theorem dL_law_1101 : decode cL_law 1101 = .ok (.aload_n 3, 1) := wtL_law_1093.2.2.2.2.2.2.2.1
theorem dL_law_1102 : decode cL_law 1102 = .ok (.invokestatic 226, 3) := wtL_law_1093.2.2.2.2.2.2.2.2.1
theorem dL_law_1105 : decode cL_law 1105 = .ok (.istore 5, 2) := wtL_law_1093.2.2.2.2.2.2.2.2.2.1
theorem dL_law_1107 : decode cL_law 1107 = .ok (.aload_n 2, 1) := wtL_law_1093.2.2.2.2.2.2.2.2.2.2.1
theorem dL_law_1108 : decode cL_law 1108 = .ok (.aload_n 0, 1) := wtL_law_1093.2.2.2.2.2.2.2.2.2.2.2.1
theorem dL_law_1109 : decode cL_law 1109 = .ok (.iload 4, 2) := wtL_law_1093.2.2.2.2.2.2.2.2.2.2.2.2.1
theorem dL_law_1111 : decode cL_law 1111 = .ok (.iconst 1, 1) := wtL_law_1093.2.2.2.2.2.2.2.2.2.2.2.2.2.1
theorem dL_law_1112 : decode cL_law 1112 = .ok (.iadd, 1) := wtL_law_1093.2.2.2.2.2.2.2.2.2.2.2.2.2.2.1
theorem dL_law_1113 : decode cL_law 1113 = .ok (.iaload, 1) := wtL_law_1093.2.2.2.2.2.2.2.2.2.2.2.2.2.2.2.1
theorem dL_law_1114 : decode cL_law 1114 = .ok (.aload_n 0, 1) := wtL_law_1093.2.2.2.2.2.2.2.2.2.2.2.2.2.2.2.2.1
theorem dL_law_1115 : decode cL_law 1115 = .ok (.iload 4, 2) := wtL_law_1093.2.2.2.2.2.2.2.2.2.2.2.2.2.2.2.2.2.1
theorem wtL_law_1117 : dwcj cL_law 1117 [(0, .iconst 2, 1), (1, .iadd, 1), (2, .iaload, 1), (3, .invokevirtual 228, 3), (6, .istore 6, 2), (8, .goto 1047, 3), (11, .aload_n 1, 1), (12, .aload_n 0, 1), (13, .iload 4, 2), (15, .iconst 1, 1), (16, .iadd, 1), (17, .iaload, 1), (18, .aload_n 0, 1), (19, .iload 4, 2), (21, .iconst 2, 1), (22, .iadd, 1), (23, .iaload, 1)] := dw_all (l := [5, 96, 46, 182, 0, 228, 54, 6, 167, 4, 23, 43, 42, 21, 4, 4, 96, 46, 42, 21, 4, 5, 96, 46]) (by decide +kernel)
theorem dL_law_1117 : decode cL_law 1117 = .ok (.iconst 2, 1) := wtL_law_1117.1
theorem dL_law_1118 : decode cL_law 1118 = .ok (.iadd, 1) := wtL_law_1117.2.1
theorem dL_law_1119 : decode cL_law 1119 = .ok (.iaload, 1) := wtL_law_1117.2.2.1
theorem dL_law_1120 : decode cL_law 1120 = .ok (.invokevirtual 228, 3) := wtL_law_1117.2.2.2.1
theorem dL_law_1123 : decode cL_law 1123 = .ok (.istore 6, 2) := wtL_law_1117.2.2.2.2.1
theorem dL_law_1125 : decode cL_law 1125 = .ok (.goto 1047, 3) := wtL_law_1117.2.2.2.2.2.1
theorem dL_law_1128 : decode cL_law 1128 = .ok (.aload_n 1, 1) := wtL_law_1117.2.2.2.2.2.2.1
theorem dL_law_1129 : decode cL_law 1129 = .ok (.aload_n 0, 1) := wtL_law_1117.2.2.2.2.2.2.2.1
theorem dL_law_1130 : decode cL_law 1130 = .ok (.iload 4, 2) := wtL_law_1117.2.2.2.2.2.2.2.2.1
theorem dL_law_1132 : decode cL_law 1132 = .ok (.iconst 1, 1) := wtL_law_1117.2.2.2.2.2.2.2.2.2.1
theorem dL_law_1133 : decode cL_law 1133 = .ok (.iadd, 1) := wtL_law_1117.2.2.2.2.2.2.2.2.2.2.1
theorem dL_law_1134 : decode cL_law 1134 = .ok (.iaload, 1) := wtL_law_1117.2.2.2.2.2.2.2.2.2.2.2.1
theorem dL_law_1135 : decode cL_law 1135 = .ok (.aload_n 0, 1) := wtL_law_1117.2.2.2.2.2.2.2.2.2.2.2.2.1
theorem dL_law_1136 : decode cL_law 1136 = .ok (.iload 4, 2) := wtL_law_1117.2.2.2.2.2.2.2.2.2.2.2.2.2.1
theorem dL_law_1138 : decode cL_law 1138 = .ok (.iconst 2, 1) := wtL_law_1117.2.2.2.2.2.2.2.2.2.2.2.2.2.2.1
theorem dL_law_1139 : decode cL_law 1139 = .ok (.iadd, 1) := wtL_law_1117.2.2.2.2.2.2.2.2.2.2.2.2.2.2.2.1
theorem dL_law_1140 : decode cL_law 1140 = .ok (.iaload, 1) := wtL_law_1117.2.2.2.2.2.2.2.2.2.2.2.2.2.2.2.2.1
theorem wtL_law_1141 : dwcj cL_law 1141 [(0, .aload_n 3, 1), (1, .invokestatic 229, 3), (4, .istore 5, 2), (6, .aload_n 2, 1), (7, .aload_n 0, 1), (8, .iload 4, 2), (10, .iconst 1, 1), (11, .iadd, 1), (12, .iaload, 1), (13, .aload_n 0, 1), (14, .iload 4, 2), (16, .iconst 2, 1), (17, .iadd, 1), (18, .iaload, 1), (19, .invokevirtual 231, 3), (22, .istore 6, 2)] := dw_all (l := [45, 184, 0, 229, 54, 5, 44, 42, 21, 4, 4, 96, 46, 42, 21, 4, 5, 96, 46, 182, 0, 231, 54, 6]) (by decide +kernel)
theorem dL_law_1141 : decode cL_law 1141 = .ok (.aload_n 3, 1) := wtL_law_1141.1
theorem dL_law_1142 : decode cL_law 1142 = .ok (.invokestatic 229, 3) := wtL_law_1141.2.1
theorem dL_law_1145 : decode cL_law 1145 = .ok (.istore 5, 2) := wtL_law_1141.2.2.1
theorem dL_law_1147 : decode cL_law 1147 = .ok (.aload_n 2, 1) := wtL_law_1141.2.2.2.1
theorem dL_law_1148 : decode cL_law 1148 = .ok (.aload_n 0, 1) := wtL_law_1141.2.2.2.2.1
theorem dL_law_1149 : decode cL_law 1149 = .ok (.iload 4, 2) := wtL_law_1141.2.2.2.2.2.1
theorem dL_law_1151 : decode cL_law 1151 = .ok (.iconst 1, 1) := wtL_law_1141.2.2.2.2.2.2.1
theorem dL_law_1152 : decode cL_law 1152 = .ok (.iadd, 1) := wtL_law_1141.2.2.2.2.2.2.2.1
theorem dL_law_1153 : decode cL_law 1153 = .ok (.iaload, 1) := wtL_law_1141.2.2.2.2.2.2.2.2.1
theorem dL_law_1154 : decode cL_law 1154 = .ok (.aload_n 0, 1) := wtL_law_1141.2.2.2.2.2.2.2.2.2.1
theorem dL_law_1155 : decode cL_law 1155 = .ok (.iload 4, 2) := wtL_law_1141.2.2.2.2.2.2.2.2.2.2.1
theorem dL_law_1157 : decode cL_law 1157 = .ok (.iconst 2, 1) := wtL_law_1141.2.2.2.2.2.2.2.2.2.2.2.1
theorem dL_law_1158 : decode cL_law 1158 = .ok (.iadd, 1) := wtL_law_1141.2.2.2.2.2.2.2.2.2.2.2.2.1
theorem dL_law_1159 : decode cL_law 1159 = .ok (.iaload, 1) := wtL_law_1141.2.2.2.2.2.2.2.2.2.2.2.2.2.1
theorem dL_law_1160 : decode cL_law 1160 = .ok (.invokevirtual 231, 3) := wtL_law_1141.2.2.2.2.2.2.2.2.2.2.2.2.2.2.1
theorem dL_law_1163 : decode cL_law 1163 = .ok (.istore 6, 2) := wtL_law_1141.2.2.2.2.2.2.2.2.2.2.2.2.2.2.2.1
theorem wtL_law_1165 : dwcj cL_law 1165 [(0, .goto 1007, 3), (3, .aload_n 1, 1), (4, .aload_n 0, 1), (5, .iload 4, 2), (7, .iconst 1, 1), (8, .iadd, 1), (9, .iaload, 1), (10, .aload_n 0, 1), (11, .iload 4, 2), (13, .iconst 2, 1), (14, .iadd, 1), (15, .iaload, 1), (16, .aload_n 3, 1), (17, .invokestatic 232, 3), (20, .istore 5, 2), (22, .aload_n 2, 1), (23, .aload_n 0, 1)] := dw_all (l := [167, 3, 239, 43, 42, 21, 4, 4, 96, 46, 42, 21, 4, 5, 96, 46, 45, 184, 0, 232, 54, 5, 44, 42]) (by decide +kernel)
theorem dL_law_1165 : decode cL_law 1165 = .ok (.goto 1007, 3) := wtL_law_1165.1
theorem dL_law_1168 : decode cL_law 1168 = .ok (.aload_n 1, 1) := wtL_law_1165.2.1
theorem dL_law_1169 : decode cL_law 1169 = .ok (.aload_n 0, 1) := wtL_law_1165.2.2.1
theorem dL_law_1170 : decode cL_law 1170 = .ok (.iload 4, 2) := wtL_law_1165.2.2.2.1
theorem dL_law_1172 : decode cL_law 1172 = .ok (.iconst 1, 1) := wtL_law_1165.2.2.2.2.1
theorem dL_law_1173 : decode cL_law 1173 = .ok (.iadd, 1) := wtL_law_1165.2.2.2.2.2.1
theorem dL_law_1174 : decode cL_law 1174 = .ok (.iaload, 1) := wtL_law_1165.2.2.2.2.2.2.1
theorem dL_law_1175 : decode cL_law 1175 = .ok (.aload_n 0, 1) := wtL_law_1165.2.2.2.2.2.2.2.1
theorem dL_law_1176 : decode cL_law 1176 = .ok (.iload 4, 2) := wtL_law_1165.2.2.2.2.2.2.2.2.1
theorem dL_law_1178 : decode cL_law 1178 = .ok (.iconst 2, 1) := wtL_law_1165.2.2.2.2.2.2.2.2.2.1
theorem dL_law_1179 : decode cL_law 1179 = .ok (.iadd, 1) := wtL_law_1165.2.2.2.2.2.2.2.2.2.2.1
theorem dL_law_1180 : decode cL_law 1180 = .ok (.iaload, 1) := wtL_law_1165.2.2.2.2.2.2.2.2.2.2.2.1
theorem dL_law_1181 : decode cL_law 1181 = .ok (.aload_n 3, 1) := wtL_law_1165.2.2.2.2.2.2.2.2.2.2.2.2.1
theorem dL_law_1182 : decode cL_law 1182 = .ok (.invokestatic 232, 3) := wtL_law_1165.2.2.2.2.2.2.2.2.2.2.2.2.2.1
theorem dL_law_1185 : decode cL_law 1185 = .ok (.istore 5, 2) := wtL_law_1165.2.2.2.2.2.2.2.2.2.2.2.2.2.2.1
theorem dL_law_1187 : decode cL_law 1187 = .ok (.aload_n 2, 1) := wtL_law_1165.2.2.2.2.2.2.2.2.2.2.2.2.2.2.2.1
theorem dL_law_1188 : decode cL_law 1188 = .ok (.aload_n 0, 1) := wtL_law_1165.2.2.2.2.2.2.2.2.2.2.2.2.2.2.2.2.1
theorem wtL_law_1189 : dwcj cL_law 1189 [(0, .iload 4, 2), (2, .iconst 1, 1), (3, .iadd, 1), (4, .iaload, 1), (5, .aload_n 0, 1), (6, .iload 4, 2), (8, .iconst 2, 1), (9, .iadd, 1), (10, .iaload, 1), (11, .invokevirtual 234, 3), (14, .istore 6, 2), (16, .goto 967, 3), (19, .aload_n 1, 1), (20, .aload_n 0, 1), (21, .iload 4, 2), (23, .iconst 1, 1)] := dw_all (l := [21, 4, 4, 96, 46, 42, 21, 4, 5, 96, 46, 182, 0, 234, 54, 6, 167, 3, 199, 43, 42, 21, 4, 4]) (by decide +kernel)
theorem dL_law_1189 : decode cL_law 1189 = .ok (.iload 4, 2) := wtL_law_1189.1
theorem dL_law_1191 : decode cL_law 1191 = .ok (.iconst 1, 1) := wtL_law_1189.2.1
theorem dL_law_1192 : decode cL_law 1192 = .ok (.iadd, 1) := wtL_law_1189.2.2.1
theorem dL_law_1193 : decode cL_law 1193 = .ok (.iaload, 1) := wtL_law_1189.2.2.2.1
theorem dL_law_1194 : decode cL_law 1194 = .ok (.aload_n 0, 1) := wtL_law_1189.2.2.2.2.1
theorem dL_law_1195 : decode cL_law 1195 = .ok (.iload 4, 2) := wtL_law_1189.2.2.2.2.2.1
theorem dL_law_1197 : decode cL_law 1197 = .ok (.iconst 2, 1) := wtL_law_1189.2.2.2.2.2.2.1
theorem dL_law_1198 : decode cL_law 1198 = .ok (.iadd, 1) := wtL_law_1189.2.2.2.2.2.2.2.1
theorem dL_law_1199 : decode cL_law 1199 = .ok (.iaload, 1) := wtL_law_1189.2.2.2.2.2.2.2.2.1
theorem dL_law_1200 : decode cL_law 1200 = .ok (.invokevirtual 234, 3) := wtL_law_1189.2.2.2.2.2.2.2.2.2.1
theorem dL_law_1203 : decode cL_law 1203 = .ok (.istore 6, 2) := wtL_law_1189.2.2.2.2.2.2.2.2.2.2.1
theorem dL_law_1205 : decode cL_law 1205 = .ok (.goto 967, 3) := wtL_law_1189.2.2.2.2.2.2.2.2.2.2.2.1
theorem dL_law_1208 : decode cL_law 1208 = .ok (.aload_n 1, 1) := wtL_law_1189.2.2.2.2.2.2.2.2.2.2.2.2.1
theorem dL_law_1209 : decode cL_law 1209 = .ok (.aload_n 0, 1) := wtL_law_1189.2.2.2.2.2.2.2.2.2.2.2.2.2.1
theorem dL_law_1210 : decode cL_law 1210 = .ok (.iload 4, 2) := wtL_law_1189.2.2.2.2.2.2.2.2.2.2.2.2.2.2.1
theorem dL_law_1212 : decode cL_law 1212 = .ok (.iconst 1, 1) := wtL_law_1189.2.2.2.2.2.2.2.2.2.2.2.2.2.2.2.1
theorem wtL_law_1213 : dwcj cL_law 1213 [(0, .iadd, 1), (1, .iaload, 1), (2, .aload_n 0, 1), (3, .iload 4, 2), (5, .iconst 2, 1), (6, .iadd, 1), (7, .iaload, 1), (8, .aload_n 3, 1), (9, .invokestatic 235, 3), (12, .istore 5, 2), (14, .aload_n 2, 1), (15, .aload_n 0, 1), (16, .iload 4, 2), (18, .iconst 1, 1), (19, .iadd, 1), (20, .iaload, 1), (21, .aload_n 0, 1), (22, .iload 4, 2)] := dw_all (l := [96, 46, 42, 21, 4, 5, 96, 46, 45, 184, 0, 235, 54, 5, 44, 42, 21, 4, 4, 96, 46, 42, 21, 4]) (by decide +kernel)
theorem dL_law_1213 : decode cL_law 1213 = .ok (.iadd, 1) := wtL_law_1213.1
theorem dL_law_1214 : decode cL_law 1214 = .ok (.iaload, 1) := wtL_law_1213.2.1
theorem dL_law_1215 : decode cL_law 1215 = .ok (.aload_n 0, 1) := wtL_law_1213.2.2.1
theorem dL_law_1216 : decode cL_law 1216 = .ok (.iload 4, 2) := wtL_law_1213.2.2.2.1
theorem dL_law_1218 : decode cL_law 1218 = .ok (.iconst 2, 1) := wtL_law_1213.2.2.2.2.1
theorem dL_law_1219 : decode cL_law 1219 = .ok (.iadd, 1) := wtL_law_1213.2.2.2.2.2.1
theorem dL_law_1220 : decode cL_law 1220 = .ok (.iaload, 1) := wtL_law_1213.2.2.2.2.2.2.1
theorem dL_law_1221 : decode cL_law 1221 = .ok (.aload_n 3, 1) := wtL_law_1213.2.2.2.2.2.2.2.1
theorem dL_law_1222 : decode cL_law 1222 = .ok (.invokestatic 235, 3) := wtL_law_1213.2.2.2.2.2.2.2.2.1
theorem dL_law_1225 : decode cL_law 1225 = .ok (.istore 5, 2) := wtL_law_1213.2.2.2.2.2.2.2.2.2.1
theorem dL_law_1227 : decode cL_law 1227 = .ok (.aload_n 2, 1) := wtL_law_1213.2.2.2.2.2.2.2.2.2.2.1
theorem dL_law_1228 : decode cL_law 1228 = .ok (.aload_n 0, 1) := wtL_law_1213.2.2.2.2.2.2.2.2.2.2.2.1
theorem dL_law_1229 : decode cL_law 1229 = .ok (.iload 4, 2) := wtL_law_1213.2.2.2.2.2.2.2.2.2.2.2.2.1
theorem dL_law_1231 : decode cL_law 1231 = .ok (.iconst 1, 1) := wtL_law_1213.2.2.2.2.2.2.2.2.2.2.2.2.2.1
theorem dL_law_1232 : decode cL_law 1232 = .ok (.iadd, 1) := wtL_law_1213.2.2.2.2.2.2.2.2.2.2.2.2.2.2.1
theorem dL_law_1233 : decode cL_law 1233 = .ok (.iaload, 1) := wtL_law_1213.2.2.2.2.2.2.2.2.2.2.2.2.2.2.2.1
theorem dL_law_1234 : decode cL_law 1234 = .ok (.aload_n 0, 1) := wtL_law_1213.2.2.2.2.2.2.2.2.2.2.2.2.2.2.2.2.1
theorem dL_law_1235 : decode cL_law 1235 = .ok (.iload 4, 2) := wtL_law_1213.2.2.2.2.2.2.2.2.2.2.2.2.2.2.2.2.2.1
theorem wtL_law_1237 : dwcj cL_law 1237 [(0, .iconst 2, 1), (1, .iadd, 1), (2, .iaload, 1), (3, .invokevirtual 237, 3), (6, .istore 6, 2), (8, .goto 927, 3), (11, .aload_n 1, 1), (12, .aload_n 0, 1), (13, .iload 4, 2), (15, .iconst 1, 1), (16, .iadd, 1), (17, .iaload, 1), (18, .aload_n 0, 1), (19, .iload 4, 2), (21, .iconst 2, 1), (22, .iadd, 1), (23, .iaload, 1)] := dw_all (l := [5, 96, 46, 182, 0, 237, 54, 6, 167, 3, 159, 43, 42, 21, 4, 4, 96, 46, 42, 21, 4, 5, 96, 46]) (by decide +kernel)
theorem dL_law_1237 : decode cL_law 1237 = .ok (.iconst 2, 1) := wtL_law_1237.1
theorem dL_law_1238 : decode cL_law 1238 = .ok (.iadd, 1) := wtL_law_1237.2.1
theorem dL_law_1239 : decode cL_law 1239 = .ok (.iaload, 1) := wtL_law_1237.2.2.1
theorem dL_law_1240 : decode cL_law 1240 = .ok (.invokevirtual 237, 3) := wtL_law_1237.2.2.2.1
theorem dL_law_1243 : decode cL_law 1243 = .ok (.istore 6, 2) := wtL_law_1237.2.2.2.2.1
theorem dL_law_1245 : decode cL_law 1245 = .ok (.goto 927, 3) := wtL_law_1237.2.2.2.2.2.1
theorem dL_law_1248 : decode cL_law 1248 = .ok (.aload_n 1, 1) := wtL_law_1237.2.2.2.2.2.2.1
theorem dL_law_1249 : decode cL_law 1249 = .ok (.aload_n 0, 1) := wtL_law_1237.2.2.2.2.2.2.2.1
theorem dL_law_1250 : decode cL_law 1250 = .ok (.iload 4, 2) := wtL_law_1237.2.2.2.2.2.2.2.2.1
theorem dL_law_1252 : decode cL_law 1252 = .ok (.iconst 1, 1) := wtL_law_1237.2.2.2.2.2.2.2.2.2.1
theorem dL_law_1253 : decode cL_law 1253 = .ok (.iadd, 1) := wtL_law_1237.2.2.2.2.2.2.2.2.2.2.1
theorem dL_law_1254 : decode cL_law 1254 = .ok (.iaload, 1) := wtL_law_1237.2.2.2.2.2.2.2.2.2.2.2.1
theorem dL_law_1255 : decode cL_law 1255 = .ok (.aload_n 0, 1) := wtL_law_1237.2.2.2.2.2.2.2.2.2.2.2.2.1
theorem dL_law_1256 : decode cL_law 1256 = .ok (.iload 4, 2) := wtL_law_1237.2.2.2.2.2.2.2.2.2.2.2.2.2.1
theorem dL_law_1258 : decode cL_law 1258 = .ok (.iconst 2, 1) := wtL_law_1237.2.2.2.2.2.2.2.2.2.2.2.2.2.2.1
theorem dL_law_1259 : decode cL_law 1259 = .ok (.iadd, 1) := wtL_law_1237.2.2.2.2.2.2.2.2.2.2.2.2.2.2.2.1
theorem dL_law_1260 : decode cL_law 1260 = .ok (.iaload, 1) := wtL_law_1237.2.2.2.2.2.2.2.2.2.2.2.2.2.2.2.2.1
theorem wtL_law_1261 : dwcj cL_law 1261 [(0, .aload_n 0, 1), (1, .iload 4, 2), (3, .iconst 3, 1), (4, .iadd, 1), (5, .iaload, 1), (6, .aload_n 0, 1), (7, .iload 4, 2), (9, .iconst 4, 1), (10, .iadd, 1), (11, .iaload, 1), (12, .aload_n 3, 1), (13, .invokestatic 238, 3), (16, .istore 5, 2), (18, .aload_n 2, 1), (19, .aload_n 0, 1), (20, .iload 4, 2), (22, .iconst 1, 1), (23, .iadd, 1)] := dw_all (l := [42, 21, 4, 6, 96, 46, 42, 21, 4, 7, 96, 46, 45, 184, 0, 238, 54, 5, 44, 42, 21, 4, 4, 96]) (by decide +kernel)
theorem dL_law_1261 : decode cL_law 1261 = .ok (.aload_n 0, 1) := wtL_law_1261.1
theorem dL_law_1262 : decode cL_law 1262 = .ok (.iload 4, 2) := wtL_law_1261.2.1
theorem dL_law_1264 : decode cL_law 1264 = .ok (.iconst 3, 1) := wtL_law_1261.2.2.1
theorem dL_law_1265 : decode cL_law 1265 = .ok (.iadd, 1) := wtL_law_1261.2.2.2.1
theorem dL_law_1266 : decode cL_law 1266 = .ok (.iaload, 1) := wtL_law_1261.2.2.2.2.1
theorem dL_law_1267 : decode cL_law 1267 = .ok (.aload_n 0, 1) := wtL_law_1261.2.2.2.2.2.1
theorem dL_law_1268 : decode cL_law 1268 = .ok (.iload 4, 2) := wtL_law_1261.2.2.2.2.2.2.1
theorem dL_law_1270 : decode cL_law 1270 = .ok (.iconst 4, 1) := wtL_law_1261.2.2.2.2.2.2.2.1
theorem dL_law_1271 : decode cL_law 1271 = .ok (.iadd, 1) := wtL_law_1261.2.2.2.2.2.2.2.2.1
theorem dL_law_1272 : decode cL_law 1272 = .ok (.iaload, 1) := wtL_law_1261.2.2.2.2.2.2.2.2.2.1
theorem dL_law_1273 : decode cL_law 1273 = .ok (.aload_n 3, 1) := wtL_law_1261.2.2.2.2.2.2.2.2.2.2.1
theorem dL_law_1274 : decode cL_law 1274 = .ok (.invokestatic 238, 3) := wtL_law_1261.2.2.2.2.2.2.2.2.2.2.2.1
theorem dL_law_1277 : decode cL_law 1277 = .ok (.istore 5, 2) := wtL_law_1261.2.2.2.2.2.2.2.2.2.2.2.2.1
theorem dL_law_1279 : decode cL_law 1279 = .ok (.aload_n 2, 1) := wtL_law_1261.2.2.2.2.2.2.2.2.2.2.2.2.2.1
theorem dL_law_1280 : decode cL_law 1280 = .ok (.aload_n 0, 1) := wtL_law_1261.2.2.2.2.2.2.2.2.2.2.2.2.2.2.1
theorem dL_law_1281 : decode cL_law 1281 = .ok (.iload 4, 2) := wtL_law_1261.2.2.2.2.2.2.2.2.2.2.2.2.2.2.2.1
theorem dL_law_1283 : decode cL_law 1283 = .ok (.iconst 1, 1) := wtL_law_1261.2.2.2.2.2.2.2.2.2.2.2.2.2.2.2.2.1
theorem dL_law_1284 : decode cL_law 1284 = .ok (.iadd, 1) := wtL_law_1261.2.2.2.2.2.2.2.2.2.2.2.2.2.2.2.2.2.1
theorem wtL_law_1285 : dwcj cL_law 1285 [(0, .iaload, 1), (1, .aload_n 0, 1), (2, .iload 4, 2), (4, .iconst 2, 1), (5, .iadd, 1), (6, .iaload, 1), (7, .aload_n 0, 1), (8, .iload 4, 2), (10, .iconst 3, 1), (11, .iadd, 1), (12, .iaload, 1), (13, .aload_n 0, 1), (14, .iload 4, 2), (16, .iconst 4, 1), (17, .iadd, 1), (18, .iaload, 1), (19, .invokevirtual 240, 3), (22, .istore 6, 2)] := dw_all (l := [46, 42, 21, 4, 5, 96, 46, 42, 21, 4, 6, 96, 46, 42, 21, 4, 7, 96, 46, 182, 0, 240, 54, 6]) (by decide +kernel)
theorem dL_law_1285 : decode cL_law 1285 = .ok (.iaload, 1) := wtL_law_1285.1
theorem dL_law_1286 : decode cL_law 1286 = .ok (.aload_n 0, 1) := wtL_law_1285.2.1
theorem dL_law_1287 : decode cL_law 1287 = .ok (.iload 4, 2) := wtL_law_1285.2.2.1
theorem dL_law_1289 : decode cL_law 1289 = .ok (.iconst 2, 1) := wtL_law_1285.2.2.2.1
theorem dL_law_1290 : decode cL_law 1290 = .ok (.iadd, 1) := wtL_law_1285.2.2.2.2.1
theorem dL_law_1291 : decode cL_law 1291 = .ok (.iaload, 1) := wtL_law_1285.2.2.2.2.2.1
theorem dL_law_1292 : decode cL_law 1292 = .ok (.aload_n 0, 1) := wtL_law_1285.2.2.2.2.2.2.1
theorem dL_law_1293 : decode cL_law 1293 = .ok (.iload 4, 2) := wtL_law_1285.2.2.2.2.2.2.2.1
theorem dL_law_1295 : decode cL_law 1295 = .ok (.iconst 3, 1) := wtL_law_1285.2.2.2.2.2.2.2.2.1
theorem dL_law_1296 : decode cL_law 1296 = .ok (.iadd, 1) := wtL_law_1285.2.2.2.2.2.2.2.2.2.1
theorem dL_law_1297 : decode cL_law 1297 = .ok (.iaload, 1) := wtL_law_1285.2.2.2.2.2.2.2.2.2.2.1
theorem dL_law_1298 : decode cL_law 1298 = .ok (.aload_n 0, 1) := wtL_law_1285.2.2.2.2.2.2.2.2.2.2.2.1
theorem dL_law_1299 : decode cL_law 1299 = .ok (.iload 4, 2) := wtL_law_1285.2.2.2.2.2.2.2.2.2.2.2.2.1
theorem dL_law_1301 : decode cL_law 1301 = .ok (.iconst 4, 1) := wtL_law_1285.2.2.2.2.2.2.2.2.2.2.2.2.2.1
theorem dL_law_1302 : decode cL_law 1302 = .ok (.iadd, 1) := wtL_law_1285.2.2.2.2.2.2.2.2.2.2.2.2.2.2.1
theorem dL_law_1303 : decode cL_law 1303 = .ok (.iaload, 1) := wtL_law_1285.2.2.2.2.2.2.2.2.2.2.2.2.2.2.2.1
theorem dL_law_1304 : decode cL_law 1304 = .ok (.invokevirtual 240, 3) := wtL_law_1285.2.2.2.2.2.2.2.2.2.2.2.2.2.2.2.2.1
theorem dL_law_1307 : decode cL_law 1307 = .ok (.istore 6, 2) := wtL_law_1285.2.2.2.2.2.2.2.2.2.2.2.2.2.2.2.2.2.1
theorem wtL_law_1309 : dwcj cL_law 1309 [(0, .goto 863, 3), (3, .aload_n 1, 1), (4, .aload_n 0, 1), (5, .iload 4, 2), (7, .iconst 1, 1), (8, .iadd, 1), (9, .iaload, 1), (10, .aload_n 0, 1), (11, .iload 4, 2), (13, .iconst 2, 1), (14, .iadd, 1), (15, .iaload, 1), (16, .aload_n 0, 1), (17, .iload 4, 2), (19, .iconst 3, 1), (20, .iadd, 1), (21, .iaload, 1), (22, .aload_n 3, 1), (23, .invokestatic 241, 3)] := dw_all (l := [167, 3, 95, 43, 42, 21, 4, 4, 96, 46, 42, 21, 4, 5, 96, 46, 42, 21, 4, 6, 96, 46, 45, 184, 0, 241]) (by decide +kernel)
theorem dL_law_1309 : decode cL_law 1309 = .ok (.goto 863, 3) := wtL_law_1309.1
theorem dL_law_1312 : decode cL_law 1312 = .ok (.aload_n 1, 1) := wtL_law_1309.2.1
theorem dL_law_1313 : decode cL_law 1313 = .ok (.aload_n 0, 1) := wtL_law_1309.2.2.1
theorem dL_law_1314 : decode cL_law 1314 = .ok (.iload 4, 2) := wtL_law_1309.2.2.2.1
theorem dL_law_1316 : decode cL_law 1316 = .ok (.iconst 1, 1) := wtL_law_1309.2.2.2.2.1
theorem dL_law_1317 : decode cL_law 1317 = .ok (.iadd, 1) := wtL_law_1309.2.2.2.2.2.1
theorem dL_law_1318 : decode cL_law 1318 = .ok (.iaload, 1) := wtL_law_1309.2.2.2.2.2.2.1
theorem dL_law_1319 : decode cL_law 1319 = .ok (.aload_n 0, 1) := wtL_law_1309.2.2.2.2.2.2.2.1
theorem dL_law_1320 : decode cL_law 1320 = .ok (.iload 4, 2) := wtL_law_1309.2.2.2.2.2.2.2.2.1
theorem dL_law_1322 : decode cL_law 1322 = .ok (.iconst 2, 1) := wtL_law_1309.2.2.2.2.2.2.2.2.2.1
theorem dL_law_1323 : decode cL_law 1323 = .ok (.iadd, 1) := wtL_law_1309.2.2.2.2.2.2.2.2.2.2.1
theorem dL_law_1324 : decode cL_law 1324 = .ok (.iaload, 1) := wtL_law_1309.2.2.2.2.2.2.2.2.2.2.2.1
theorem dL_law_1325 : decode cL_law 1325 = .ok (.aload_n 0, 1) := wtL_law_1309.2.2.2.2.2.2.2.2.2.2.2.2.1
theorem dL_law_1326 : decode cL_law 1326 = .ok (.iload 4, 2) := wtL_law_1309.2.2.2.2.2.2.2.2.2.2.2.2.2.1
theorem dL_law_1328 : decode cL_law 1328 = .ok (.iconst 3, 1) := wtL_law_1309.2.2.2.2.2.2.2.2.2.2.2.2.2.2.1
theorem dL_law_1329 : decode cL_law 1329 = .ok (.iadd, 1) := wtL_law_1309.2.2.2.2.2.2.2.2.2.2.2.2.2.2.2.1
theorem dL_law_1330 : decode cL_law 1330 = .ok (.iaload, 1) := wtL_law_1309.2.2.2.2.2.2.2.2.2.2.2.2.2.2.2.2.1
theorem dL_law_1331 : decode cL_law 1331 = .ok (.aload_n 3, 1) := wtL_law_1309.2.2.2.2.2.2.2.2.2.2.2.2.2.2.2.2.2.1
theorem dL_law_1332 : decode cL_law 1332 = .ok (.invokestatic 241, 3) := wtL_law_1309.2.2.2.2.2.2.2.2.2.2.2.2.2.2.2.2.2.2.1
theorem wtL_law_1335 : dwcj cL_law 1335 [(0, .istore 5, 2), (2, .aload_n 2, 1), (3, .aload_n 0, 1), (4, .iload 4, 2), (6, .iconst 1, 1), (7, .iadd, 1), (8, .iaload, 1), (9, .aload_n 0, 1), (10, .iload 4, 2), (12, .iconst 2, 1), (13, .iadd, 1), (14, .iaload, 1), (15, .aload_n 0, 1), (16, .iload 4, 2), (18, .iconst 3, 1), (19, .iadd, 1), (20, .iaload, 1), (21, .invokevirtual 243, 3)] := dw_all (l := [54, 5, 44, 42, 21, 4, 4, 96, 46, 42, 21, 4, 5, 96, 46, 42, 21, 4, 6, 96, 46, 182, 0, 243]) (by decide +kernel)
theorem dL_law_1335 : decode cL_law 1335 = .ok (.istore 5, 2) := wtL_law_1335.1
theorem dL_law_1337 : decode cL_law 1337 = .ok (.aload_n 2, 1) := wtL_law_1335.2.1
theorem dL_law_1338 : decode cL_law 1338 = .ok (.aload_n 0, 1) := wtL_law_1335.2.2.1
theorem dL_law_1339 : decode cL_law 1339 = .ok (.iload 4, 2) := wtL_law_1335.2.2.2.1
theorem dL_law_1341 : decode cL_law 1341 = .ok (.iconst 1, 1) := wtL_law_1335.2.2.2.2.1
theorem dL_law_1342 : decode cL_law 1342 = .ok (.iadd, 1) := wtL_law_1335.2.2.2.2.2.1
theorem dL_law_1343 : decode cL_law 1343 = .ok (.iaload, 1) := wtL_law_1335.2.2.2.2.2.2.1
theorem dL_law_1344 : decode cL_law 1344 = .ok (.aload_n 0, 1) := wtL_law_1335.2.2.2.2.2.2.2.1
theorem dL_law_1345 : decode cL_law 1345 = .ok (.iload 4, 2) := wtL_law_1335.2.2.2.2.2.2.2.2.1
theorem dL_law_1347 : decode cL_law 1347 = .ok (.iconst 2, 1) := wtL_law_1335.2.2.2.2.2.2.2.2.2.1
theorem dL_law_1348 : decode cL_law 1348 = .ok (.iadd, 1) := wtL_law_1335.2.2.2.2.2.2.2.2.2.2.1
theorem dL_law_1349 : decode cL_law 1349 = .ok (.iaload, 1) := wtL_law_1335.2.2.2.2.2.2.2.2.2.2.2.1
theorem dL_law_1350 : decode cL_law 1350 = .ok (.aload_n 0, 1) := wtL_law_1335.2.2.2.2.2.2.2.2.2.2.2.2.1
theorem dL_law_1351 : decode cL_law 1351 = .ok (.iload 4, 2) := wtL_law_1335.2.2.2.2.2.2.2.2.2.2.2.2.2.1
theorem dL_law_1353 : decode cL_law 1353 = .ok (.iconst 3, 1) := wtL_law_1335.2.2.2.2.2.2.2.2.2.2.2.2.2.2.1
theorem dL_law_1354 : decode cL_law 1354 = .ok (.iadd, 1) := wtL_law_1335.2.2.2.2.2.2.2.2.2.2.2.2.2.2.2.1
theorem dL_law_1355 : decode cL_law 1355 = .ok (.iaload, 1) := wtL_law_1335.2.2.2.2.2.2.2.2.2.2.2.2.2.2.2.2.1
theorem dL_law_1356 : decode cL_law 1356 = .ok (.invokevirtual 243, 3) := wtL_law_1335.2.2.2.2.2.2.2.2.2.2.2.2.2.2.2.2.2.1
theorem wtL_law_1359 : dwcj cL_law 1359 [(0, .istore 6, 2), (2, .goto 811, 3), (5, .aload_n 1, 1), (6, .aload_n 0, 1), (7, .iload 4, 2), (9, .iconst 1, 1), (10, .iadd, 1), (11, .iaload, 1), (12, .aload_n 0, 1), (13, .iload 4, 2), (15, .iconst 2, 1), (16, .iadd, 1), (17, .iaload, 1), (18, .aload_n 3, 1), (19, .invokestatic 244, 3), (22, .istore 5, 2)] := dw_all (l := [54, 6, 167, 3, 43, 43, 42, 21, 4, 4, 96, 46, 42, 21, 4, 5, 96, 46, 45, 184, 0, 244, 54, 5]) (by decide +kernel)
theorem dL_law_1359 : decode cL_law 1359 = .ok (.istore 6, 2) := wtL_law_1359.1
theorem dL_law_1361 : decode cL_law 1361 = .ok (.goto 811, 3) := wtL_law_1359.2.1
theorem dL_law_1364 : decode cL_law 1364 = .ok (.aload_n 1, 1) := wtL_law_1359.2.2.1
theorem dL_law_1365 : decode cL_law 1365 = .ok (.aload_n 0, 1) := wtL_law_1359.2.2.2.1
theorem dL_law_1366 : decode cL_law 1366 = .ok (.iload 4, 2) := wtL_law_1359.2.2.2.2.1
theorem dL_law_1368 : decode cL_law 1368 = .ok (.iconst 1, 1) := wtL_law_1359.2.2.2.2.2.1
theorem dL_law_1369 : decode cL_law 1369 = .ok (.iadd, 1) := wtL_law_1359.2.2.2.2.2.2.1
theorem dL_law_1370 : decode cL_law 1370 = .ok (.iaload, 1) := wtL_law_1359.2.2.2.2.2.2.2.1
theorem dL_law_1371 : decode cL_law 1371 = .ok (.aload_n 0, 1) := wtL_law_1359.2.2.2.2.2.2.2.2.1
theorem dL_law_1372 : decode cL_law 1372 = .ok (.iload 4, 2) := wtL_law_1359.2.2.2.2.2.2.2.2.2.1
theorem dL_law_1374 : decode cL_law 1374 = .ok (.iconst 2, 1) := wtL_law_1359.2.2.2.2.2.2.2.2.2.2.1
theorem dL_law_1375 : decode cL_law 1375 = .ok (.iadd, 1) := wtL_law_1359.2.2.2.2.2.2.2.2.2.2.2.1
theorem dL_law_1376 : decode cL_law 1376 = .ok (.iaload, 1) := wtL_law_1359.2.2.2.2.2.2.2.2.2.2.2.2.1
theorem dL_law_1377 : decode cL_law 1377 = .ok (.aload_n 3, 1) := wtL_law_1359.2.2.2.2.2.2.2.2.2.2.2.2.2.1
theorem dL_law_1378 : decode cL_law 1378 = .ok (.invokestatic 244, 3) := wtL_law_1359.2.2.2.2.2.2.2.2.2.2.2.2.2.2.1
theorem dL_law_1381 : decode cL_law 1381 = .ok (.istore 5, 2) := wtL_law_1359.2.2.2.2.2.2.2.2.2.2.2.2.2.2.2.1
theorem wtL_law_1383 : dwcj cL_law 1383 [(0, .aload_n 2, 1), (1, .aload_n 0, 1), (2, .iload 4, 2), (4, .iconst 1, 1), (5, .iadd, 1), (6, .iaload, 1), (7, .aload_n 0, 1), (8, .iload 4, 2), (10, .iconst 2, 1), (11, .iadd, 1), (12, .iaload, 1), (13, .invokevirtual 246, 3), (16, .istore 6, 2), (18, .goto 771, 3), (21, .aload_n 1, 1), (22, .aload_n 0, 1), (23, .iload 4, 2)] := dw_all (l := [44, 42, 21, 4, 4, 96, 46, 42, 21, 4, 5, 96, 46, 182, 0, 246, 54, 6, 167, 3, 3, 43, 42, 21, 4]) (by decide +kernel)
theorem dL_law_1383 : decode cL_law 1383 = .ok (.aload_n 2, 1) := wtL_law_1383.1
theorem dL_law_1384 : decode cL_law 1384 = .ok (.aload_n 0, 1) := wtL_law_1383.2.1
theorem dL_law_1385 : decode cL_law 1385 = .ok (.iload 4, 2) := wtL_law_1383.2.2.1
theorem dL_law_1387 : decode cL_law 1387 = .ok (.iconst 1, 1) := wtL_law_1383.2.2.2.1
theorem dL_law_1388 : decode cL_law 1388 = .ok (.iadd, 1) := wtL_law_1383.2.2.2.2.1
theorem dL_law_1389 : decode cL_law 1389 = .ok (.iaload, 1) := wtL_law_1383.2.2.2.2.2.1
theorem dL_law_1390 : decode cL_law 1390 = .ok (.aload_n 0, 1) := wtL_law_1383.2.2.2.2.2.2.1
theorem dL_law_1391 : decode cL_law 1391 = .ok (.iload 4, 2) := wtL_law_1383.2.2.2.2.2.2.2.1
theorem dL_law_1393 : decode cL_law 1393 = .ok (.iconst 2, 1) := wtL_law_1383.2.2.2.2.2.2.2.2.1
theorem dL_law_1394 : decode cL_law 1394 = .ok (.iadd, 1) := wtL_law_1383.2.2.2.2.2.2.2.2.2.1
theorem dL_law_1395 : decode cL_law 1395 = .ok (.iaload, 1) := wtL_law_1383.2.2.2.2.2.2.2.2.2.2.1
theorem dL_law_1396 : decode cL_law 1396 = .ok (.invokevirtual 246, 3) := wtL_law_1383.2.2.2.2.2.2.2.2.2.2.2.1
theorem dL_law_1399 : decode cL_law 1399 = .ok (.istore 6, 2) := wtL_law_1383.2.2.2.2.2.2.2.2.2.2.2.2.1
theorem dL_law_1401 : decode cL_law 1401 = .ok (.goto 771, 3) := wtL_law_1383.2.2.2.2.2.2.2.2.2.2.2.2.2.1
theorem dL_law_1404 : decode cL_law 1404 = .ok (.aload_n 1, 1) := wtL_law_1383.2.2.2.2.2.2.2.2.2.2.2.2.2.2.1
theorem dL_law_1405 : decode cL_law 1405 = .ok (.aload_n 0, 1) := wtL_law_1383.2.2.2.2.2.2.2.2.2.2.2.2.2.2.2.1
theorem dL_law_1406 : decode cL_law 1406 = .ok (.iload 4, 2) := wtL_law_1383.2.2.2.2.2.2.2.2.2.2.2.2.2.2.2.2.1
theorem wtL_law_1408 : dwcj cL_law 1408 [(0, .iconst 1, 1), (1, .iadd, 1), (2, .iaload, 1), (3, .aload_n 0, 1), (4, .iload 4, 2), (6, .iconst 2, 1), (7, .iadd, 1), (8, .iaload, 1), (9, .aload_n 0, 1), (10, .iload 4, 2), (12, .iconst 3, 1), (13, .iadd, 1), (14, .iaload, 1), (15, .aload_n 3, 1), (16, .invokestatic 247, 3), (19, .istore 5, 2), (21, .aload_n 2, 1), (22, .aload_n 0, 1), (23, .iload 4, 2)] := dw_all (l := [4, 96, 46, 42, 21, 4, 5, 96, 46, 42, 21, 4, 6, 96, 46, 45, 184, 0, 247, 54, 5, 44, 42, 21, 4]) (by decide +kernel)
theorem dL_law_1408 : decode cL_law 1408 = .ok (.iconst 1, 1) := wtL_law_1408.1
theorem dL_law_1409 : decode cL_law 1409 = .ok (.iadd, 1) := wtL_law_1408.2.1
theorem dL_law_1410 : decode cL_law 1410 = .ok (.iaload, 1) := wtL_law_1408.2.2.1
theorem dL_law_1411 : decode cL_law 1411 = .ok (.aload_n 0, 1) := wtL_law_1408.2.2.2.1
theorem dL_law_1412 : decode cL_law 1412 = .ok (.iload 4, 2) := wtL_law_1408.2.2.2.2.1
theorem dL_law_1414 : decode cL_law 1414 = .ok (.iconst 2, 1) := wtL_law_1408.2.2.2.2.2.1
theorem dL_law_1415 : decode cL_law 1415 = .ok (.iadd, 1) := wtL_law_1408.2.2.2.2.2.2.1
theorem dL_law_1416 : decode cL_law 1416 = .ok (.iaload, 1) := wtL_law_1408.2.2.2.2.2.2.2.1
theorem dL_law_1417 : decode cL_law 1417 = .ok (.aload_n 0, 1) := wtL_law_1408.2.2.2.2.2.2.2.2.1
theorem dL_law_1418 : decode cL_law 1418 = .ok (.iload 4, 2) := wtL_law_1408.2.2.2.2.2.2.2.2.2.1
theorem dL_law_1420 : decode cL_law 1420 = .ok (.iconst 3, 1) := wtL_law_1408.2.2.2.2.2.2.2.2.2.2.1
theorem dL_law_1421 : decode cL_law 1421 = .ok (.iadd, 1) := wtL_law_1408.2.2.2.2.2.2.2.2.2.2.2.1
theorem dL_law_1422 : decode cL_law 1422 = .ok (.iaload, 1) := wtL_law_1408.2.2.2.2.2.2.2.2.2.2.2.2.1
theorem dL_law_1423 : decode cL_law 1423 = .ok (.aload_n 3, 1) := wtL_law_1408.2.2.2.2.2.2.2.2.2.2.2.2.2.1
theorem dL_law_1424 : decode cL_law 1424 = .ok (.invokestatic 247, 3) := wtL_law_1408.2.2.2.2.2.2.2.2.2.2.2.2.2.2.1
theorem dL_law_1427 : decode cL_law 1427 = .ok (.istore 5, 2) := wtL_law_1408.2.2.2.2.2.2.2.2.2.2.2.2.2.2.2.1
theorem dL_law_1429 : decode cL_law 1429 = .ok (.aload_n 2, 1) := wtL_law_1408.2.2.2.2.2.2.2.2.2.2.2.2.2.2.2.2.1
theorem dL_law_1430 : decode cL_law 1430 = .ok (.aload_n 0, 1) := wtL_law_1408.2.2.2.2.2.2.2.2.2.2.2.2.2.2.2.2.2.1
theorem dL_law_1431 : decode cL_law 1431 = .ok (.iload 4, 2) := wtL_law_1408.2.2.2.2.2.2.2.2.2.2.2.2.2.2.2.2.2.2.1
theorem wtL_law_1433 : dwcj cL_law 1433 [(0, .iconst 1, 1), (1, .iadd, 1), (2, .iaload, 1), (3, .aload_n 0, 1), (4, .iload 4, 2), (6, .iconst 2, 1), (7, .iadd, 1), (8, .iaload, 1), (9, .aload_n 0, 1), (10, .iload 4, 2), (12, .iconst 3, 1), (13, .iadd, 1), (14, .iaload, 1), (15, .invokevirtual 249, 3), (18, .istore 6, 2), (20, .goto 719, 3), (23, .aload_n 1, 1)] := dw_all (l := [4, 96, 46, 42, 21, 4, 5, 96, 46, 42, 21, 4, 6, 96, 46, 182, 0, 249, 54, 6, 167, 2, 207, 43]) (by decide +kernel)
theorem dL_law_1433 : decode cL_law 1433 = .ok (.iconst 1, 1) := wtL_law_1433.1
theorem dL_law_1434 : decode cL_law 1434 = .ok (.iadd, 1) := wtL_law_1433.2.1
theorem dL_law_1435 : decode cL_law 1435 = .ok (.iaload, 1) := wtL_law_1433.2.2.1
theorem dL_law_1436 : decode cL_law 1436 = .ok (.aload_n 0, 1) := wtL_law_1433.2.2.2.1
theorem dL_law_1437 : decode cL_law 1437 = .ok (.iload 4, 2) := wtL_law_1433.2.2.2.2.1
theorem dL_law_1439 : decode cL_law 1439 = .ok (.iconst 2, 1) := wtL_law_1433.2.2.2.2.2.1
theorem dL_law_1440 : decode cL_law 1440 = .ok (.iadd, 1) := wtL_law_1433.2.2.2.2.2.2.1
theorem dL_law_1441 : decode cL_law 1441 = .ok (.iaload, 1) := wtL_law_1433.2.2.2.2.2.2.2.1
theorem dL_law_1442 : decode cL_law 1442 = .ok (.aload_n 0, 1) := wtL_law_1433.2.2.2.2.2.2.2.2.1
theorem dL_law_1443 : decode cL_law 1443 = .ok (.iload 4, 2) := wtL_law_1433.2.2.2.2.2.2.2.2.2.1
theorem dL_law_1445 : decode cL_law 1445 = .ok (.iconst 3, 1) := wtL_law_1433.2.2.2.2.2.2.2.2.2.2.1
theorem dL_law_1446 : decode cL_law 1446 = .ok (.iadd, 1) := wtL_law_1433.2.2.2.2.2.2.2.2.2.2.2.1
theorem dL_law_1447 : decode cL_law 1447 = .ok (.iaload, 1) := wtL_law_1433.2.2.2.2.2.2.2.2.2.2.2.2.1
theorem dL_law_1448 : decode cL_law 1448 = .ok (.invokevirtual 249, 3) := wtL_law_1433.2.2.2.2.2.2.2.2.2.2.2.2.2.1
theorem dL_law_1451 : decode cL_law 1451 = .ok (.istore 6, 2) := wtL_law_1433.2.2.2.2.2.2.2.2.2.2.2.2.2.2.1
theorem dL_law_1453 : decode cL_law 1453 = .ok (.goto 719, 3) := wtL_law_1433.2.2.2.2.2.2.2.2.2.2.2.2.2.2.2.1
theorem dL_law_1456 : decode cL_law 1456 = .ok (.aload_n 1, 1) := wtL_law_1433.2.2.2.2.2.2.2.2.2.2.2.2.2.2.2.2.1
theorem wtL_law_1457 : dwcj cL_law 1457 [(0, .aload_n 0, 1), (1, .iload 4, 2), (3, .iconst 1, 1), (4, .iadd, 1), (5, .iaload, 1), (6, .aload_n 3, 1), (7, .invokestatic 250, 3), (10, .istore 5, 2), (12, .aload_n 2, 1), (13, .aload_n 0, 1), (14, .iload 4, 2), (16, .iconst 1, 1), (17, .iadd, 1), (18, .iaload, 1), (19, .invokevirtual 253, 3), (22, .istore 6, 2)] := dw_all (l := [42, 21, 4, 4, 96, 46, 45, 184, 0, 250, 54, 5, 44, 42, 21, 4, 4, 96, 46, 182, 0, 253, 54, 6]) (by decide +kernel)
theorem dL_law_1457 : decode cL_law 1457 = .ok (.aload_n 0, 1) := wtL_law_1457.1
theorem dL_law_1458 : decode cL_law 1458 = .ok (.iload 4, 2) := wtL_law_1457.2.1
theorem dL_law_1460 : decode cL_law 1460 = .ok (.iconst 1, 1) := wtL_law_1457.2.2.1
theorem dL_law_1461 : decode cL_law 1461 = .ok (.iadd, 1) := wtL_law_1457.2.2.2.1
theorem dL_law_1462 : decode cL_law 1462 = .ok (.iaload, 1) := wtL_law_1457.2.2.2.2.1
theorem dL_law_1463 : decode cL_law 1463 = .ok (.aload_n 3, 1) := wtL_law_1457.2.2.2.2.2.1
theorem dL_law_1464 : decode cL_law 1464 = .ok (.invokestatic 250, 3) := wtL_law_1457.2.2.2.2.2.2.1
theorem dL_law_1467 : decode cL_law 1467 = .ok (.istore 5, 2) := wtL_law_1457.2.2.2.2.2.2.2.1
theorem dL_law_1469 : decode cL_law 1469 = .ok (.aload_n 2, 1) := wtL_law_1457.2.2.2.2.2.2.2.2.1
theorem dL_law_1470 : decode cL_law 1470 = .ok (.aload_n 0, 1) := wtL_law_1457.2.2.2.2.2.2.2.2.2.1
theorem dL_law_1471 : decode cL_law 1471 = .ok (.iload 4, 2) := wtL_law_1457.2.2.2.2.2.2.2.2.2.2.1
theorem dL_law_1473 : decode cL_law 1473 = .ok (.iconst 1, 1) := wtL_law_1457.2.2.2.2.2.2.2.2.2.2.2.1
theorem dL_law_1474 : decode cL_law 1474 = .ok (.iadd, 1) := wtL_law_1457.2.2.2.2.2.2.2.2.2.2.2.2.1
theorem dL_law_1475 : decode cL_law 1475 = .ok (.iaload, 1) := wtL_law_1457.2.2.2.2.2.2.2.2.2.2.2.2.2.1
theorem dL_law_1476 : decode cL_law 1476 = .ok (.invokevirtual 253, 3) := wtL_law_1457.2.2.2.2.2.2.2.2.2.2.2.2.2.2.1
theorem dL_law_1479 : decode cL_law 1479 = .ok (.istore 6, 2) := wtL_law_1457.2.2.2.2.2.2.2.2.2.2.2.2.2.2.2.1
theorem wtL_law_1481 : dwcj cL_law 1481 [(0, .goto 691, 3), (3, .aload_n 1, 1), (4, .aload_n 0, 1), (5, .iload 4, 2), (7, .iconst 1, 1), (8, .iadd, 1), (9, .iaload, 1), (10, .aload_n 3, 1), (11, .invokestatic 254, 3), (14, .istore 5, 2), (16, .aload_n 2, 1), (17, .aload_n 0, 1), (18, .iload 4, 2), (20, .iconst 1, 1), (21, .iadd, 1), (22, .iaload, 1), (23, .invokevirtual 256, 3)] := dw_all (l := [167, 2, 179, 43, 42, 21, 4, 4, 96, 46, 45, 184, 0, 254, 54, 5, 44, 42, 21, 4, 4, 96, 46, 182, 1, 0]) (by decide +kernel)
theorem dL_law_1481 : decode cL_law 1481 = .ok (.goto 691, 3) := wtL_law_1481.1
theorem dL_law_1484 : decode cL_law 1484 = .ok (.aload_n 1, 1) := wtL_law_1481.2.1
theorem dL_law_1485 : decode cL_law 1485 = .ok (.aload_n 0, 1) := wtL_law_1481.2.2.1
theorem dL_law_1486 : decode cL_law 1486 = .ok (.iload 4, 2) := wtL_law_1481.2.2.2.1
theorem dL_law_1488 : decode cL_law 1488 = .ok (.iconst 1, 1) := wtL_law_1481.2.2.2.2.1
theorem dL_law_1489 : decode cL_law 1489 = .ok (.iadd, 1) := wtL_law_1481.2.2.2.2.2.1
theorem dL_law_1490 : decode cL_law 1490 = .ok (.iaload, 1) := wtL_law_1481.2.2.2.2.2.2.1
theorem dL_law_1491 : decode cL_law 1491 = .ok (.aload_n 3, 1) := wtL_law_1481.2.2.2.2.2.2.2.1
theorem dL_law_1492 : decode cL_law 1492 = .ok (.invokestatic 254, 3) := wtL_law_1481.2.2.2.2.2.2.2.2.1
theorem dL_law_1495 : decode cL_law 1495 = .ok (.istore 5, 2) := wtL_law_1481.2.2.2.2.2.2.2.2.2.1
theorem dL_law_1497 : decode cL_law 1497 = .ok (.aload_n 2, 1) := wtL_law_1481.2.2.2.2.2.2.2.2.2.2.1
theorem dL_law_1498 : decode cL_law 1498 = .ok (.aload_n 0, 1) := wtL_law_1481.2.2.2.2.2.2.2.2.2.2.2.1
theorem dL_law_1499 : decode cL_law 1499 = .ok (.iload 4, 2) := wtL_law_1481.2.2.2.2.2.2.2.2.2.2.2.2.1
theorem dL_law_1501 : decode cL_law 1501 = .ok (.iconst 1, 1) := wtL_law_1481.2.2.2.2.2.2.2.2.2.2.2.2.2.1
theorem dL_law_1502 : decode cL_law 1502 = .ok (.iadd, 1) := wtL_law_1481.2.2.2.2.2.2.2.2.2.2.2.2.2.2.1
theorem dL_law_1503 : decode cL_law 1503 = .ok (.iaload, 1) := wtL_law_1481.2.2.2.2.2.2.2.2.2.2.2.2.2.2.2.1
theorem dL_law_1504 : decode cL_law 1504 = .ok (.invokevirtual 256, 3) := wtL_law_1481.2.2.2.2.2.2.2.2.2.2.2.2.2.2.2.2.1
theorem wtL_law_1507 : dwcj cL_law 1507 [(0, .istore 6, 2), (2, .goto 663, 3), (5, .aload_n 1, 1), (6, .aload_n 0, 1), (7, .iload 4, 2), (9, .iconst 1, 1), (10, .iadd, 1), (11, .iaload, 1), (12, .aload_n 3, 1), (13, .invokestatic 257, 3), (16, .istore 5, 2), (18, .aload_n 2, 1), (19, .aload_n 0, 1), (20, .iload 4, 2), (22, .iconst 1, 1), (23, .iadd, 1)] := dw_all (l := [54, 6, 167, 2, 151, 43, 42, 21, 4, 4, 96, 46, 45, 184, 1, 1, 54, 5, 44, 42, 21, 4, 4, 96]) (by decide +kernel)
theorem dL_law_1507 : decode cL_law 1507 = .ok (.istore 6, 2) := wtL_law_1507.1
theorem dL_law_1509 : decode cL_law 1509 = .ok (.goto 663, 3) := wtL_law_1507.2.1
theorem dL_law_1512 : decode cL_law 1512 = .ok (.aload_n 1, 1) := wtL_law_1507.2.2.1
theorem dL_law_1513 : decode cL_law 1513 = .ok (.aload_n 0, 1) := wtL_law_1507.2.2.2.1
theorem dL_law_1514 : decode cL_law 1514 = .ok (.iload 4, 2) := wtL_law_1507.2.2.2.2.1
theorem dL_law_1516 : decode cL_law 1516 = .ok (.iconst 1, 1) := wtL_law_1507.2.2.2.2.2.1
theorem dL_law_1517 : decode cL_law 1517 = .ok (.iadd, 1) := wtL_law_1507.2.2.2.2.2.2.1
theorem dL_law_1518 : decode cL_law 1518 = .ok (.iaload, 1) := wtL_law_1507.2.2.2.2.2.2.2.1
theorem dL_law_1519 : decode cL_law 1519 = .ok (.aload_n 3, 1) := wtL_law_1507.2.2.2.2.2.2.2.2.1
theorem dL_law_1520 : decode cL_law 1520 = .ok (.invokestatic 257, 3) := wtL_law_1507.2.2.2.2.2.2.2.2.2.1
theorem dL_law_1523 : decode cL_law 1523 = .ok (.istore 5, 2) := wtL_law_1507.2.2.2.2.2.2.2.2.2.2.1
theorem dL_law_1525 : decode cL_law 1525 = .ok (.aload_n 2, 1) := wtL_law_1507.2.2.2.2.2.2.2.2.2.2.2.1
theorem dL_law_1526 : decode cL_law 1526 = .ok (.aload_n 0, 1) := wtL_law_1507.2.2.2.2.2.2.2.2.2.2.2.2.1
theorem dL_law_1527 : decode cL_law 1527 = .ok (.iload 4, 2) := wtL_law_1507.2.2.2.2.2.2.2.2.2.2.2.2.2.1
theorem dL_law_1529 : decode cL_law 1529 = .ok (.iconst 1, 1) := wtL_law_1507.2.2.2.2.2.2.2.2.2.2.2.2.2.2.1
theorem dL_law_1530 : decode cL_law 1530 = .ok (.iadd, 1) := wtL_law_1507.2.2.2.2.2.2.2.2.2.2.2.2.2.2.2.1
theorem wtL_law_1531 : dwcj cL_law 1531 [(0, .iaload, 1), (1, .invokevirtual 259, 3), (4, .istore 6, 2), (6, .goto 635, 3), (9, .aload_n 1, 1), (10, .aload_n 0, 1), (11, .iload 4, 2), (13, .iconst 1, 1), (14, .iadd, 1), (15, .iaload, 1), (16, .aload_n 0, 1), (17, .iload 4, 2), (19, .iconst 2, 1), (20, .iadd, 1), (21, .iaload, 1), (22, .aload_n 3, 1), (23, .invokestatic 260, 3)] := dw_all (l := [46, 182, 1, 3, 54, 6, 167, 2, 123, 43, 42, 21, 4, 4, 96, 46, 42, 21, 4, 5, 96, 46, 45, 184, 1, 4]) (by decide +kernel)
theorem dL_law_1531 : decode cL_law 1531 = .ok (.iaload, 1) := wtL_law_1531.1
theorem dL_law_1532 : decode cL_law 1532 = .ok (.invokevirtual 259, 3) := wtL_law_1531.2.1
theorem dL_law_1535 : decode cL_law 1535 = .ok (.istore 6, 2) := wtL_law_1531.2.2.1
theorem dL_law_1537 : decode cL_law 1537 = .ok (.goto 635, 3) := wtL_law_1531.2.2.2.1
theorem dL_law_1540 : decode cL_law 1540 = .ok (.aload_n 1, 1) := wtL_law_1531.2.2.2.2.1
theorem dL_law_1541 : decode cL_law 1541 = .ok (.aload_n 0, 1) := wtL_law_1531.2.2.2.2.2.1
theorem dL_law_1542 : decode cL_law 1542 = .ok (.iload 4, 2) := wtL_law_1531.2.2.2.2.2.2.1
theorem dL_law_1544 : decode cL_law 1544 = .ok (.iconst 1, 1) := wtL_law_1531.2.2.2.2.2.2.2.1
theorem dL_law_1545 : decode cL_law 1545 = .ok (.iadd, 1) := wtL_law_1531.2.2.2.2.2.2.2.2.1
theorem dL_law_1546 : decode cL_law 1546 = .ok (.iaload, 1) := wtL_law_1531.2.2.2.2.2.2.2.2.2.1
theorem dL_law_1547 : decode cL_law 1547 = .ok (.aload_n 0, 1) := wtL_law_1531.2.2.2.2.2.2.2.2.2.2.1
theorem dL_law_1548 : decode cL_law 1548 = .ok (.iload 4, 2) := wtL_law_1531.2.2.2.2.2.2.2.2.2.2.2.1
theorem dL_law_1550 : decode cL_law 1550 = .ok (.iconst 2, 1) := wtL_law_1531.2.2.2.2.2.2.2.2.2.2.2.2.1
theorem dL_law_1551 : decode cL_law 1551 = .ok (.iadd, 1) := wtL_law_1531.2.2.2.2.2.2.2.2.2.2.2.2.2.1
theorem dL_law_1552 : decode cL_law 1552 = .ok (.iaload, 1) := wtL_law_1531.2.2.2.2.2.2.2.2.2.2.2.2.2.2.1
theorem dL_law_1553 : decode cL_law 1553 = .ok (.aload_n 3, 1) := wtL_law_1531.2.2.2.2.2.2.2.2.2.2.2.2.2.2.2.1
theorem dL_law_1554 : decode cL_law 1554 = .ok (.invokestatic 260, 3) := wtL_law_1531.2.2.2.2.2.2.2.2.2.2.2.2.2.2.2.2.1
theorem wtL_law_1557 : dwcj cL_law 1557 [(0, .istore 5, 2), (2, .aload_n 2, 1), (3, .aload_n 0, 1), (4, .iload 4, 2), (6, .iconst 1, 1), (7, .iadd, 1), (8, .iaload, 1), (9, .aload_n 0, 1), (10, .iload 4, 2), (12, .iconst 2, 1), (13, .iadd, 1), (14, .iaload, 1), (15, .invokevirtual 262, 3), (18, .istore 6, 2), (20, .goto 595, 3), (23, .aload_n 1, 1)] := dw_all (l := [54, 5, 44, 42, 21, 4, 4, 96, 46, 42, 21, 4, 5, 96, 46, 182, 1, 6, 54, 6, 167, 2, 83, 43]) (by decide +kernel)
theorem dL_law_1557 : decode cL_law 1557 = .ok (.istore 5, 2) := wtL_law_1557.1
theorem dL_law_1559 : decode cL_law 1559 = .ok (.aload_n 2, 1) := wtL_law_1557.2.1
theorem dL_law_1560 : decode cL_law 1560 = .ok (.aload_n 0, 1) := wtL_law_1557.2.2.1
theorem dL_law_1561 : decode cL_law 1561 = .ok (.iload 4, 2) := wtL_law_1557.2.2.2.1
theorem dL_law_1563 : decode cL_law 1563 = .ok (.iconst 1, 1) := wtL_law_1557.2.2.2.2.1
theorem dL_law_1564 : decode cL_law 1564 = .ok (.iadd, 1) := wtL_law_1557.2.2.2.2.2.1
theorem dL_law_1565 : decode cL_law 1565 = .ok (.iaload, 1) := wtL_law_1557.2.2.2.2.2.2.1
theorem dL_law_1566 : decode cL_law 1566 = .ok (.aload_n 0, 1) := wtL_law_1557.2.2.2.2.2.2.2.1
theorem dL_law_1567 : decode cL_law 1567 = .ok (.iload 4, 2) := wtL_law_1557.2.2.2.2.2.2.2.2.1
theorem dL_law_1569 : decode cL_law 1569 = .ok (.iconst 2, 1) := wtL_law_1557.2.2.2.2.2.2.2.2.2.1
theorem dL_law_1570 : decode cL_law 1570 = .ok (.iadd, 1) := wtL_law_1557.2.2.2.2.2.2.2.2.2.2.1
theorem dL_law_1571 : decode cL_law 1571 = .ok (.iaload, 1) := wtL_law_1557.2.2.2.2.2.2.2.2.2.2.2.1
theorem dL_law_1572 : decode cL_law 1572 = .ok (.invokevirtual 262, 3) := wtL_law_1557.2.2.2.2.2.2.2.2.2.2.2.2.1
theorem dL_law_1575 : decode cL_law 1575 = .ok (.istore 6, 2) := wtL_law_1557.2.2.2.2.2.2.2.2.2.2.2.2.2.1
theorem dL_law_1577 : decode cL_law 1577 = .ok (.goto 595, 3) := wtL_law_1557.2.2.2.2.2.2.2.2.2.2.2.2.2.2.1
theorem dL_law_1580 : decode cL_law 1580 = .ok (.aload_n 1, 1) := wtL_law_1557.2.2.2.2.2.2.2.2.2.2.2.2.2.2.2.1
theorem wtL_law_1581 : dwcj cL_law 1581 [(0, .aload_n 0, 1), (1, .iload 4, 2), (3, .iconst 1, 1), (4, .iadd, 1), (5, .iaload, 1), (6, .aload_n 3, 1), (7, .invokestatic 263, 3), (10, .istore 5, 2), (12, .aload_n 2, 1), (13, .aload_n 0, 1), (14, .iload 4, 2), (16, .iconst 1, 1), (17, .iadd, 1), (18, .iaload, 1), (19, .invokevirtual 265, 3), (22, .istore 6, 2)] := dw_all (l := [42, 21, 4, 4, 96, 46, 45, 184, 1, 7, 54, 5, 44, 42, 21, 4, 4, 96, 46, 182, 1, 9, 54, 6]) (by decide +kernel)
theorem dL_law_1581 : decode cL_law 1581 = .ok (.aload_n 0, 1) := wtL_law_1581.1
theorem dL_law_1582 : decode cL_law 1582 = .ok (.iload 4, 2) := wtL_law_1581.2.1
theorem dL_law_1584 : decode cL_law 1584 = .ok (.iconst 1, 1) := wtL_law_1581.2.2.1
theorem dL_law_1585 : decode cL_law 1585 = .ok (.iadd, 1) := wtL_law_1581.2.2.2.1
theorem dL_law_1586 : decode cL_law 1586 = .ok (.iaload, 1) := wtL_law_1581.2.2.2.2.1
theorem dL_law_1587 : decode cL_law 1587 = .ok (.aload_n 3, 1) := wtL_law_1581.2.2.2.2.2.1
theorem dL_law_1588 : decode cL_law 1588 = .ok (.invokestatic 263, 3) := wtL_law_1581.2.2.2.2.2.2.1
theorem dL_law_1591 : decode cL_law 1591 = .ok (.istore 5, 2) := wtL_law_1581.2.2.2.2.2.2.2.1
theorem dL_law_1593 : decode cL_law 1593 = .ok (.aload_n 2, 1) := wtL_law_1581.2.2.2.2.2.2.2.2.1
theorem dL_law_1594 : decode cL_law 1594 = .ok (.aload_n 0, 1) := wtL_law_1581.2.2.2.2.2.2.2.2.2.1
theorem dL_law_1595 : decode cL_law 1595 = .ok (.iload 4, 2) := wtL_law_1581.2.2.2.2.2.2.2.2.2.2.1
theorem dL_law_1597 : decode cL_law 1597 = .ok (.iconst 1, 1) := wtL_law_1581.2.2.2.2.2.2.2.2.2.2.2.1
theorem dL_law_1598 : decode cL_law 1598 = .ok (.iadd, 1) := wtL_law_1581.2.2.2.2.2.2.2.2.2.2.2.2.1
theorem dL_law_1599 : decode cL_law 1599 = .ok (.iaload, 1) := wtL_law_1581.2.2.2.2.2.2.2.2.2.2.2.2.2.1
theorem dL_law_1600 : decode cL_law 1600 = .ok (.invokevirtual 265, 3) := wtL_law_1581.2.2.2.2.2.2.2.2.2.2.2.2.2.2.1
theorem dL_law_1603 : decode cL_law 1603 = .ok (.istore 6, 2) := wtL_law_1581.2.2.2.2.2.2.2.2.2.2.2.2.2.2.2.1
theorem wtL_law_1605 : dwcj cL_law 1605 [(0, .goto 567, 3), (3, .aload_n 1, 1), (4, .aload_n 0, 1), (5, .iload 4, 2), (7, .iconst 1, 1), (8, .iadd, 1), (9, .iaload, 1), (10, .aload_n 3, 1), (11, .invokestatic 266, 3), (14, .istore 5, 2), (16, .aload_n 2, 1), (17, .aload_n 0, 1), (18, .iload 4, 2), (20, .iconst 1, 1), (21, .iadd, 1), (22, .iaload, 1), (23, .invokevirtual 268, 3)] := dw_all (l := [167, 2, 55, 43, 42, 21, 4, 4, 96, 46, 45, 184, 1, 10, 54, 5, 44, 42, 21, 4, 4, 96, 46, 182, 1, 12]) (by decide +kernel)
theorem dL_law_1605 : decode cL_law 1605 = .ok (.goto 567, 3) := wtL_law_1605.1
theorem dL_law_1608 : decode cL_law 1608 = .ok (.aload_n 1, 1) := wtL_law_1605.2.1
theorem dL_law_1609 : decode cL_law 1609 = .ok (.aload_n 0, 1) := wtL_law_1605.2.2.1
theorem dL_law_1610 : decode cL_law 1610 = .ok (.iload 4, 2) := wtL_law_1605.2.2.2.1
theorem dL_law_1612 : decode cL_law 1612 = .ok (.iconst 1, 1) := wtL_law_1605.2.2.2.2.1
theorem dL_law_1613 : decode cL_law 1613 = .ok (.iadd, 1) := wtL_law_1605.2.2.2.2.2.1
theorem dL_law_1614 : decode cL_law 1614 = .ok (.iaload, 1) := wtL_law_1605.2.2.2.2.2.2.1
theorem dL_law_1615 : decode cL_law 1615 = .ok (.aload_n 3, 1) := wtL_law_1605.2.2.2.2.2.2.2.1
theorem dL_law_1616 : decode cL_law 1616 = .ok (.invokestatic 266, 3) := wtL_law_1605.2.2.2.2.2.2.2.2.1
theorem dL_law_1619 : decode cL_law 1619 = .ok (.istore 5, 2) := wtL_law_1605.2.2.2.2.2.2.2.2.2.1
theorem dL_law_1621 : decode cL_law 1621 = .ok (.aload_n 2, 1) := wtL_law_1605.2.2.2.2.2.2.2.2.2.2.1
theorem dL_law_1622 : decode cL_law 1622 = .ok (.aload_n 0, 1) := wtL_law_1605.2.2.2.2.2.2.2.2.2.2.2.1
theorem dL_law_1623 : decode cL_law 1623 = .ok (.iload 4, 2) := wtL_law_1605.2.2.2.2.2.2.2.2.2.2.2.2.1
theorem dL_law_1625 : decode cL_law 1625 = .ok (.iconst 1, 1) := wtL_law_1605.2.2.2.2.2.2.2.2.2.2.2.2.2.1
theorem dL_law_1626 : decode cL_law 1626 = .ok (.iadd, 1) := wtL_law_1605.2.2.2.2.2.2.2.2.2.2.2.2.2.2.1
theorem dL_law_1627 : decode cL_law 1627 = .ok (.iaload, 1) := wtL_law_1605.2.2.2.2.2.2.2.2.2.2.2.2.2.2.2.1
theorem dL_law_1628 : decode cL_law 1628 = .ok (.invokevirtual 268, 3) := wtL_law_1605.2.2.2.2.2.2.2.2.2.2.2.2.2.2.2.2.1
theorem wtL_law_1631 : dwcj cL_law 1631 [(0, .astore 6, 2), (2, .goto 539, 3), (5, .aload_n 1, 1), (6, .aload_n 0, 1), (7, .iload 4, 2), (9, .iconst 1, 1), (10, .iadd, 1), (11, .iaload, 1), (12, .aload_n 0, 1), (13, .iload 4, 2), (15, .iconst 2, 1), (16, .iadd, 1), (17, .iaload, 1), (18, .aload_n 3, 1), (19, .invokestatic 269, 3), (22, .istore 5, 2)] := dw_all (l := [58, 6, 167, 2, 27, 43, 42, 21, 4, 4, 96, 46, 42, 21, 4, 5, 96, 46, 45, 184, 1, 13, 54, 5]) (by decide +kernel)
theorem dL_law_1631 : decode cL_law 1631 = .ok (.astore 6, 2) := wtL_law_1631.1
theorem dL_law_1633 : decode cL_law 1633 = .ok (.goto 539, 3) := wtL_law_1631.2.1
theorem dL_law_1636 : decode cL_law 1636 = .ok (.aload_n 1, 1) := wtL_law_1631.2.2.1
theorem dL_law_1637 : decode cL_law 1637 = .ok (.aload_n 0, 1) := wtL_law_1631.2.2.2.1
theorem dL_law_1638 : decode cL_law 1638 = .ok (.iload 4, 2) := wtL_law_1631.2.2.2.2.1
theorem dL_law_1640 : decode cL_law 1640 = .ok (.iconst 1, 1) := wtL_law_1631.2.2.2.2.2.1
theorem dL_law_1641 : decode cL_law 1641 = .ok (.iadd, 1) := wtL_law_1631.2.2.2.2.2.2.1
theorem dL_law_1642 : decode cL_law 1642 = .ok (.iaload, 1) := wtL_law_1631.2.2.2.2.2.2.2.1
theorem dL_law_1643 : decode cL_law 1643 = .ok (.aload_n 0, 1) := wtL_law_1631.2.2.2.2.2.2.2.2.1
theorem dL_law_1644 : decode cL_law 1644 = .ok (.iload 4, 2) := wtL_law_1631.2.2.2.2.2.2.2.2.2.1
theorem dL_law_1646 : decode cL_law 1646 = .ok (.iconst 2, 1) := wtL_law_1631.2.2.2.2.2.2.2.2.2.2.1
theorem dL_law_1647 : decode cL_law 1647 = .ok (.iadd, 1) := wtL_law_1631.2.2.2.2.2.2.2.2.2.2.2.1
theorem dL_law_1648 : decode cL_law 1648 = .ok (.iaload, 1) := wtL_law_1631.2.2.2.2.2.2.2.2.2.2.2.2.1
theorem dL_law_1649 : decode cL_law 1649 = .ok (.aload_n 3, 1) := wtL_law_1631.2.2.2.2.2.2.2.2.2.2.2.2.2.1
theorem dL_law_1650 : decode cL_law 1650 = .ok (.invokestatic 269, 3) := wtL_law_1631.2.2.2.2.2.2.2.2.2.2.2.2.2.2.1
theorem dL_law_1653 : decode cL_law 1653 = .ok (.istore 5, 2) := wtL_law_1631.2.2.2.2.2.2.2.2.2.2.2.2.2.2.2.1
theorem wtL_law_1655 : dwcj cL_law 1655 [(0, .aload_n 2, 1), (1, .aload_n 0, 1), (2, .iload 4, 2), (4, .iconst 1, 1), (5, .iadd, 1), (6, .iaload, 1), (7, .aload_n 0, 1), (8, .iload 4, 2), (10, .iconst 2, 1), (11, .iadd, 1), (12, .iaload, 1), (13, .invokevirtual 271, 3), (16, .astore 6, 2), (18, .goto 499, 3), (21, .aload_n 1, 1), (22, .aload_n 0, 1), (23, .iload 4, 2)] := dw_all (l := [44, 42, 21, 4, 4, 96, 46, 42, 21, 4, 5, 96, 46, 182, 1, 15, 58, 6, 167, 1, 243, 43, 42, 21, 4]) (by decide +kernel)
theorem dL_law_1655 : decode cL_law 1655 = .ok (.aload_n 2, 1) := wtL_law_1655.1
theorem dL_law_1656 : decode cL_law 1656 = .ok (.aload_n 0, 1) := wtL_law_1655.2.1
theorem dL_law_1657 : decode cL_law 1657 = .ok (.iload 4, 2) := wtL_law_1655.2.2.1
theorem dL_law_1659 : decode cL_law 1659 = .ok (.iconst 1, 1) := wtL_law_1655.2.2.2.1
theorem dL_law_1660 : decode cL_law 1660 = .ok (.iadd, 1) := wtL_law_1655.2.2.2.2.1
theorem dL_law_1661 : decode cL_law 1661 = .ok (.iaload, 1) := wtL_law_1655.2.2.2.2.2.1
theorem dL_law_1662 : decode cL_law 1662 = .ok (.aload_n 0, 1) := wtL_law_1655.2.2.2.2.2.2.1
theorem dL_law_1663 : decode cL_law 1663 = .ok (.iload 4, 2) := wtL_law_1655.2.2.2.2.2.2.2.1
theorem dL_law_1665 : decode cL_law 1665 = .ok (.iconst 2, 1) := wtL_law_1655.2.2.2.2.2.2.2.2.1
theorem dL_law_1666 : decode cL_law 1666 = .ok (.iadd, 1) := wtL_law_1655.2.2.2.2.2.2.2.2.2.1
theorem dL_law_1667 : decode cL_law 1667 = .ok (.iaload, 1) := wtL_law_1655.2.2.2.2.2.2.2.2.2.2.1
theorem dL_law_1668 : decode cL_law 1668 = .ok (.invokevirtual 271, 3) := wtL_law_1655.2.2.2.2.2.2.2.2.2.2.2.1
theorem dL_law_1671 : decode cL_law 1671 = .ok (.astore 6, 2) := wtL_law_1655.2.2.2.2.2.2.2.2.2.2.2.2.1
theorem dL_law_1673 : decode cL_law 1673 = .ok (.goto 499, 3) := wtL_law_1655.2.2.2.2.2.2.2.2.2.2.2.2.2.1
theorem dL_law_1676 : decode cL_law 1676 = .ok (.aload_n 1, 1) := wtL_law_1655.2.2.2.2.2.2.2.2.2.2.2.2.2.2.1
theorem dL_law_1677 : decode cL_law 1677 = .ok (.aload_n 0, 1) := wtL_law_1655.2.2.2.2.2.2.2.2.2.2.2.2.2.2.2.1
theorem dL_law_1678 : decode cL_law 1678 = .ok (.iload 4, 2) := wtL_law_1655.2.2.2.2.2.2.2.2.2.2.2.2.2.2.2.2.1
theorem wtL_law_1680 : dwcj cL_law 1680 [(0, .iconst 1, 1), (1, .iadd, 1), (2, .iaload, 1), (3, .aload_n 0, 1), (4, .iload 4, 2), (6, .iconst 2, 1), (7, .iadd, 1), (8, .iaload, 1), (9, .aload_n 3, 1), (10, .invokestatic 272, 3), (13, .istore 5, 2), (15, .aload_n 2, 1), (16, .aload_n 0, 1), (17, .iload 4, 2), (19, .iconst 1, 1), (20, .iadd, 1), (21, .iaload, 1), (22, .aload_n 0, 1), (23, .iload 4, 2)] := dw_all (l := [4, 96, 46, 42, 21, 4, 5, 96, 46, 45, 184, 1, 16, 54, 5, 44, 42, 21, 4, 4, 96, 46, 42, 21, 4]) (by decide +kernel)
theorem dL_law_1680 : decode cL_law 1680 = .ok (.iconst 1, 1) := wtL_law_1680.1
theorem dL_law_1681 : decode cL_law 1681 = .ok (.iadd, 1) := wtL_law_1680.2.1
theorem dL_law_1682 : decode cL_law 1682 = .ok (.iaload, 1) := wtL_law_1680.2.2.1
theorem dL_law_1683 : decode cL_law 1683 = .ok (.aload_n 0, 1) := wtL_law_1680.2.2.2.1
theorem dL_law_1684 : decode cL_law 1684 = .ok (.iload 4, 2) := wtL_law_1680.2.2.2.2.1
theorem dL_law_1686 : decode cL_law 1686 = .ok (.iconst 2, 1) := wtL_law_1680.2.2.2.2.2.1
theorem dL_law_1687 : decode cL_law 1687 = .ok (.iadd, 1) := wtL_law_1680.2.2.2.2.2.2.1
theorem dL_law_1688 : decode cL_law 1688 = .ok (.iaload, 1) := wtL_law_1680.2.2.2.2.2.2.2.1
theorem dL_law_1689 : decode cL_law 1689 = .ok (.aload_n 3, 1) := wtL_law_1680.2.2.2.2.2.2.2.2.1
theorem dL_law_1690 : decode cL_law 1690 = .ok (.invokestatic 272, 3) := wtL_law_1680.2.2.2.2.2.2.2.2.2.1
theorem dL_law_1693 : decode cL_law 1693 = .ok (.istore 5, 2) := wtL_law_1680.2.2.2.2.2.2.2.2.2.2.1
theorem dL_law_1695 : decode cL_law 1695 = .ok (.aload_n 2, 1) := wtL_law_1680.2.2.2.2.2.2.2.2.2.2.2.1
theorem dL_law_1696 : decode cL_law 1696 = .ok (.aload_n 0, 1) := wtL_law_1680.2.2.2.2.2.2.2.2.2.2.2.2.1
theorem dL_law_1697 : decode cL_law 1697 = .ok (.iload 4, 2) := wtL_law_1680.2.2.2.2.2.2.2.2.2.2.2.2.2.1
theorem dL_law_1699 : decode cL_law 1699 = .ok (.iconst 1, 1) := wtL_law_1680.2.2.2.2.2.2.2.2.2.2.2.2.2.2.1
theorem dL_law_1700 : decode cL_law 1700 = .ok (.iadd, 1) := wtL_law_1680.2.2.2.2.2.2.2.2.2.2.2.2.2.2.2.1
theorem dL_law_1701 : decode cL_law 1701 = .ok (.iaload, 1) := wtL_law_1680.2.2.2.2.2.2.2.2.2.2.2.2.2.2.2.2.1
theorem dL_law_1702 : decode cL_law 1702 = .ok (.aload_n 0, 1) := wtL_law_1680.2.2.2.2.2.2.2.2.2.2.2.2.2.2.2.2.2.1
theorem dL_law_1703 : decode cL_law 1703 = .ok (.iload 4, 2) := wtL_law_1680.2.2.2.2.2.2.2.2.2.2.2.2.2.2.2.2.2.2.1
theorem wtL_law_1705 : dwcj cL_law 1705 [(0, .iconst 2, 1), (1, .iadd, 1), (2, .iaload, 1), (3, .invokevirtual 274, 3), (6, .istore 6, 2), (8, .goto 459, 3), (11, .aload_n 1, 1), (12, .aload_n 0, 1), (13, .iload 4, 2), (15, .iconst 1, 1), (16, .iadd, 1), (17, .iaload, 1), (18, .aload_n 0, 1), (19, .iload 4, 2), (21, .iconst 2, 1), (22, .iadd, 1), (23, .iaload, 1)] := dw_all (l := [5, 96, 46, 182, 1, 18, 54, 6, 167, 1, 203, 43, 42, 21, 4, 4, 96, 46, 42, 21, 4, 5, 96, 46]) (by decide +kernel)
theorem dL_law_1705 : decode cL_law 1705 = .ok (.iconst 2, 1) := wtL_law_1705.1
theorem dL_law_1706 : decode cL_law 1706 = .ok (.iadd, 1) := wtL_law_1705.2.1
theorem dL_law_1707 : decode cL_law 1707 = .ok (.iaload, 1) := wtL_law_1705.2.2.1
theorem dL_law_1708 : decode cL_law 1708 = .ok (.invokevirtual 274, 3) := wtL_law_1705.2.2.2.1
theorem dL_law_1711 : decode cL_law 1711 = .ok (.istore 6, 2) := wtL_law_1705.2.2.2.2.1
theorem dL_law_1713 : decode cL_law 1713 = .ok (.goto 459, 3) := wtL_law_1705.2.2.2.2.2.1
theorem dL_law_1716 : decode cL_law 1716 = .ok (.aload_n 1, 1) := wtL_law_1705.2.2.2.2.2.2.1
theorem dL_law_1717 : decode cL_law 1717 = .ok (.aload_n 0, 1) := wtL_law_1705.2.2.2.2.2.2.2.1
theorem dL_law_1718 : decode cL_law 1718 = .ok (.iload 4, 2) := wtL_law_1705.2.2.2.2.2.2.2.2.1
theorem dL_law_1720 : decode cL_law 1720 = .ok (.iconst 1, 1) := wtL_law_1705.2.2.2.2.2.2.2.2.2.1
theorem dL_law_1721 : decode cL_law 1721 = .ok (.iadd, 1) := wtL_law_1705.2.2.2.2.2.2.2.2.2.2.1
theorem dL_law_1722 : decode cL_law 1722 = .ok (.iaload, 1) := wtL_law_1705.2.2.2.2.2.2.2.2.2.2.2.1
theorem dL_law_1723 : decode cL_law 1723 = .ok (.aload_n 0, 1) := wtL_law_1705.2.2.2.2.2.2.2.2.2.2.2.2.1
theorem dL_law_1724 : decode cL_law 1724 = .ok (.iload 4, 2) := wtL_law_1705.2.2.2.2.2.2.2.2.2.2.2.2.2.1
theorem dL_law_1726 : decode cL_law 1726 = .ok (.iconst 2, 1) := wtL_law_1705.2.2.2.2.2.2.2.2.2.2.2.2.2.2.1
theorem dL_law_1727 : decode cL_law 1727 = .ok (.iadd, 1) := wtL_law_1705.2.2.2.2.2.2.2.2.2.2.2.2.2.2.2.1
theorem dL_law_1728 : decode cL_law 1728 = .ok (.iaload, 1) := wtL_law_1705.2.2.2.2.2.2.2.2.2.2.2.2.2.2.2.2.1
theorem wtL_law_1729 : dwcj cL_law 1729 [(0, .aload_n 3, 1), (1, .invokestatic 275, 3), (4, .istore 5, 2), (6, .aload_n 2, 1), (7, .aload_n 0, 1), (8, .iload 4, 2), (10, .iconst 1, 1), (11, .iadd, 1), (12, .iaload, 1), (13, .aload_n 0, 1), (14, .iload 4, 2), (16, .iconst 2, 1), (17, .iadd, 1), (18, .iaload, 1), (19, .invokevirtual 277, 3), (22, .istore 6, 2)] := dw_all (l := [45, 184, 1, 19, 54, 5, 44, 42, 21, 4, 4, 96, 46, 42, 21, 4, 5, 96, 46, 182, 1, 21, 54, 6]) (by decide +kernel)
theorem dL_law_1729 : decode cL_law 1729 = .ok (.aload_n 3, 1) := wtL_law_1729.1
theorem dL_law_1730 : decode cL_law 1730 = .ok (.invokestatic 275, 3) := wtL_law_1729.2.1
theorem dL_law_1733 : decode cL_law 1733 = .ok (.istore 5, 2) := wtL_law_1729.2.2.1
theorem dL_law_1735 : decode cL_law 1735 = .ok (.aload_n 2, 1) := wtL_law_1729.2.2.2.1
theorem dL_law_1736 : decode cL_law 1736 = .ok (.aload_n 0, 1) := wtL_law_1729.2.2.2.2.1
theorem dL_law_1737 : decode cL_law 1737 = .ok (.iload 4, 2) := wtL_law_1729.2.2.2.2.2.1
theorem dL_law_1739 : decode cL_law 1739 = .ok (.iconst 1, 1) := wtL_law_1729.2.2.2.2.2.2.1
theorem dL_law_1740 : decode cL_law 1740 = .ok (.iadd, 1) := wtL_law_1729.2.2.2.2.2.2.2.1
theorem dL_law_1741 : decode cL_law 1741 = .ok (.iaload, 1) := wtL_law_1729.2.2.2.2.2.2.2.2.1
theorem dL_law_1742 : decode cL_law 1742 = .ok (.aload_n 0, 1) := wtL_law_1729.2.2.2.2.2.2.2.2.2.1
theorem dL_law_1743 : decode cL_law 1743 = .ok (.iload 4, 2) := wtL_law_1729.2.2.2.2.2.2.2.2.2.2.1
theorem dL_law_1745 : decode cL_law 1745 = .ok (.iconst 2, 1) := wtL_law_1729.2.2.2.2.2.2.2.2.2.2.2.1
theorem dL_law_1746 : decode cL_law 1746 = .ok (.iadd, 1) := wtL_law_1729.2.2.2.2.2.2.2.2.2.2.2.2.1
theorem dL_law_1747 : decode cL_law 1747 = .ok (.iaload, 1) := wtL_law_1729.2.2.2.2.2.2.2.2.2.2.2.2.2.1
theorem dL_law_1748 : decode cL_law 1748 = .ok (.invokevirtual 277, 3) := wtL_law_1729.2.2.2.2.2.2.2.2.2.2.2.2.2.2.1
theorem dL_law_1751 : decode cL_law 1751 = .ok (.istore 6, 2) := wtL_law_1729.2.2.2.2.2.2.2.2.2.2.2.2.2.2.2.1
theorem wtL_law_1753 : dwcj cL_law 1753 [(0, .goto 419, 3), (3, .aload_n 1, 1), (4, .aload_n 0, 1), (5, .iload 4, 2), (7, .iconst 1, 1), (8, .iadd, 1), (9, .iaload, 1), (10, .aload_n 0, 1), (11, .iload 4, 2), (13, .iconst 2, 1), (14, .iadd, 1), (15, .iaload, 1), (16, .ifCond .eq 7, 3), (19, .iconst 1, 1), (20, .goto 4, 3), (23, .iconst 0, 1)] := dw_all (l := [167, 1, 163, 43, 42, 21, 4, 4, 96, 46, 42, 21, 4, 5, 96, 46, 153, 0, 7, 4, 167, 0, 4, 3]) (by decide +kernel)
theorem dL_law_1753 : decode cL_law 1753 = .ok (.goto 419, 3) := wtL_law_1753.1
theorem dL_law_1756 : decode cL_law 1756 = .ok (.aload_n 1, 1) := wtL_law_1753.2.1
theorem dL_law_1757 : decode cL_law 1757 = .ok (.aload_n 0, 1) := wtL_law_1753.2.2.1
theorem dL_law_1758 : decode cL_law 1758 = .ok (.iload 4, 2) := wtL_law_1753.2.2.2.1
theorem dL_law_1760 : decode cL_law 1760 = .ok (.iconst 1, 1) := wtL_law_1753.2.2.2.2.1
theorem dL_law_1761 : decode cL_law 1761 = .ok (.iadd, 1) := wtL_law_1753.2.2.2.2.2.1
theorem dL_law_1762 : decode cL_law 1762 = .ok (.iaload, 1) := wtL_law_1753.2.2.2.2.2.2.1
theorem dL_law_1763 : decode cL_law 1763 = .ok (.aload_n 0, 1) := wtL_law_1753.2.2.2.2.2.2.2.1
theorem dL_law_1764 : decode cL_law 1764 = .ok (.iload 4, 2) := wtL_law_1753.2.2.2.2.2.2.2.2.1
theorem dL_law_1766 : decode cL_law 1766 = .ok (.iconst 2, 1) := wtL_law_1753.2.2.2.2.2.2.2.2.2.1
theorem dL_law_1767 : decode cL_law 1767 = .ok (.iadd, 1) := wtL_law_1753.2.2.2.2.2.2.2.2.2.2.1
theorem dL_law_1768 : decode cL_law 1768 = .ok (.iaload, 1) := wtL_law_1753.2.2.2.2.2.2.2.2.2.2.2.1
theorem dL_law_1769 : decode cL_law 1769 = .ok (.ifCond .eq 7, 3) := wtL_law_1753.2.2.2.2.2.2.2.2.2.2.2.2.1
theorem dL_law_1772 : decode cL_law 1772 = .ok (.iconst 1, 1) := wtL_law_1753.2.2.2.2.2.2.2.2.2.2.2.2.2.1
theorem dL_law_1773 : decode cL_law 1773 = .ok (.goto 4, 3) := wtL_law_1753.2.2.2.2.2.2.2.2.2.2.2.2.2.2.1
theorem dL_law_1776 : decode cL_law 1776 = .ok (.iconst 0, 1) := wtL_law_1753.2.2.2.2.2.2.2.2.2.2.2.2.2.2.2.1
theorem wtL_law_1777 : dwcj cL_law 1777 [(0, .aload_n 3, 1), (1, .invokestatic 278, 3), (4, .istore 5, 2), (6, .aload_n 2, 1), (7, .aload_n 0, 1), (8, .iload 4, 2), (10, .iconst 1, 1), (11, .iadd, 1), (12, .iaload, 1), (13, .aload_n 0, 1), (14, .iload 4, 2), (16, .iconst 2, 1), (17, .iadd, 1), (18, .iaload, 1), (19, .ifCond .eq 7, 3), (22, .iconst 1, 1), (23, .goto 4, 3)] := dw_all (l := [45, 184, 1, 22, 54, 5, 44, 42, 21, 4, 4, 96, 46, 42, 21, 4, 5, 96, 46, 153, 0, 7, 4, 167, 0, 4]) (by decide +kernel)
theorem dL_law_1777 : decode cL_law 1777 = .ok (.aload_n 3, 1) := wtL_law_1777.1
theorem dL_law_1778 : decode cL_law 1778 = .ok (.invokestatic 278, 3) := wtL_law_1777.2.1
theorem dL_law_1781 : decode cL_law 1781 = .ok (.istore 5, 2) := wtL_law_1777.2.2.1
theorem dL_law_1783 : decode cL_law 1783 = .ok (.aload_n 2, 1) := wtL_law_1777.2.2.2.1
theorem dL_law_1784 : decode cL_law 1784 = .ok (.aload_n 0, 1) := wtL_law_1777.2.2.2.2.1
theorem dL_law_1785 : decode cL_law 1785 = .ok (.iload 4, 2) := wtL_law_1777.2.2.2.2.2.1
theorem dL_law_1787 : decode cL_law 1787 = .ok (.iconst 1, 1) := wtL_law_1777.2.2.2.2.2.2.1
theorem dL_law_1788 : decode cL_law 1788 = .ok (.iadd, 1) := wtL_law_1777.2.2.2.2.2.2.2.1
theorem dL_law_1789 : decode cL_law 1789 = .ok (.iaload, 1) := wtL_law_1777.2.2.2.2.2.2.2.2.1
theorem dL_law_1790 : decode cL_law 1790 = .ok (.aload_n 0, 1) := wtL_law_1777.2.2.2.2.2.2.2.2.2.1
theorem dL_law_1791 : decode cL_law 1791 = .ok (.iload 4, 2) := wtL_law_1777.2.2.2.2.2.2.2.2.2.2.1
theorem dL_law_1793 : decode cL_law 1793 = .ok (.iconst 2, 1) := wtL_law_1777.2.2.2.2.2.2.2.2.2.2.2.1
theorem dL_law_1794 : decode cL_law 1794 = .ok (.iadd, 1) := wtL_law_1777.2.2.2.2.2.2.2.2.2.2.2.2.1
theorem dL_law_1795 : decode cL_law 1795 = .ok (.iaload, 1) := wtL_law_1777.2.2.2.2.2.2.2.2.2.2.2.2.2.1
theorem dL_law_1796 : decode cL_law 1796 = .ok (.ifCond .eq 7, 3) := wtL_law_1777.2.2.2.2.2.2.2.2.2.2.2.2.2.2.1
theorem dL_law_1799 : decode cL_law 1799 = .ok (.iconst 1, 1) := wtL_law_1777.2.2.2.2.2.2.2.2.2.2.2.2.2.2.2.1
theorem dL_law_1800 : decode cL_law 1800 = .ok (.goto 4, 3) := wtL_law_1777.2.2.2.2.2.2.2.2.2.2.2.2.2.2.2.2.1
theorem wtL_law_1803 : dwcj cL_law 1803 [(0, .iconst 0, 1), (1, .invokevirtual 281, 3), (4, .istore 6, 2), (6, .goto 363, 3), (9, .aload_n 1, 1), (10, .aload_n 0, 1), (11, .iload 4, 2), (13, .iconst 1, 1), (14, .iadd, 1), (15, .iaload, 1), (16, .aload_n 0, 1), (17, .iload 4, 2), (19, .iconst 2, 1), (20, .iadd, 1), (21, .iaload, 1), (22, .aload_n 3, 1), (23, .invokestatic 282, 3)] := dw_all (l := [3, 182, 1, 25, 54, 6, 167, 1, 107, 43, 42, 21, 4, 4, 96, 46, 42, 21, 4, 5, 96, 46, 45, 184, 1, 26]) (by decide +kernel)
theorem dL_law_1803 : decode cL_law 1803 = .ok (.iconst 0, 1) := wtL_law_1803.1
theorem dL_law_1804 : decode cL_law 1804 = .ok (.invokevirtual 281, 3) := wtL_law_1803.2.1
theorem dL_law_1807 : decode cL_law 1807 = .ok (.istore 6, 2) := wtL_law_1803.2.2.1
theorem dL_law_1809 : decode cL_law 1809 = .ok (.goto 363, 3) := wtL_law_1803.2.2.2.1
theorem dL_law_1812 : decode cL_law 1812 = .ok (.aload_n 1, 1) := wtL_law_1803.2.2.2.2.1
theorem dL_law_1813 : decode cL_law 1813 = .ok (.aload_n 0, 1) := wtL_law_1803.2.2.2.2.2.1
theorem dL_law_1814 : decode cL_law 1814 = .ok (.iload 4, 2) := wtL_law_1803.2.2.2.2.2.2.1
theorem dL_law_1816 : decode cL_law 1816 = .ok (.iconst 1, 1) := wtL_law_1803.2.2.2.2.2.2.2.1
theorem dL_law_1817 : decode cL_law 1817 = .ok (.iadd, 1) := wtL_law_1803.2.2.2.2.2.2.2.2.1
theorem dL_law_1818 : decode cL_law 1818 = .ok (.iaload, 1) := wtL_law_1803.2.2.2.2.2.2.2.2.2.1
theorem dL_law_1819 : decode cL_law 1819 = .ok (.aload_n 0, 1) := wtL_law_1803.2.2.2.2.2.2.2.2.2.2.1
theorem dL_law_1820 : decode cL_law 1820 = .ok (.iload 4, 2) := wtL_law_1803.2.2.2.2.2.2.2.2.2.2.2.1
theorem dL_law_1822 : decode cL_law 1822 = .ok (.iconst 2, 1) := wtL_law_1803.2.2.2.2.2.2.2.2.2.2.2.2.1
theorem dL_law_1823 : decode cL_law 1823 = .ok (.iadd, 1) := wtL_law_1803.2.2.2.2.2.2.2.2.2.2.2.2.2.1
theorem dL_law_1824 : decode cL_law 1824 = .ok (.iaload, 1) := wtL_law_1803.2.2.2.2.2.2.2.2.2.2.2.2.2.2.1
theorem dL_law_1825 : decode cL_law 1825 = .ok (.aload_n 3, 1) := wtL_law_1803.2.2.2.2.2.2.2.2.2.2.2.2.2.2.2.1
theorem dL_law_1826 : decode cL_law 1826 = .ok (.invokestatic 282, 3) := wtL_law_1803.2.2.2.2.2.2.2.2.2.2.2.2.2.2.2.2.1
theorem wtL_law_1829 : dwcj cL_law 1829 [(0, .istore 5, 2), (2, .aload_n 2, 1), (3, .aload_n 0, 1), (4, .iload 4, 2), (6, .iconst 1, 1), (7, .iadd, 1), (8, .iaload, 1), (9, .aload_n 0, 1), (10, .iload 4, 2), (12, .iconst 2, 1), (13, .iadd, 1), (14, .iaload, 1), (15, .invokevirtual 284, 3), (18, .istore 6, 2), (20, .goto 323, 3), (23, .aload_n 1, 1)] := dw_all (l := [54, 5, 44, 42, 21, 4, 4, 96, 46, 42, 21, 4, 5, 96, 46, 182, 1, 28, 54, 6, 167, 1, 67, 43]) (by decide +kernel)
theorem dL_law_1829 : decode cL_law 1829 = .ok (.istore 5, 2) := wtL_law_1829.1
theorem dL_law_1831 : decode cL_law 1831 = .ok (.aload_n 2, 1) := wtL_law_1829.2.1
theorem dL_law_1832 : decode cL_law 1832 = .ok (.aload_n 0, 1) := wtL_law_1829.2.2.1
theorem dL_law_1833 : decode cL_law 1833 = .ok (.iload 4, 2) := wtL_law_1829.2.2.2.1
theorem dL_law_1835 : decode cL_law 1835 = .ok (.iconst 1, 1) := wtL_law_1829.2.2.2.2.1
theorem dL_law_1836 : decode cL_law 1836 = .ok (.iadd, 1) := wtL_law_1829.2.2.2.2.2.1
theorem dL_law_1837 : decode cL_law 1837 = .ok (.iaload, 1) := wtL_law_1829.2.2.2.2.2.2.1
theorem dL_law_1838 : decode cL_law 1838 = .ok (.aload_n 0, 1) := wtL_law_1829.2.2.2.2.2.2.2.1
theorem dL_law_1839 : decode cL_law 1839 = .ok (.iload 4, 2) := wtL_law_1829.2.2.2.2.2.2.2.2.1
theorem dL_law_1841 : decode cL_law 1841 = .ok (.iconst 2, 1) := wtL_law_1829.2.2.2.2.2.2.2.2.2.1
theorem dL_law_1842 : decode cL_law 1842 = .ok (.iadd, 1) := wtL_law_1829.2.2.2.2.2.2.2.2.2.2.1
theorem dL_law_1843 : decode cL_law 1843 = .ok (.iaload, 1) := wtL_law_1829.2.2.2.2.2.2.2.2.2.2.2.1
theorem dL_law_1844 : decode cL_law 1844 = .ok (.invokevirtual 284, 3) := wtL_law_1829.2.2.2.2.2.2.2.2.2.2.2.2.1
theorem dL_law_1847 : decode cL_law 1847 = .ok (.istore 6, 2) := wtL_law_1829.2.2.2.2.2.2.2.2.2.2.2.2.2.1
theorem dL_law_1849 : decode cL_law 1849 = .ok (.goto 323, 3) := wtL_law_1829.2.2.2.2.2.2.2.2.2.2.2.2.2.2.1
theorem dL_law_1852 : decode cL_law 1852 = .ok (.aload_n 1, 1) := wtL_law_1829.2.2.2.2.2.2.2.2.2.2.2.2.2.2.2.1
theorem wtL_law_1853 : dwcj cL_law 1853 [(0, .aload_n 0, 1), (1, .iload 4, 2), (3, .iconst 1, 1), (4, .iadd, 1), (5, .iaload, 1), (6, .aload_n 3, 1), (7, .invokestatic 285, 3), (10, .istore 5, 2), (12, .aload_n 2, 1), (13, .aload_n 0, 1), (14, .iload 4, 2), (16, .iconst 1, 1), (17, .iadd, 1), (18, .iaload, 1), (19, .invokevirtual 287, 3), (22, .istore 6, 2)] := dw_all (l := [42, 21, 4, 4, 96, 46, 45, 184, 1, 29, 54, 5, 44, 42, 21, 4, 4, 96, 46, 182, 1, 31, 54, 6]) (by decide +kernel)
theorem dL_law_1853 : decode cL_law 1853 = .ok (.aload_n 0, 1) := wtL_law_1853.1
theorem dL_law_1854 : decode cL_law 1854 = .ok (.iload 4, 2) := wtL_law_1853.2.1
theorem dL_law_1856 : decode cL_law 1856 = .ok (.iconst 1, 1) := wtL_law_1853.2.2.1
theorem dL_law_1857 : decode cL_law 1857 = .ok (.iadd, 1) := wtL_law_1853.2.2.2.1
theorem dL_law_1858 : decode cL_law 1858 = .ok (.iaload, 1) := wtL_law_1853.2.2.2.2.1
theorem dL_law_1859 : decode cL_law 1859 = .ok (.aload_n 3, 1) := wtL_law_1853.2.2.2.2.2.1
theorem dL_law_1860 : decode cL_law 1860 = .ok (.invokestatic 285, 3) := wtL_law_1853.2.2.2.2.2.2.1
theorem dL_law_1863 : decode cL_law 1863 = .ok (.istore 5, 2) := wtL_law_1853.2.2.2.2.2.2.2.1
theorem dL_law_1865 : decode cL_law 1865 = .ok (.aload_n 2, 1) := wtL_law_1853.2.2.2.2.2.2.2.2.1
theorem dL_law_1866 : decode cL_law 1866 = .ok (.aload_n 0, 1) := wtL_law_1853.2.2.2.2.2.2.2.2.2.1
theorem dL_law_1867 : decode cL_law 1867 = .ok (.iload 4, 2) := wtL_law_1853.2.2.2.2.2.2.2.2.2.2.1
theorem dL_law_1869 : decode cL_law 1869 = .ok (.iconst 1, 1) := wtL_law_1853.2.2.2.2.2.2.2.2.2.2.2.1
theorem dL_law_1870 : decode cL_law 1870 = .ok (.iadd, 1) := wtL_law_1853.2.2.2.2.2.2.2.2.2.2.2.2.1
theorem dL_law_1871 : decode cL_law 1871 = .ok (.iaload, 1) := wtL_law_1853.2.2.2.2.2.2.2.2.2.2.2.2.2.1
theorem dL_law_1872 : decode cL_law 1872 = .ok (.invokevirtual 287, 3) := wtL_law_1853.2.2.2.2.2.2.2.2.2.2.2.2.2.2.1
theorem dL_law_1875 : decode cL_law 1875 = .ok (.istore 6, 2) := wtL_law_1853.2.2.2.2.2.2.2.2.2.2.2.2.2.2.2.1
theorem wtL_law_1877 : dwcj cL_law 1877 [(0, .goto 295, 3), (3, .aload_n 1, 1), (4, .aload_n 0, 1), (5, .iload 4, 2), (7, .iconst 1, 1), (8, .iadd, 1), (9, .iaload, 1), (10, .aload_n 3, 1), (11, .invokestatic 288, 3), (14, .istore 5, 2), (16, .aload_n 2, 1), (17, .aload_n 0, 1), (18, .iload 4, 2), (20, .iconst 1, 1), (21, .iadd, 1), (22, .iaload, 1), (23, .invokevirtual 290, 3)] := dw_all (l := [167, 1, 39, 43, 42, 21, 4, 4, 96, 46, 45, 184, 1, 32, 54, 5, 44, 42, 21, 4, 4, 96, 46, 182, 1, 34]) (by decide +kernel)
theorem dL_law_1877 : decode cL_law 1877 = .ok (.goto 295, 3) := wtL_law_1877.1
theorem dL_law_1880 : decode cL_law 1880 = .ok (.aload_n 1, 1) := wtL_law_1877.2.1
theorem dL_law_1881 : decode cL_law 1881 = .ok (.aload_n 0, 1) := wtL_law_1877.2.2.1
theorem dL_law_1882 : decode cL_law 1882 = .ok (.iload 4, 2) := wtL_law_1877.2.2.2.1
theorem dL_law_1884 : decode cL_law 1884 = .ok (.iconst 1, 1) := wtL_law_1877.2.2.2.2.1
theorem dL_law_1885 : decode cL_law 1885 = .ok (.iadd, 1) := wtL_law_1877.2.2.2.2.2.1
theorem dL_law_1886 : decode cL_law 1886 = .ok (.iaload, 1) := wtL_law_1877.2.2.2.2.2.2.1
theorem dL_law_1887 : decode cL_law 1887 = .ok (.aload_n 3, 1) := wtL_law_1877.2.2.2.2.2.2.2.1
theorem dL_law_1888 : decode cL_law 1888 = .ok (.invokestatic 288, 3) := wtL_law_1877.2.2.2.2.2.2.2.2.1
theorem dL_law_1891 : decode cL_law 1891 = .ok (.istore 5, 2) := wtL_law_1877.2.2.2.2.2.2.2.2.2.1
theorem dL_law_1893 : decode cL_law 1893 = .ok (.aload_n 2, 1) := wtL_law_1877.2.2.2.2.2.2.2.2.2.2.1
theorem dL_law_1894 : decode cL_law 1894 = .ok (.aload_n 0, 1) := wtL_law_1877.2.2.2.2.2.2.2.2.2.2.2.1
theorem dL_law_1895 : decode cL_law 1895 = .ok (.iload 4, 2) := wtL_law_1877.2.2.2.2.2.2.2.2.2.2.2.2.1
theorem dL_law_1897 : decode cL_law 1897 = .ok (.iconst 1, 1) := wtL_law_1877.2.2.2.2.2.2.2.2.2.2.2.2.2.1
theorem dL_law_1898 : decode cL_law 1898 = .ok (.iadd, 1) := wtL_law_1877.2.2.2.2.2.2.2.2.2.2.2.2.2.2.1
theorem dL_law_1899 : decode cL_law 1899 = .ok (.iaload, 1) := wtL_law_1877.2.2.2.2.2.2.2.2.2.2.2.2.2.2.2.1
theorem dL_law_1900 : decode cL_law 1900 = .ok (.invokevirtual 290, 3) := wtL_law_1877.2.2.2.2.2.2.2.2.2.2.2.2.2.2.2.2.1
theorem wtL_law_1903 : dwcj cL_law 1903 [(0, .istore 6, 2), (2, .goto 267, 3), (5, .aload_n 1, 1), (6, .aload_n 0, 1), (7, .iload 4, 2), (9, .iconst 1, 1), (10, .iadd, 1), (11, .iaload, 1), (12, .aload_n 3, 1), (13, .invokestatic 291, 3), (16, .istore 5, 2), (18, .aload_n 2, 1), (19, .aload_n 0, 1), (20, .iload 4, 2), (22, .iconst 1, 1), (23, .iadd, 1)] := dw_all (l := [54, 6, 167, 1, 11, 43, 42, 21, 4, 4, 96, 46, 45, 184, 1, 35, 54, 5, 44, 42, 21, 4, 4, 96]) (by decide +kernel)
theorem dL_law_1903 : decode cL_law 1903 = .ok (.istore 6, 2) := wtL_law_1903.1
theorem dL_law_1905 : decode cL_law 1905 = .ok (.goto 267, 3) := wtL_law_1903.2.1
theorem dL_law_1908 : decode cL_law 1908 = .ok (.aload_n 1, 1) := wtL_law_1903.2.2.1
theorem dL_law_1909 : decode cL_law 1909 = .ok (.aload_n 0, 1) := wtL_law_1903.2.2.2.1
theorem dL_law_1910 : decode cL_law 1910 = .ok (.iload 4, 2) := wtL_law_1903.2.2.2.2.1
theorem dL_law_1912 : decode cL_law 1912 = .ok (.iconst 1, 1) := wtL_law_1903.2.2.2.2.2.1
theorem dL_law_1913 : decode cL_law 1913 = .ok (.iadd, 1) := wtL_law_1903.2.2.2.2.2.2.1
theorem dL_law_1914 : decode cL_law 1914 = .ok (.iaload, 1) := wtL_law_1903.2.2.2.2.2.2.2.1
theorem dL_law_1915 : decode cL_law 1915 = .ok (.aload_n 3, 1) := wtL_law_1903.2.2.2.2.2.2.2.2.1
theorem dL_law_1916 : decode cL_law 1916 = .ok (.invokestatic 291, 3) := wtL_law_1903.2.2.2.2.2.2.2.2.2.1
theorem dL_law_1919 : decode cL_law 1919 = .ok (.istore 5, 2) := wtL_law_1903.2.2.2.2.2.2.2.2.2.2.1
theorem dL_law_1921 : decode cL_law 1921 = .ok (.aload_n 2, 1) := wtL_law_1903.2.2.2.2.2.2.2.2.2.2.2.1
theorem dL_law_1922 : decode cL_law 1922 = .ok (.aload_n 0, 1) := wtL_law_1903.2.2.2.2.2.2.2.2.2.2.2.2.1
theorem dL_law_1923 : decode cL_law 1923 = .ok (.iload 4, 2) := wtL_law_1903.2.2.2.2.2.2.2.2.2.2.2.2.2.1
theorem dL_law_1925 : decode cL_law 1925 = .ok (.iconst 1, 1) := wtL_law_1903.2.2.2.2.2.2.2.2.2.2.2.2.2.2.1
theorem dL_law_1926 : decode cL_law 1926 = .ok (.iadd, 1) := wtL_law_1903.2.2.2.2.2.2.2.2.2.2.2.2.2.2.2.1
theorem wtL_law_1927 : dwcj cL_law 1927 [(0, .iaload, 1), (1, .invokevirtual 293, 3), (4, .istore 6, 2), (6, .goto 239, 3), (9, .aload_n 1, 1), (10, .aload_n 0, 1), (11, .iload 4, 2), (13, .iconst 1, 1), (14, .iadd, 1), (15, .iaload, 1), (16, .aload_n 3, 1), (17, .invokestatic 294, 3), (20, .istore 5, 2), (22, .aload_n 2, 1), (23, .aload_n 0, 1)] := dw_all (l := [46, 182, 1, 37, 54, 6, 167, 0, 239, 43, 42, 21, 4, 4, 96, 46, 45, 184, 1, 38, 54, 5, 44, 42]) (by decide +kernel)
theorem dL_law_1927 : decode cL_law 1927 = .ok (.iaload, 1) := wtL_law_1927.1
theorem dL_law_1928 : decode cL_law 1928 = .ok (.invokevirtual 293, 3) := wtL_law_1927.2.1
theorem dL_law_1931 : decode cL_law 1931 = .ok (.istore 6, 2) := wtL_law_1927.2.2.1
theorem dL_law_1933 : decode cL_law 1933 = .ok (.goto 239, 3) := wtL_law_1927.2.2.2.1
theorem dL_law_1936 : decode cL_law 1936 = .ok (.aload_n 1, 1) := wtL_law_1927.2.2.2.2.1
theorem dL_law_1937 : decode cL_law 1937 = .ok (.aload_n 0, 1) := wtL_law_1927.2.2.2.2.2.1
theorem dL_law_1938 : decode cL_law 1938 = .ok (.iload 4, 2) := wtL_law_1927.2.2.2.2.2.2.1
theorem dL_law_1940 : decode cL_law 1940 = .ok (.iconst 1, 1) := wtL_law_1927.2.2.2.2.2.2.2.1
theorem dL_law_1941 : decode cL_law 1941 = .ok (.iadd, 1) := wtL_law_1927.2.2.2.2.2.2.2.2.1
theorem dL_law_1942 : decode cL_law 1942 = .ok (.iaload, 1) := wtL_law_1927.2.2.2.2.2.2.2.2.2.1
theorem dL_law_1943 : decode cL_law 1943 = .ok (.aload_n 3, 1) := wtL_law_1927.2.2.2.2.2.2.2.2.2.2.1
theorem dL_law_1944 : decode cL_law 1944 = .ok (.invokestatic 294, 3) := wtL_law_1927.2.2.2.2.2.2.2.2.2.2.2.1
theorem dL_law_1947 : decode cL_law 1947 = .ok (.istore 5, 2) := wtL_law_1927.2.2.2.2.2.2.2.2.2.2.2.2.1
theorem dL_law_1949 : decode cL_law 1949 = .ok (.aload_n 2, 1) := wtL_law_1927.2.2.2.2.2.2.2.2.2.2.2.2.2.1
theorem dL_law_1950 : decode cL_law 1950 = .ok (.aload_n 0, 1) := wtL_law_1927.2.2.2.2.2.2.2.2.2.2.2.2.2.2.1
theorem wtL_law_1951 : dwcj cL_law 1951 [(0, .iload 4, 2), (2, .iconst 1, 1), (3, .iadd, 1), (4, .iaload, 1), (5, .invokevirtual 296, 3), (8, .astore 6, 2), (10, .goto 211, 3), (13, .aload_n 1, 1), (14, .aload_n 0, 1), (15, .iload 4, 2), (17, .iconst 1, 1), (18, .iadd, 1), (19, .iaload, 1), (20, .aload_n 3, 1), (21, .invokestatic 297, 3)] := dw_all (l := [21, 4, 4, 96, 46, 182, 1, 40, 58, 6, 167, 0, 211, 43, 42, 21, 4, 4, 96, 46, 45, 184, 1, 41]) (by decide +kernel)
theorem dL_law_1951 : decode cL_law 1951 = .ok (.iload 4, 2) := wtL_law_1951.1
theorem dL_law_1953 : decode cL_law 1953 = .ok (.iconst 1, 1) := wtL_law_1951.2.1
theorem dL_law_1954 : decode cL_law 1954 = .ok (.iadd, 1) := wtL_law_1951.2.2.1
theorem dL_law_1955 : decode cL_law 1955 = .ok (.iaload, 1) := wtL_law_1951.2.2.2.1
theorem dL_law_1956 : decode cL_law 1956 = .ok (.invokevirtual 296, 3) := wtL_law_1951.2.2.2.2.1
theorem dL_law_1959 : decode cL_law 1959 = .ok (.astore 6, 2) := wtL_law_1951.2.2.2.2.2.1
theorem dL_law_1961 : decode cL_law 1961 = .ok (.goto 211, 3) := wtL_law_1951.2.2.2.2.2.2.1
theorem dL_law_1964 : decode cL_law 1964 = .ok (.aload_n 1, 1) := wtL_law_1951.2.2.2.2.2.2.2.1
theorem dL_law_1965 : decode cL_law 1965 = .ok (.aload_n 0, 1) := wtL_law_1951.2.2.2.2.2.2.2.2.1
theorem dL_law_1966 : decode cL_law 1966 = .ok (.iload 4, 2) := wtL_law_1951.2.2.2.2.2.2.2.2.2.1
theorem dL_law_1968 : decode cL_law 1968 = .ok (.iconst 1, 1) := wtL_law_1951.2.2.2.2.2.2.2.2.2.2.1
theorem dL_law_1969 : decode cL_law 1969 = .ok (.iadd, 1) := wtL_law_1951.2.2.2.2.2.2.2.2.2.2.2.1
theorem dL_law_1970 : decode cL_law 1970 = .ok (.iaload, 1) := wtL_law_1951.2.2.2.2.2.2.2.2.2.2.2.2.1
theorem dL_law_1971 : decode cL_law 1971 = .ok (.aload_n 3, 1) := wtL_law_1951.2.2.2.2.2.2.2.2.2.2.2.2.2.1
theorem dL_law_1972 : decode cL_law 1972 = .ok (.invokestatic 297, 3) := wtL_law_1951.2.2.2.2.2.2.2.2.2.2.2.2.2.2.1
theorem wtL_law_1975 : dwcj cL_law 1975 [(0, .istore 5, 2), (2, .aload_n 2, 1), (3, .aload_n 0, 1), (4, .iload 4, 2), (6, .iconst 1, 1), (7, .iadd, 1), (8, .iaload, 1), (9, .invokevirtual 299, 3), (12, .istore 6, 2), (14, .goto 183, 3), (17, .aload_n 1, 1), (18, .aload_n 0, 1), (19, .iload 4, 2), (21, .iconst 1, 1), (22, .iadd, 1), (23, .iaload, 1)] := dw_all (l := [54, 5, 44, 42, 21, 4, 4, 96, 46, 182, 1, 43, 54, 6, 167, 0, 183, 43, 42, 21, 4, 4, 96, 46]) (by decide +kernel)
theorem dL_law_1975 : decode cL_law 1975 = .ok (.istore 5, 2) := wtL_law_1975.1
theorem dL_law_1977 : decode cL_law 1977 = .ok (.aload_n 2, 1) := wtL_law_1975.2.1
theorem dL_law_1978 : decode cL_law 1978 = .ok (.aload_n 0, 1) := wtL_law_1975.2.2.1
theorem dL_law_1979 : decode cL_law 1979 = .ok (.iload 4, 2) := wtL_law_1975.2.2.2.1
theorem dL_law_1981 : decode cL_law 1981 = .ok (.iconst 1, 1) := wtL_law_1975.2.2.2.2.1
theorem dL_law_1982 : decode cL_law 1982 = .ok (.iadd, 1) := wtL_law_1975.2.2.2.2.2.1
theorem dL_law_1983 : decode cL_law 1983 = .ok (.iaload, 1) := wtL_law_1975.2.2.2.2.2.2.1
theorem dL_law_1984 : decode cL_law 1984 = .ok (.invokevirtual 299, 3) := wtL_law_1975.2.2.2.2.2.2.2.1
theorem dL_law_1987 : decode cL_law 1987 = .ok (.istore 6, 2) := wtL_law_1975.2.2.2.2.2.2.2.2.1
theorem dL_law_1989 : decode cL_law 1989 = .ok (.goto 183, 3) := wtL_law_1975.2.2.2.2.2.2.2.2.2.1
theorem dL_law_1992 : decode cL_law 1992 = .ok (.aload_n 1, 1) := wtL_law_1975.2.2.2.2.2.2.2.2.2.2.1
theorem dL_law_1993 : decode cL_law 1993 = .ok (.aload_n 0, 1) := wtL_law_1975.2.2.2.2.2.2.2.2.2.2.2.1
theorem dL_law_1994 : decode cL_law 1994 = .ok (.iload 4, 2) := wtL_law_1975.2.2.2.2.2.2.2.2.2.2.2.2.1
theorem dL_law_1996 : decode cL_law 1996 = .ok (.iconst 1, 1) := wtL_law_1975.2.2.2.2.2.2.2.2.2.2.2.2.2.1
theorem dL_law_1997 : decode cL_law 1997 = .ok (.iadd, 1) := wtL_law_1975.2.2.2.2.2.2.2.2.2.2.2.2.2.2.1
theorem dL_law_1998 : decode cL_law 1998 = .ok (.iaload, 1) := wtL_law_1975.2.2.2.2.2.2.2.2.2.2.2.2.2.2.2.1
theorem wtL_law_1999 : dwcj cL_law 1999 [(0, .aload_n 3, 1), (1, .invokestatic 300, 3), (4, .istore 5, 2), (6, .aload_n 2, 1), (7, .aload_n 0, 1), (8, .iload 4, 2), (10, .iconst 1, 1), (11, .iadd, 1), (12, .iaload, 1), (13, .invokevirtual 302, 3), (16, .istore 6, 2), (18, .goto 155, 3), (21, .aload_n 1, 1), (22, .aload_n 0, 1), (23, .iload 4, 2)] := dw_all (l := [45, 184, 1, 44, 54, 5, 44, 42, 21, 4, 4, 96, 46, 182, 1, 46, 54, 6, 167, 0, 155, 43, 42, 21, 4]) (by decide +kernel)
theorem dL_law_1999 : decode cL_law 1999 = .ok (.aload_n 3, 1) := wtL_law_1999.1
theorem dL_law_2000 : decode cL_law 2000 = .ok (.invokestatic 300, 3) := wtL_law_1999.2.1
theorem dL_law_2003 : decode cL_law 2003 = .ok (.istore 5, 2) := wtL_law_1999.2.2.1
theorem dL_law_2005 : decode cL_law 2005 = .ok (.aload_n 2, 1) := wtL_law_1999.2.2.2.1
theorem dL_law_2006 : decode cL_law 2006 = .ok (.aload_n 0, 1) := wtL_law_1999.2.2.2.2.1
theorem dL_law_2007 : decode cL_law 2007 = .ok (.iload 4, 2) := wtL_law_1999.2.2.2.2.2.1
theorem dL_law_2009 : decode cL_law 2009 = .ok (.iconst 1, 1) := wtL_law_1999.2.2.2.2.2.2.1
theorem dL_law_2010 : decode cL_law 2010 = .ok (.iadd, 1) := wtL_law_1999.2.2.2.2.2.2.2.1
theorem dL_law_2011 : decode cL_law 2011 = .ok (.iaload, 1) := wtL_law_1999.2.2.2.2.2.2.2.2.1
theorem dL_law_2012 : decode cL_law 2012 = .ok (.invokevirtual 302, 3) := wtL_law_1999.2.2.2.2.2.2.2.2.2.1
theorem dL_law_2015 : decode cL_law 2015 = .ok (.istore 6, 2) := wtL_law_1999.2.2.2.2.2.2.2.2.2.2.1
theorem dL_law_2017 : decode cL_law 2017 = .ok (.goto 155, 3) := wtL_law_1999.2.2.2.2.2.2.2.2.2.2.2.1
theorem dL_law_2020 : decode cL_law 2020 = .ok (.aload_n 1, 1) := wtL_law_1999.2.2.2.2.2.2.2.2.2.2.2.2.1
theorem dL_law_2021 : decode cL_law 2021 = .ok (.aload_n 0, 1) := wtL_law_1999.2.2.2.2.2.2.2.2.2.2.2.2.2.1
theorem dL_law_2022 : decode cL_law 2022 = .ok (.iload 4, 2) := wtL_law_1999.2.2.2.2.2.2.2.2.2.2.2.2.2.2.1
theorem wtL_law_2024 : dwcj cL_law 2024 [(0, .iconst 1, 1), (1, .iadd, 1), (2, .iaload, 1), (3, .aload_n 3, 1), (4, .invokestatic 303, 3), (7, .istore 5, 2), (9, .aload_n 2, 1), (10, .aload_n 0, 1), (11, .iload 4, 2), (13, .iconst 1, 1), (14, .iadd, 1), (15, .iaload, 1), (16, .invokevirtual 305, 3), (19, .istore 6, 2), (21, .goto 127, 3)] := dw_all (l := [4, 96, 46, 45, 184, 1, 47, 54, 5, 44, 42, 21, 4, 4, 96, 46, 182, 1, 49, 54, 6, 167, 0, 127]) (by decide +kernel)
theorem dL_law_2024 : decode cL_law 2024 = .ok (.iconst 1, 1) := wtL_law_2024.1
theorem dL_law_2025 : decode cL_law 2025 = .ok (.iadd, 1) := wtL_law_2024.2.1
theorem dL_law_2026 : decode cL_law 2026 = .ok (.iaload, 1) := wtL_law_2024.2.2.1
theorem dL_law_2027 : decode cL_law 2027 = .ok (.aload_n 3, 1) := wtL_law_2024.2.2.2.1
theorem dL_law_2028 : decode cL_law 2028 = .ok (.invokestatic 303, 3) := wtL_law_2024.2.2.2.2.1
theorem dL_law_2031 : decode cL_law 2031 = .ok (.istore 5, 2) := wtL_law_2024.2.2.2.2.2.1
theorem dL_law_2033 : decode cL_law 2033 = .ok (.aload_n 2, 1) := wtL_law_2024.2.2.2.2.2.2.1
theorem dL_law_2034 : decode cL_law 2034 = .ok (.aload_n 0, 1) := wtL_law_2024.2.2.2.2.2.2.2.1
theorem dL_law_2035 : decode cL_law 2035 = .ok (.iload 4, 2) := wtL_law_2024.2.2.2.2.2.2.2.2.1
theorem dL_law_2037 : decode cL_law 2037 = .ok (.iconst 1, 1) := wtL_law_2024.2.2.2.2.2.2.2.2.2.1
theorem dL_law_2038 : decode cL_law 2038 = .ok (.iadd, 1) := wtL_law_2024.2.2.2.2.2.2.2.2.2.2.1
theorem dL_law_2039 : decode cL_law 2039 = .ok (.iaload, 1) := wtL_law_2024.2.2.2.2.2.2.2.2.2.2.2.1
theorem dL_law_2040 : decode cL_law 2040 = .ok (.invokevirtual 305, 3) := wtL_law_2024.2.2.2.2.2.2.2.2.2.2.2.2.1
theorem dL_law_2043 : decode cL_law 2043 = .ok (.istore 6, 2) := wtL_law_2024.2.2.2.2.2.2.2.2.2.2.2.2.2.1
theorem dL_law_2045 : decode cL_law 2045 = .ok (.goto 127, 3) := wtL_law_2024.2.2.2.2.2.2.2.2.2.2.2.2.2.2.1
theorem wtL_law_2048 : dwcj cL_law 2048 [(0, .aload_n 1, 1), (1, .aload_n 0, 1), (2, .iload 4, 2), (4, .iconst 1, 1), (5, .iadd, 1), (6, .iaload, 1), (7, .aload_n 0, 1), (8, .iload 4, 2), (10, .iconst 2, 1), (11, .iadd, 1), (12, .iaload, 1), (13, .ifCond .eq 7, 3), (16, .iconst 1, 1), (17, .goto 4, 3), (20, .iconst 0, 1), (21, .aload_n 3, 1), (22, .invokestatic 306, 3)] := dw_all (l := [43, 42, 21, 4, 4, 96, 46, 42, 21, 4, 5, 96, 46, 153, 0, 7, 4, 167, 0, 4, 3, 45, 184, 1, 50]) (by decide +kernel)
theorem dL_law_2048 : decode cL_law 2048 = .ok (.aload_n 1, 1) := wtL_law_2048.1
theorem dL_law_2049 : decode cL_law 2049 = .ok (.aload_n 0, 1) := wtL_law_2048.2.1
theorem dL_law_2050 : decode cL_law 2050 = .ok (.iload 4, 2) := wtL_law_2048.2.2.1
theorem dL_law_2052 : decode cL_law 2052 = .ok (.iconst 1, 1) := wtL_law_2048.2.2.2.1
theorem dL_law_2053 : decode cL_law 2053 = .ok (.iadd, 1) := wtL_law_2048.2.2.2.2.1
theorem dL_law_2054 : decode cL_law 2054 = .ok (.iaload, 1) := wtL_law_2048.2.2.2.2.2.1
theorem dL_law_2055 : decode cL_law 2055 = .ok (.aload_n 0, 1) := wtL_law_2048.2.2.2.2.2.2.1
theorem dL_law_2056 : decode cL_law 2056 = .ok (.iload 4, 2) := wtL_law_2048.2.2.2.2.2.2.2.1
theorem dL_law_2058 : decode cL_law 2058 = .ok (.iconst 2, 1) := wtL_law_2048.2.2.2.2.2.2.2.2.1
theorem dL_law_2059 : decode cL_law 2059 = .ok (.iadd, 1) := wtL_law_2048.2.2.2.2.2.2.2.2.2.1
theorem dL_law_2060 : decode cL_law 2060 = .ok (.iaload, 1) := wtL_law_2048.2.2.2.2.2.2.2.2.2.2.1
theorem dL_law_2061 : decode cL_law 2061 = .ok (.ifCond .eq 7, 3) := wtL_law_2048.2.2.2.2.2.2.2.2.2.2.2.1
theorem dL_law_2064 : decode cL_law 2064 = .ok (.iconst 1, 1) := wtL_law_2048.2.2.2.2.2.2.2.2.2.2.2.2.1
theorem dL_law_2065 : decode cL_law 2065 = .ok (.goto 4, 3) := wtL_law_2048.2.2.2.2.2.2.2.2.2.2.2.2.2.1
theorem dL_law_2068 : decode cL_law 2068 = .ok (.iconst 0, 1) := wtL_law_2048.2.2.2.2.2.2.2.2.2.2.2.2.2.2.1
theorem dL_law_2069 : decode cL_law 2069 = .ok (.aload_n 3, 1) := wtL_law_2048.2.2.2.2.2.2.2.2.2.2.2.2.2.2.2.1
theorem dL_law_2070 : decode cL_law 2070 = .ok (.invokestatic 306, 3) := wtL_law_2048.2.2.2.2.2.2.2.2.2.2.2.2.2.2.2.2.1
theorem wtL_law_2073 : dwcj cL_law 2073 [(0, .istore 5, 2), (2, .aload_n 2, 1), (3, .aload_n 0, 1), (4, .iload 4, 2), (6, .iconst 1, 1), (7, .iadd, 1), (8, .iaload, 1), (9, .aload_n 0, 1), (10, .iload 4, 2), (12, .iconst 2, 1), (13, .iadd, 1), (14, .iaload, 1), (15, .ifCond .eq 7, 3), (18, .iconst 1, 1), (19, .goto 4, 3), (22, .iconst 0, 1), (23, .invokevirtual 308, 3)] := dw_all (l := [54, 5, 44, 42, 21, 4, 4, 96, 46, 42, 21, 4, 5, 96, 46, 153, 0, 7, 4, 167, 0, 4, 3, 182, 1, 52]) (by decide +kernel)
theorem dL_law_2073 : decode cL_law 2073 = .ok (.istore 5, 2) := wtL_law_2073.1
theorem dL_law_2075 : decode cL_law 2075 = .ok (.aload_n 2, 1) := wtL_law_2073.2.1
theorem dL_law_2076 : decode cL_law 2076 = .ok (.aload_n 0, 1) := wtL_law_2073.2.2.1
theorem dL_law_2077 : decode cL_law 2077 = .ok (.iload 4, 2) := wtL_law_2073.2.2.2.1
theorem dL_law_2079 : decode cL_law 2079 = .ok (.iconst 1, 1) := wtL_law_2073.2.2.2.2.1
theorem dL_law_2080 : decode cL_law 2080 = .ok (.iadd, 1) := wtL_law_2073.2.2.2.2.2.1
theorem dL_law_2081 : decode cL_law 2081 = .ok (.iaload, 1) := wtL_law_2073.2.2.2.2.2.2.1
theorem dL_law_2082 : decode cL_law 2082 = .ok (.aload_n 0, 1) := wtL_law_2073.2.2.2.2.2.2.2.1
theorem dL_law_2083 : decode cL_law 2083 = .ok (.iload 4, 2) := wtL_law_2073.2.2.2.2.2.2.2.2.1
theorem dL_law_2085 : decode cL_law 2085 = .ok (.iconst 2, 1) := wtL_law_2073.2.2.2.2.2.2.2.2.2.1
theorem dL_law_2086 : decode cL_law 2086 = .ok (.iadd, 1) := wtL_law_2073.2.2.2.2.2.2.2.2.2.2.1
theorem dL_law_2087 : decode cL_law 2087 = .ok (.iaload, 1) := wtL_law_2073.2.2.2.2.2.2.2.2.2.2.2.1
theorem dL_law_2088 : decode cL_law 2088 = .ok (.ifCond .eq 7, 3) := wtL_law_2073.2.2.2.2.2.2.2.2.2.2.2.2.1
theorem dL_law_2091 : decode cL_law 2091 = .ok (.iconst 1, 1) := wtL_law_2073.2.2.2.2.2.2.2.2.2.2.2.2.2.1
theorem dL_law_2092 : decode cL_law 2092 = .ok (.goto 4, 3) := wtL_law_2073.2.2.2.2.2.2.2.2.2.2.2.2.2.2.1
theorem dL_law_2095 : decode cL_law 2095 = .ok (.iconst 0, 1) := wtL_law_2073.2.2.2.2.2.2.2.2.2.2.2.2.2.2.2.1
theorem dL_law_2096 : decode cL_law 2096 = .ok (.invokevirtual 308, 3) := wtL_law_2073.2.2.2.2.2.2.2.2.2.2.2.2.2.2.2.2.1
theorem wtL_law_2099 : dwcj cL_law 2099 [(0, .istore 6, 2), (2, .goto 71, 3), (5, .aload_n 1, 1), (6, .aload_n 0, 1), (7, .iload 4, 2), (9, .iconst 1, 1), (10, .iadd, 1), (11, .iaload, 1), (12, .aload_n 3, 1), (13, .invokestatic 309, 3), (16, .istore 5, 2), (18, .aload_n 2, 1), (19, .aload_n 0, 1), (20, .iload 4, 2), (22, .iconst 1, 1), (23, .iadd, 1)] := dw_all (l := [54, 6, 167, 0, 71, 43, 42, 21, 4, 4, 96, 46, 45, 184, 1, 53, 54, 5, 44, 42, 21, 4, 4, 96]) (by decide +kernel)
theorem dL_law_2099 : decode cL_law 2099 = .ok (.istore 6, 2) := wtL_law_2099.1
theorem dL_law_2101 : decode cL_law 2101 = .ok (.goto 71, 3) := wtL_law_2099.2.1
theorem dL_law_2104 : decode cL_law 2104 = .ok (.aload_n 1, 1) := wtL_law_2099.2.2.1
theorem dL_law_2105 : decode cL_law 2105 = .ok (.aload_n 0, 1) := wtL_law_2099.2.2.2.1
theorem dL_law_2106 : decode cL_law 2106 = .ok (.iload 4, 2) := wtL_law_2099.2.2.2.2.1
theorem dL_law_2108 : decode cL_law 2108 = .ok (.iconst 1, 1) := wtL_law_2099.2.2.2.2.2.1
theorem dL_law_2109 : decode cL_law 2109 = .ok (.iadd, 1) := wtL_law_2099.2.2.2.2.2.2.1
theorem dL_law_2110 : decode cL_law 2110 = .ok (.iaload, 1) := wtL_law_2099.2.2.2.2.2.2.2.1
theorem dL_law_2111 : decode cL_law 2111 = .ok (.aload_n 3, 1) := wtL_law_2099.2.2.2.2.2.2.2.2.1
theorem dL_law_2112 : decode cL_law 2112 = .ok (.invokestatic 309, 3) := wtL_law_2099.2.2.2.2.2.2.2.2.2.1
theorem dL_law_2115 : decode cL_law 2115 = .ok (.istore 5, 2) := wtL_law_2099.2.2.2.2.2.2.2.2.2.2.1
theorem dL_law_2117 : decode cL_law 2117 = .ok (.aload_n 2, 1) := wtL_law_2099.2.2.2.2.2.2.2.2.2.2.2.1
theorem dL_law_2118 : decode cL_law 2118 = .ok (.aload_n 0, 1) := wtL_law_2099.2.2.2.2.2.2.2.2.2.2.2.2.1
theorem dL_law_2119 : decode cL_law 2119 = .ok (.iload 4, 2) := wtL_law_2099.2.2.2.2.2.2.2.2.2.2.2.2.2.1
theorem dL_law_2121 : decode cL_law 2121 = .ok (.iconst 1, 1) := wtL_law_2099.2.2.2.2.2.2.2.2.2.2.2.2.2.2.1
theorem dL_law_2122 : decode cL_law 2122 = .ok (.iadd, 1) := wtL_law_2099.2.2.2.2.2.2.2.2.2.2.2.2.2.2.2.1
theorem wtL_law_2123 : dwcj cL_law 2123 [(0, .iaload, 1), (1, .invokevirtual 311, 3), (4, .istore 6, 2), (6, .goto 43, 3), (9, .aload_n 1, 1), (10, .invokevirtual 312, 3), (13, .pop, 1), (14, .aload_n 2, 1), (15, .invokevirtual 316, 3), (18, .pop, 1), (19, .goto 30, 3), (22, .aload_n 1, 1), (23, .invokevirtual 317, 3)] := dw_all (l := [46, 182, 1, 55, 54, 6, 167, 0, 43, 43, 182, 1, 56, 87, 44, 182, 1, 60, 87, 167, 0, 30, 43, 182, 1, 61]) (by decide +kernel)
theorem dL_law_2123 : decode cL_law 2123 = .ok (.iaload, 1) := wtL_law_2123.1
theorem dL_law_2124 : decode cL_law 2124 = .ok (.invokevirtual 311, 3) := wtL_law_2123.2.1
theorem dL_law_2127 : decode cL_law 2127 = .ok (.istore 6, 2) := wtL_law_2123.2.2.1
theorem dL_law_2129 : decode cL_law 2129 = .ok (.goto 43, 3) := wtL_law_2123.2.2.2.1
theorem dL_law_2132 : decode cL_law 2132 = .ok (.aload_n 1, 1) := wtL_law_2123.2.2.2.2.1
theorem dL_law_2133 : decode cL_law 2133 = .ok (.invokevirtual 312, 3) := wtL_law_2123.2.2.2.2.2.1
theorem dL_law_2136 : decode cL_law 2136 = .ok (.pop, 1) := wtL_law_2123.2.2.2.2.2.2.1
theorem dL_law_2137 : decode cL_law 2137 = .ok (.aload_n 2, 1) := wtL_law_2123.2.2.2.2.2.2.2.1
theorem dL_law_2138 : decode cL_law 2138 = .ok (.invokevirtual 316, 3) := wtL_law_2123.2.2.2.2.2.2.2.2.1
theorem dL_law_2141 : decode cL_law 2141 = .ok (.pop, 1) := wtL_law_2123.2.2.2.2.2.2.2.2.2.1
theorem dL_law_2142 : decode cL_law 2142 = .ok (.goto 30, 3) := wtL_law_2123.2.2.2.2.2.2.2.2.2.2.1
theorem dL_law_2145 : decode cL_law 2145 = .ok (.aload_n 1, 1) := wtL_law_2123.2.2.2.2.2.2.2.2.2.2.2.1
theorem dL_law_2146 : decode cL_law 2146 = .ok (.invokevirtual 317, 3) := wtL_law_2123.2.2.2.2.2.2.2.2.2.2.2.2.1
theorem wtL_law_2149 : dwcj cL_law 2149 [(0, .pop, 1), (1, .aload_n 2, 1), (2, .invokevirtual 321, 3), (5, .pop, 1), (6, .goto 17, 3), (9, .aload_n 1, 1), (10, .invokevirtual 322, 3), (13, .aload_n 2, 1), (14, .invokevirtual 326, 3), (17, .lcmp, 1), (18, .ifCond .eq 5, 3), (21, .iconst 0, 1), (22, .ireturn, 1), (23, .iinc 4 5, 3)] := dw_all (l := [87, 44, 182, 1, 65, 87, 167, 0, 17, 43, 182, 1, 66, 44, 182, 1, 70, 148, 153, 0, 5, 3, 172, 132, 4, 5]) (by decide +kernel)
theorem dL_law_2149 : decode cL_law 2149 = .ok (.pop, 1) := wtL_law_2149.1
theorem dL_law_2150 : decode cL_law 2150 = .ok (.aload_n 2, 1) := wtL_law_2149.2.1
theorem dL_law_2151 : decode cL_law 2151 = .ok (.invokevirtual 321, 3) := wtL_law_2149.2.2.1
theorem dL_law_2154 : decode cL_law 2154 = .ok (.pop, 1) := wtL_law_2149.2.2.2.1
theorem dL_law_2155 : decode cL_law 2155 = .ok (.goto 17, 3) := wtL_law_2149.2.2.2.2.1
theorem dL_law_2158 : decode cL_law 2158 = .ok (.aload_n 1, 1) := wtL_law_2149.2.2.2.2.2.1
theorem dL_law_2159 : decode cL_law 2159 = .ok (.invokevirtual 322, 3) := wtL_law_2149.2.2.2.2.2.2.1
theorem dL_law_2162 : decode cL_law 2162 = .ok (.aload_n 2, 1) := wtL_law_2149.2.2.2.2.2.2.2.1
theorem dL_law_2163 : decode cL_law 2163 = .ok (.invokevirtual 326, 3) := wtL_law_2149.2.2.2.2.2.2.2.2.1
theorem dL_law_2166 : decode cL_law 2166 = .ok (.lcmp, 1) := wtL_law_2149.2.2.2.2.2.2.2.2.2.1
theorem dL_law_2167 : decode cL_law 2167 = .ok (.ifCond .eq 5, 3) := wtL_law_2149.2.2.2.2.2.2.2.2.2.2.1
theorem dL_law_2170 : decode cL_law 2170 = .ok (.iconst 0, 1) := wtL_law_2149.2.2.2.2.2.2.2.2.2.2.2.1
theorem dL_law_2171 : decode cL_law 2171 = .ok (.ireturn, 1) := wtL_law_2149.2.2.2.2.2.2.2.2.2.2.2.2.1
theorem dL_law_2172 : decode cL_law 2172 = .ok (.iinc 4 5, 3) := wtL_law_2149.2.2.2.2.2.2.2.2.2.2.2.2.2.1
theorem wtL_law_2175 : dwcj cL_law 2175 [(0, .goto (-2148), 3), (3, .iconst 1, 1), (4, .ireturn, 1)] := dw_all (l := [167, 247, 156, 4, 172]) (by decide +kernel)
theorem dL_law_2175 : decode cL_law 2175 = .ok (.goto (-2148), 3) := wtL_law_2175.1
theorem dL_law_2178 : decode cL_law 2178 = .ok (.iconst 1, 1) := wtL_law_2175.2.1
theorem dL_law_2179 : decode cL_law 2179 = .ok (.ireturn, 1) := wtL_law_2175.2.2.1
/-! ===== the law's cases ===== -/
section LC
variable {p : Program} {l : Launch} {e : Env} {s : State} {m : MethodId} {args : Array Value} {below : List Frame} {meth : Method} {c0 : Code} {Qw : State → Prop} {D : va_G} {cB cJ : ClassId} {t N : Nat} {g : Nat → Int} {o a u v w : Nat}
/-- what comes after a case -/
def zNx (p : Program) (l : Launch) (e : Env) (s : State) (m : MethodId) (args : Array Value) (below : List Frame) (meth : Method) (c0 : Code) (D : va_G) (cJ : ClassId) (t o a u v w : Nat) (x : Int) (cells slots : Nat) (Qw : State → Prop) (pc : Nat) : Prop :=
  ∀ (c : Nat → Nat) (ac re kn : Int32) (th : Int) (n : Int64) (sv : Value) (H : Heap) (locs : List Loc) (ls : Array Slot) (cells2 slots2 : Nat), zG D cJ o a u v w c [.int ac, .int re, .int kn] c [.int (iZ th), .int ac, .int re, .int kn] n sv s H locs → cells2 ≤ cells + 150 → slots2 ≤ slots + 75000 → lv_has ls 7 [(0, .ref t), (1, .ref o), (2, .ref u), (3, .ref w), (4, .int (iZ x))] → W p l e room_1 s m args below meth c0 H locs cells2 slots2 Qw (F0 m pc ls [])
theorem zd_eqv {R : Room} {c : Code} {H : Heap} {locs : List Loc} {cells slots : Nat} {cc : ByteArray} {pc nL : Nat} {ls : Array Slot} {rest : List Value} {own : String} (C : CallFix p m c cc nL s args T0 own) {y z : Int32} {off : Int} {tgt : Nat} (h : z = y) (d : decode cc pc = .ok (.if_icmp .eq off, 3)) (ht : (pc : Int) + off = (tgt : Int)) (k : W p l e R s m args below meth c H locs cells slots Qw (F0 m tgt ls rest)) : W p l e R s m args below meth c H locs cells slots Qw (F0 m pc ls (.int y :: .int z :: rest)) :=
  lv_icmp_eq C.1 C.2.1 d ht (fun _ => k) (fun g => absurd h g)

set_option maxHeartbeats 4000000 in
set_option maxRecDepth 100000 in
theorem lk_0 (hlq : l.stackTraces = false) (C : CallFix p m c0 cL_law 7 s args T0 RL) (Z : zLw D cB t N g s) (Y : zAd o a u v w s) {c : Nat → Nat} {ac re kn : Int32} {th : Int} {n : Int64} {sv : Value} {H : Heap} {locs : List Loc} {ls : Array Slot} {cells slots : Nat} (G : zG D cJ o a u v w c [.int ac, .int re, .int kn] c [.int (iZ th), .int ac, .int re, .int kn] n sv s H locs) (x : Int) (hx : 0 ≤ x ∧ x + 5 ≤ (N : Int)) (hf : cells + 150 ≤ 665281 ∧ slots + 75000 ≤ 7105636) (hl : lv_has ls 7 [(0, .ref t), (1, .ref o), (2, .ref u), (3, .ref w), (4, .int (iZ (x)))])
    (kk : zNx p l e s m args below meth c0 D cJ t o a u v w x cells slots Qw 2172) : W p l e room_1 s m args below meth c0 H locs cells slots Qw (F0 m 244 ls []) := by
  have hc := G.1.2.2.2
  obtain ⟨q1, e1⟩ : ∃ z, g (x.toNat + 1) = z := ⟨_, rfl⟩
  have r1 : -2147483648 ≤ q1 ∧ q1 ≤ 2147483647 := e1 ▸ Z.2.2.2.2.2.1 _
  obtain ⟨q2, e2⟩ : ∃ z, g (x.toNat + 2) = z := ⟨_, rfl⟩
  have r2 : -2147483648 ≤ q2 ∧ q2 ≤ 2147483647 := e2 ▸ Z.2.2.2.2.2.1 _
  by_cases hcel : (0 ≤ q1 ∧ q1 ≤ 5)
  · skip
    refine lv_aload_n C.1 C.2.1 dL_law_244 rfl (lv_at hl 1 rfl) ?_
    refine lv_aload_n C.1 C.2.1 dL_law_245 rfl (lv_at hl 0 rfl) ?_
    refine lv_iload C.1 C.2.1 dL_law_246 (lv_at hl 4 rfl) ?_
    refine z_iconst C dL_law_248 ?_
    refine z_iadd C dL_law_249 ?_
    refine zd_ld C Z G q1 (x.toNat + 1) e1 (by omega) (by omega) dL_law_250 ?_
    refine lv_aload_n C.1 C.2.1 dL_law_251 rfl (lv_at hl 0 rfl) ?_
    refine lv_iload C.1 C.2.1 dL_law_252 (lv_at hl 4 rfl) ?_
    refine z_iconst C dL_law_254 ?_
    refine z_iadd C dL_law_255 ?_
    refine zd_ld C Z G q2 (x.toNat + 2) e2 (by omega) (by omega) dL_law_256 ?_
    refine lv_aload_n C.1 C.2.1 dL_law_257 rfl (lv_at hl 3 rfl) ?_
    refine zd_W (as := [.ref o, .int (iZ (q1)), .int (iZ (q2)), .ref w]) C Z Y G (c_L_put l D cJ o a _ _ _ _ (q1) (q2) (by first | assumption | omega) (by first | assumption | omega) w _ _) ml_L_171 ⟨Nat.le_of_ble_eq_true rfl, Nat.le_of_ble_eq_true rfl⟩ ⟨by show cells + 0 + 0 ≤ 665281; omega, by show slots + 0 + 0 ≤ 7105636; omega⟩ hl (Nat.le_of_ble_eq_true rfl) rfl dL_law_258 (fun H locs G => ?_)
    refine lv_istore (lv' := [(5, .int (iZ (0))), (0, .ref t), (1, .ref o), (2, .ref u), (3, .ref w), (4, .int (iZ (x)))]) C.1 C.2.1 dL_law_261 hl (by decide) rfl (fun ls hl => ?_)
    refine lv_aload_n C.1 C.2.1 dL_law_263 rfl (lv_at hl 3 rfl) ?_
    refine lv_aload_n C.1 C.2.1 dL_law_264 rfl (lv_at hl 1 rfl) ?_
    refine lv_iload C.1 C.2.1 dL_law_265 (lv_at hl 5 rfl) ?_
    refine z_iconst C dL_law_267 ?_
    refine z_iadd C dL_law_268 ?_
    refine zd_ld C Z G q1 (x.toNat + 1) e1 (by omega) (by omega) dL_law_269 ?_
    refine lv_aload_n C.1 C.2.1 dL_law_270 rfl (lv_at hl 1 rfl) ?_
    refine lv_iload C.1 C.2.1 dL_law_271 (lv_at hl 5 rfl) ?_
    refine z_iconst C dL_law_273 ?_
    refine z_iadd C dL_law_274 ?_
    refine zd_ld C Z G q2 (x.toNat + 2) e2 (by omega) (by omega) dL_law_275 ?_
    refine zd_M (as := [.int (iZ (q1)), .int (iZ (q2))]) C Y G (c_X5_put l D cJ u v _ _ _ _ _ (q1) (q2) (by first | assumption | omega) (by first | assumption | omega)) ml_L_176 rfl ⟨Nat.le_of_ble_eq_true rfl, Nat.le_of_ble_eq_true rfl⟩ ⟨by show cells + 0 + 0 ≤ 665281; omega, by show slots + 0 + 0 ≤ 7105636; omega⟩ hl (Nat.le_of_ble_eq_true rfl) rfl dL_law_276 (fun y9 H locs hy9 G => ?_)
    subst hy9
    refine lv_istore (lv' := [(6, _), (5, .int (iZ (0))), (0, .ref t), (1, .ref o), (2, .ref u), (3, .ref w), (4, .int (iZ (x)))]) C.1 C.2.1 dL_law_279 hl (by decide) rfl (fun ls hl => ?_)
    refine lv_goto (tgt := 2172) C.1 C.2.1 dL_law_281 (by decide) ?_
    exact kk _ _ _ _ _ _ _ _ _ _ _ _ G (by omega) (by omega) (lv_sub hl [2, 3, 4, 5, 6] rfl)
  · skip
    refine lv_aload_n C.1 C.2.1 dL_law_244 rfl (lv_at hl 1 rfl) ?_
    refine lv_aload_n C.1 C.2.1 dL_law_245 rfl (lv_at hl 0 rfl) ?_
    refine lv_iload C.1 C.2.1 dL_law_246 (lv_at hl 4 rfl) ?_
    refine z_iconst C dL_law_248 ?_
    refine z_iadd C dL_law_249 ?_
    refine zd_ld C Z G q1 (x.toNat + 1) e1 (by omega) (by omega) dL_law_250 ?_
    refine lv_aload_n C.1 C.2.1 dL_law_251 rfl (lv_at hl 0 rfl) ?_
    refine lv_iload C.1 C.2.1 dL_law_252 (lv_at hl 4 rfl) ?_
    refine z_iconst C dL_law_254 ?_
    refine z_iadd C dL_law_255 ?_
    refine zd_ld C Z G q2 (x.toNat + 2) e2 (by omega) (by omega) dL_law_256 ?_
    refine lv_aload_n C.1 C.2.1 dL_law_257 rfl (lv_at hl 3 rfl) ?_
    refine zd_W (as := [.ref o, .int (iZ (q1)), .int (iZ (q2)), .ref w]) C Z Y G (c_L_put_badc l hlq D cJ o a _ _ _ _ (q1) (q2) (by first | assumption | omega) (by first | assumption | omega) (by first | assumption | omega) w _ _) ml_L_171 ⟨Nat.le_of_ble_eq_true rfl, Nat.le_of_ble_eq_true rfl⟩ ⟨by show cells + 0 + 1 ≤ 665281; omega, by show slots + 0 + 6 ≤ 7105636; omega⟩ hl (Nat.le_of_ble_eq_true rfl) rfl dL_law_258 (fun H locs G => ?_)
    refine lv_istore (lv' := [(5, .int (iZ (1))), (0, .ref t), (1, .ref o), (2, .ref u), (3, .ref w), (4, .int (iZ (x)))]) C.1 C.2.1 dL_law_261 hl (by decide) rfl (fun ls hl => ?_)
    refine lv_aload_n C.1 C.2.1 dL_law_263 rfl (lv_at hl 3 rfl) ?_
    refine lv_aload_n C.1 C.2.1 dL_law_264 rfl (lv_at hl 1 rfl) ?_
    refine lv_iload C.1 C.2.1 dL_law_265 (lv_at hl 5 rfl) ?_
    refine z_iconst C dL_law_267 ?_
    refine z_iadd C dL_law_268 ?_
    refine zd_ld C Z G q1 (x.toNat + 1) e1 (by omega) (by omega) dL_law_269 ?_
    refine lv_aload_n C.1 C.2.1 dL_law_270 rfl (lv_at hl 1 rfl) ?_
    refine lv_iload C.1 C.2.1 dL_law_271 (lv_at hl 5 rfl) ?_
    refine z_iconst C dL_law_273 ?_
    refine z_iadd C dL_law_274 ?_
    refine zd_ld C Z G q2 (x.toNat + 2) e2 (by omega) (by omega) dL_law_275 ?_
    refine zd_M (as := [.int (iZ (q1)), .int (iZ (q2))]) C Y G (c_X5_put_bad1 l D cJ u v _ _ _ _ _ (q1) (q2) (by first | assumption | omega) (by first | assumption | omega) (by first | assumption | omega)) ml_L_176 rfl ⟨Nat.le_of_ble_eq_true rfl, Nat.le_of_ble_eq_true rfl⟩ ⟨by show cells + 1 + 0 ≤ 665281; omega, by show slots + 6 + 0 ≤ 7105636; omega⟩ hl (Nat.le_of_ble_eq_true rfl) rfl dL_law_276 (fun y9 H locs hy9 G => ?_)
    subst hy9
    refine lv_istore (lv' := [(6, _), (5, .int (iZ (1))), (0, .ref t), (1, .ref o), (2, .ref u), (3, .ref w), (4, .int (iZ (x)))]) C.1 C.2.1 dL_law_279 hl (by decide) rfl (fun ls hl => ?_)
    refine lv_goto (tgt := 2172) C.1 C.2.1 dL_law_281 (by decide) ?_
    exact kk _ _ _ _ _ _ _ _ _ _ _ _ G (by omega) (by omega) (lv_sub hl [2, 3, 4, 5, 6] rfl)
set_option maxHeartbeats 4000000 in
set_option maxRecDepth 100000 in
theorem lk_1 (hlq : l.stackTraces = false) (C : CallFix p m c0 cL_law 7 s args T0 RL) (Z : zLw D cB t N g s) (Y : zAd o a u v w s) {c : Nat → Nat} {ac re kn : Int32} {th : Int} {n : Int64} {sv : Value} {H : Heap} {locs : List Loc} {ls : Array Slot} {cells slots : Nat} (G : zG D cJ o a u v w c [.int ac, .int re, .int kn] c [.int (iZ th), .int ac, .int re, .int kn] n sv s H locs) (x : Int) (hx : 0 ≤ x ∧ x + 5 ≤ (N : Int)) (hf : cells + 150 ≤ 665281 ∧ slots + 75000 ≤ 7105636) (hl : lv_has ls 7 [(0, .ref t), (1, .ref o), (2, .ref u), (3, .ref w), (4, .int (iZ (x)))])
    (kk : zNx p l e s m args below meth c0 D cJ t o a u v w x cells slots Qw 2172) : W p l e room_1 s m args below meth c0 H locs cells slots Qw (F0 m 284 ls []) := by
  have hc := G.1.2.2.2
  obtain ⟨q1, e1⟩ : ∃ z, g (x.toNat + 1) = z := ⟨_, rfl⟩
  have r1 : -2147483648 ≤ q1 ∧ q1 ≤ 2147483647 := e1 ▸ Z.2.2.2.2.2.1 _
  obtain ⟨q2, e2⟩ : ∃ z, g (x.toNat + 2) = z := ⟨_, rfl⟩
  have r2 : -2147483648 ≤ q2 ∧ q2 ≤ 2147483647 := e2 ▸ Z.2.2.2.2.2.1 _
  by_cases hcel : (0 ≤ q1 ∧ q1 ≤ 5)
  · skip
    by_cases hrng : (0 ≤ q2 ∧ q2 ≤ 32)
    · skip
      refine lv_aload_n C.1 C.2.1 dL_law_284 rfl (lv_at hl 1 rfl) ?_
      refine lv_aload_n C.1 C.2.1 dL_law_285 rfl (lv_at hl 0 rfl) ?_
      refine lv_iload C.1 C.2.1 dL_law_286 (lv_at hl 4 rfl) ?_
      refine z_iconst C dL_law_288 ?_
      refine z_iadd C dL_law_289 ?_
      refine zd_ld C Z G q1 (x.toNat + 1) e1 (by omega) (by omega) dL_law_290 ?_
      refine lv_aload_n C.1 C.2.1 dL_law_291 rfl (lv_at hl 0 rfl) ?_
      refine lv_iload C.1 C.2.1 dL_law_292 (lv_at hl 4 rfl) ?_
      refine z_iconst C dL_law_294 ?_
      refine z_iadd C dL_law_295 ?_
      refine zd_ld C Z G q2 (x.toNat + 2) e2 (by omega) (by omega) dL_law_296 ?_
      refine lv_aload_n C.1 C.2.1 dL_law_297 rfl (lv_at hl 3 rfl) ?_
      refine zd_W (as := [.ref o, .int (iZ (q1)), .int (iZ (q2)), .ref w]) C Z Y G (c_L_mono l D cJ o a _ _ _ _ (q1) (q2) (by first | assumption | omega) (by first | assumption | omega) w _ _) ml_L_177 ⟨Nat.le_of_ble_eq_true rfl, Nat.le_of_ble_eq_true rfl⟩ ⟨by show cells + 0 + 0 ≤ 665281; omega, by show slots + 0 + 0 ≤ 7105636; omega⟩ hl (Nat.le_of_ble_eq_true rfl) rfl dL_law_298 (fun H locs G => ?_)
      refine lv_istore (lv' := [(5, .int (iZ (0))), (0, .ref t), (1, .ref o), (2, .ref u), (3, .ref w), (4, .int (iZ (x)))]) C.1 C.2.1 dL_law_301 hl (by decide) rfl (fun ls hl => ?_)
      refine lv_aload_n C.1 C.2.1 dL_law_303 rfl (lv_at hl 3 rfl) ?_
      refine lv_aload_n C.1 C.2.1 dL_law_304 rfl (lv_at hl 1 rfl) ?_
      refine lv_iload C.1 C.2.1 dL_law_305 (lv_at hl 5 rfl) ?_
      refine z_iconst C dL_law_307 ?_
      refine z_iadd C dL_law_308 ?_
      refine zd_ld C Z G q1 (x.toNat + 1) e1 (by omega) (by omega) dL_law_309 ?_
      refine lv_aload_n C.1 C.2.1 dL_law_310 rfl (lv_at hl 1 rfl) ?_
      refine lv_iload C.1 C.2.1 dL_law_311 (lv_at hl 5 rfl) ?_
      refine z_iconst C dL_law_313 ?_
      refine z_iadd C dL_law_314 ?_
      refine zd_ld C Z G q2 (x.toNat + 2) e2 (by omega) (by omega) dL_law_315 ?_
      refine zd_M (as := [.int (iZ (q1)), .int (iZ (q2))]) C Y G (c_X5_mono l D cJ u v _ _ _ _ _ (q1) (q2) (by first | assumption | omega) (by first | assumption | omega)) ml_L_179 rfl ⟨Nat.le_of_ble_eq_true rfl, Nat.le_of_ble_eq_true rfl⟩ ⟨by show cells + 0 + 0 ≤ 665281; omega, by show slots + 0 + 0 ≤ 7105636; omega⟩ hl (Nat.le_of_ble_eq_true rfl) rfl dL_law_316 (fun y9 H locs hy9 G => ?_)
      subst hy9
      refine lv_istore (lv' := [(6, _), (5, .int (iZ (0))), (0, .ref t), (1, .ref o), (2, .ref u), (3, .ref w), (4, .int (iZ (x)))]) C.1 C.2.1 dL_law_319 hl (by decide) rfl (fun ls hl => ?_)
      refine lv_goto (tgt := 2172) C.1 C.2.1 dL_law_321 (by decide) ?_
      exact kk _ _ _ _ _ _ _ _ _ _ _ _ G (by omega) (by omega) (lv_sub hl [2, 3, 4, 5, 6] rfl)
    · skip
      refine lv_aload_n C.1 C.2.1 dL_law_284 rfl (lv_at hl 1 rfl) ?_
      refine lv_aload_n C.1 C.2.1 dL_law_285 rfl (lv_at hl 0 rfl) ?_
      refine lv_iload C.1 C.2.1 dL_law_286 (lv_at hl 4 rfl) ?_
      refine z_iconst C dL_law_288 ?_
      refine z_iadd C dL_law_289 ?_
      refine zd_ld C Z G q1 (x.toNat + 1) e1 (by omega) (by omega) dL_law_290 ?_
      refine lv_aload_n C.1 C.2.1 dL_law_291 rfl (lv_at hl 0 rfl) ?_
      refine lv_iload C.1 C.2.1 dL_law_292 (lv_at hl 4 rfl) ?_
      refine z_iconst C dL_law_294 ?_
      refine z_iadd C dL_law_295 ?_
      refine zd_ld C Z G q2 (x.toNat + 2) e2 (by omega) (by omega) dL_law_296 ?_
      refine lv_aload_n C.1 C.2.1 dL_law_297 rfl (lv_at hl 3 rfl) ?_
      refine zd_W (as := [.ref o, .int (iZ (q1)), .int (iZ (q2)), .ref w]) C Z Y G (c_L_mono_badr l hlq D cJ o a _ _ _ _ (q1) (q2) (by first | assumption | omega) (by first | assumption | omega) (by first | assumption | omega) (by first | assumption | omega) w _ _) ml_L_177 ⟨Nat.le_of_ble_eq_true rfl, Nat.le_of_ble_eq_true rfl⟩ ⟨by show cells + 0 + 1 ≤ 665281; omega, by show slots + 0 + 6 ≤ 7105636; omega⟩ hl (Nat.le_of_ble_eq_true rfl) rfl dL_law_298 (fun H locs G => ?_)
      refine lv_istore (lv' := [(5, .int (iZ (2))), (0, .ref t), (1, .ref o), (2, .ref u), (3, .ref w), (4, .int (iZ (x)))]) C.1 C.2.1 dL_law_301 hl (by decide) rfl (fun ls hl => ?_)
      refine lv_aload_n C.1 C.2.1 dL_law_303 rfl (lv_at hl 3 rfl) ?_
      refine lv_aload_n C.1 C.2.1 dL_law_304 rfl (lv_at hl 1 rfl) ?_
      refine lv_iload C.1 C.2.1 dL_law_305 (lv_at hl 5 rfl) ?_
      refine z_iconst C dL_law_307 ?_
      refine z_iadd C dL_law_308 ?_
      refine zd_ld C Z G q1 (x.toNat + 1) e1 (by omega) (by omega) dL_law_309 ?_
      refine lv_aload_n C.1 C.2.1 dL_law_310 rfl (lv_at hl 1 rfl) ?_
      refine lv_iload C.1 C.2.1 dL_law_311 (lv_at hl 5 rfl) ?_
      refine z_iconst C dL_law_313 ?_
      refine z_iadd C dL_law_314 ?_
      refine zd_ld C Z G q2 (x.toNat + 2) e2 (by omega) (by omega) dL_law_315 ?_
      refine zd_M (as := [.int (iZ (q1)), .int (iZ (q2))]) C Y G (c_X5_mono_bad2 l D cJ u v _ _ _ _ _ (q1) (q2) (by first | assumption | omega) (by first | assumption | omega) (by first | assumption | omega) (by first | assumption | omega)) ml_L_179 rfl ⟨Nat.le_of_ble_eq_true rfl, Nat.le_of_ble_eq_true rfl⟩ ⟨by show cells + 1 + 0 ≤ 665281; omega, by show slots + 6 + 0 ≤ 7105636; omega⟩ hl (Nat.le_of_ble_eq_true rfl) rfl dL_law_316 (fun y9 H locs hy9 G => ?_)
      subst hy9
      refine lv_istore (lv' := [(6, _), (5, .int (iZ (2))), (0, .ref t), (1, .ref o), (2, .ref u), (3, .ref w), (4, .int (iZ (x)))]) C.1 C.2.1 dL_law_319 hl (by decide) rfl (fun ls hl => ?_)
      refine lv_goto (tgt := 2172) C.1 C.2.1 dL_law_321 (by decide) ?_
      exact kk _ _ _ _ _ _ _ _ _ _ _ _ G (by omega) (by omega) (lv_sub hl [2, 3, 4, 5, 6] rfl)
  · skip
    refine lv_aload_n C.1 C.2.1 dL_law_284 rfl (lv_at hl 1 rfl) ?_
    refine lv_aload_n C.1 C.2.1 dL_law_285 rfl (lv_at hl 0 rfl) ?_
    refine lv_iload C.1 C.2.1 dL_law_286 (lv_at hl 4 rfl) ?_
    refine z_iconst C dL_law_288 ?_
    refine z_iadd C dL_law_289 ?_
    refine zd_ld C Z G q1 (x.toNat + 1) e1 (by omega) (by omega) dL_law_290 ?_
    refine lv_aload_n C.1 C.2.1 dL_law_291 rfl (lv_at hl 0 rfl) ?_
    refine lv_iload C.1 C.2.1 dL_law_292 (lv_at hl 4 rfl) ?_
    refine z_iconst C dL_law_294 ?_
    refine z_iadd C dL_law_295 ?_
    refine zd_ld C Z G q2 (x.toNat + 2) e2 (by omega) (by omega) dL_law_296 ?_
    refine lv_aload_n C.1 C.2.1 dL_law_297 rfl (lv_at hl 3 rfl) ?_
    refine zd_W (as := [.ref o, .int (iZ (q1)), .int (iZ (q2)), .ref w]) C Z Y G (c_L_mono_badc l hlq D cJ o a _ _ _ _ (q1) (q2) (by first | assumption | omega) (by first | assumption | omega) (by first | assumption | omega) w _ _) ml_L_177 ⟨Nat.le_of_ble_eq_true rfl, Nat.le_of_ble_eq_true rfl⟩ ⟨by show cells + 0 + 1 ≤ 665281; omega, by show slots + 0 + 6 ≤ 7105636; omega⟩ hl (Nat.le_of_ble_eq_true rfl) rfl dL_law_298 (fun H locs G => ?_)
    refine lv_istore (lv' := [(5, .int (iZ (1))), (0, .ref t), (1, .ref o), (2, .ref u), (3, .ref w), (4, .int (iZ (x)))]) C.1 C.2.1 dL_law_301 hl (by decide) rfl (fun ls hl => ?_)
    refine lv_aload_n C.1 C.2.1 dL_law_303 rfl (lv_at hl 3 rfl) ?_
    refine lv_aload_n C.1 C.2.1 dL_law_304 rfl (lv_at hl 1 rfl) ?_
    refine lv_iload C.1 C.2.1 dL_law_305 (lv_at hl 5 rfl) ?_
    refine z_iconst C dL_law_307 ?_
    refine z_iadd C dL_law_308 ?_
    refine zd_ld C Z G q1 (x.toNat + 1) e1 (by omega) (by omega) dL_law_309 ?_
    refine lv_aload_n C.1 C.2.1 dL_law_310 rfl (lv_at hl 1 rfl) ?_
    refine lv_iload C.1 C.2.1 dL_law_311 (lv_at hl 5 rfl) ?_
    refine z_iconst C dL_law_313 ?_
    refine z_iadd C dL_law_314 ?_
    refine zd_ld C Z G q2 (x.toNat + 2) e2 (by omega) (by omega) dL_law_315 ?_
    refine zd_M (as := [.int (iZ (q1)), .int (iZ (q2))]) C Y G (c_X5_mono_bad1 l D cJ u v _ _ _ _ _ (q1) (q2) (by first | assumption | omega) (by first | assumption | omega) (by first | assumption | omega)) ml_L_179 rfl ⟨Nat.le_of_ble_eq_true rfl, Nat.le_of_ble_eq_true rfl⟩ ⟨by show cells + 1 + 0 ≤ 665281; omega, by show slots + 6 + 0 ≤ 7105636; omega⟩ hl (Nat.le_of_ble_eq_true rfl) rfl dL_law_316 (fun y9 H locs hy9 G => ?_)
    subst hy9
    refine lv_istore (lv' := [(6, _), (5, .int (iZ (1))), (0, .ref t), (1, .ref o), (2, .ref u), (3, .ref w), (4, .int (iZ (x)))]) C.1 C.2.1 dL_law_319 hl (by decide) rfl (fun ls hl => ?_)
    refine lv_goto (tgt := 2172) C.1 C.2.1 dL_law_321 (by decide) ?_
    exact kk _ _ _ _ _ _ _ _ _ _ _ _ G (by omega) (by omega) (lv_sub hl [2, 3, 4, 5, 6] rfl)
set_option maxHeartbeats 4000000 in
set_option maxRecDepth 100000 in
theorem lk_2 (hlq : l.stackTraces = false) (C : CallFix p m c0 cL_law 7 s args T0 RL) (Z : zLw D cB t N g s) (Y : zAd o a u v w s) {c : Nat → Nat} {ac re kn : Int32} {th : Int} {n : Int64} {sv : Value} {H : Heap} {locs : List Loc} {ls : Array Slot} {cells slots : Nat} (G : zG D cJ o a u v w c [.int ac, .int re, .int kn] c [.int (iZ th), .int ac, .int re, .int kn] n sv s H locs) (x : Int) (hx : 0 ≤ x ∧ x + 5 ≤ (N : Int)) (hf : cells + 150 ≤ 665281 ∧ slots + 75000 ≤ 7105636) (hl : lv_has ls 7 [(0, .ref t), (1, .ref o), (2, .ref u), (3, .ref w), (4, .int (iZ (x)))])
    (kk : zNx p l e s m args below meth c0 D cJ t o a u v w x cells slots Qw 2172) : W p l e room_1 s m args below meth c0 H locs cells slots Qw (F0 m 324 ls []) := by
  have hc := G.1.2.2.2
  obtain ⟨q1, e1⟩ : ∃ z, g (x.toNat + 1) = z := ⟨_, rfl⟩
  have r1 : -2147483648 ≤ q1 ∧ q1 ≤ 2147483647 := e1 ▸ Z.2.2.2.2.2.1 _
  obtain ⟨q2, e2⟩ : ∃ z, g (x.toNat + 2) = z := ⟨_, rfl⟩
  have r2 : -2147483648 ≤ q2 ∧ q2 ≤ 2147483647 := e2 ▸ Z.2.2.2.2.2.1 _
  obtain ⟨q3, e3⟩ : ∃ z, g (x.toNat + 3) = z := ⟨_, rfl⟩
  have r3 : -2147483648 ≤ q3 ∧ q3 ≤ 2147483647 := e3 ▸ Z.2.2.2.2.2.1 _
  by_cases hcel : (0 ≤ q1 ∧ q1 ≤ 5)
  · skip
    by_cases hrng : (0 ≤ q2 ∧ q2 ≤ 32)
    · skip
      refine lv_aload_n C.1 C.2.1 dL_law_324 rfl (lv_at hl 1 rfl) ?_
      refine lv_aload_n C.1 C.2.1 dL_law_325 rfl (lv_at hl 0 rfl) ?_
      refine lv_iload C.1 C.2.1 dL_law_326 (lv_at hl 4 rfl) ?_
      refine z_iconst C dL_law_328 ?_
      refine z_iadd C dL_law_329 ?_
      refine zd_ld C Z G q1 (x.toNat + 1) e1 (by omega) (by omega) dL_law_330 ?_
      refine lv_aload_n C.1 C.2.1 dL_law_331 rfl (lv_at hl 0 rfl) ?_
      refine lv_iload C.1 C.2.1 dL_law_332 (lv_at hl 4 rfl) ?_
      refine z_iconst C dL_law_334 ?_
      refine z_iadd C dL_law_335 ?_
      refine zd_ld C Z G q2 (x.toNat + 2) e2 (by omega) (by omega) dL_law_336 ?_
      refine lv_aload_n C.1 C.2.1 dL_law_337 rfl (lv_at hl 0 rfl) ?_
      refine lv_iload C.1 C.2.1 dL_law_338 (lv_at hl 4 rfl) ?_
      refine z_iconst C dL_law_340 ?_
      refine z_iadd C dL_law_341 ?_
      refine zd_ld C Z G q3 (x.toNat + 3) e3 (by omega) (by omega) dL_law_342 ?_
      refine zd_nz C (by omega) dL_law_343 dL_law_346 dL_law_347 dL_law_350 ?_
      refine lv_aload_n C.1 C.2.1 dL_law_351 rfl (lv_at hl 3 rfl) ?_
      refine zd_W (as := [.ref o, .int (iZ (q1)), .int (iZ (q2)), .int (iZ (zB (decide (q3 ≠ 0)))), .ref w]) C Z Y G (c_L_digit l D cJ o a _ _ _ _ (q1) (q2) (decide (q3 ≠ 0)) (by first | assumption | omega) (by first | assumption | omega) w _ _) ml_L_180 ⟨Nat.le_of_ble_eq_true rfl, Nat.le_of_ble_eq_true rfl⟩ ⟨by show cells + 0 + 0 ≤ 665281; omega, by show slots + 0 + 0 ≤ 7105636; omega⟩ hl (Nat.le_of_ble_eq_true rfl) rfl dL_law_352 (fun H locs G => ?_)
      refine lv_istore (lv' := [(5, .int (iZ (0))), (0, .ref t), (1, .ref o), (2, .ref u), (3, .ref w), (4, .int (iZ (x)))]) C.1 C.2.1 dL_law_355 hl (by decide) rfl (fun ls hl => ?_)
      refine lv_aload_n C.1 C.2.1 dL_law_357 rfl (lv_at hl 3 rfl) ?_
      refine lv_aload_n C.1 C.2.1 dL_law_358 rfl (lv_at hl 1 rfl) ?_
      refine lv_iload C.1 C.2.1 dL_law_359 (lv_at hl 5 rfl) ?_
      refine z_iconst C dL_law_361 ?_
      refine z_iadd C dL_law_362 ?_
      refine zd_ld C Z G q1 (x.toNat + 1) e1 (by omega) (by omega) dL_law_363 ?_
      refine lv_aload_n C.1 C.2.1 dL_law_364 rfl (lv_at hl 1 rfl) ?_
      refine lv_iload C.1 C.2.1 dL_law_365 (lv_at hl 5 rfl) ?_
      refine z_iconst C dL_law_367 ?_
      refine z_iadd C dL_law_368 ?_
      refine zd_ld C Z G q2 (x.toNat + 2) e2 (by omega) (by omega) dL_law_369 ?_
      refine lv_aload_n C.1 C.2.1 dL_law_370 rfl (lv_at hl 1 rfl) ?_
      refine lv_iload C.1 C.2.1 dL_law_371 (lv_at hl 5 rfl) ?_
      refine z_iconst C dL_law_373 ?_
      refine z_iadd C dL_law_374 ?_
      refine zd_ld C Z G q3 (x.toNat + 3) e3 (by omega) (by omega) dL_law_375 ?_
      refine zd_nz C (by omega) dL_law_376 dL_law_379 dL_law_380 dL_law_383 ?_
      refine zd_M (as := [.int (iZ (q1)), .int (iZ (q2)), .int (iZ (zB (decide (q3 ≠ 0))))]) C Y G (c_X5_digit l D cJ u v _ _ _ _ _ (q1) (q2) (decide (q3 ≠ 0)) (by first | assumption | omega) (by first | assumption | omega)) ml_L_183 rfl ⟨Nat.le_of_ble_eq_true rfl, Nat.le_of_ble_eq_true rfl⟩ ⟨by show cells + 0 + 0 ≤ 665281; omega, by show slots + 0 + 0 ≤ 7105636; omega⟩ hl (Nat.le_of_ble_eq_true rfl) rfl dL_law_384 (fun y9 H locs hy9 G => ?_)
      subst hy9
      refine lv_istore (lv' := [(6, _), (5, .int (iZ (0))), (0, .ref t), (1, .ref o), (2, .ref u), (3, .ref w), (4, .int (iZ (x)))]) C.1 C.2.1 dL_law_387 hl (by decide) rfl (fun ls hl => ?_)
      refine lv_goto (tgt := 2172) C.1 C.2.1 dL_law_389 (by decide) ?_
      rw [dg_eq (hc _) (by omega)] at G
      exact kk _ _ _ _ _ _ _ _ _ _ _ _ G (by omega) (by omega) (lv_sub hl [2, 3, 4, 5, 6] rfl)
    · skip
      refine lv_aload_n C.1 C.2.1 dL_law_324 rfl (lv_at hl 1 rfl) ?_
      refine lv_aload_n C.1 C.2.1 dL_law_325 rfl (lv_at hl 0 rfl) ?_
      refine lv_iload C.1 C.2.1 dL_law_326 (lv_at hl 4 rfl) ?_
      refine z_iconst C dL_law_328 ?_
      refine z_iadd C dL_law_329 ?_
      refine zd_ld C Z G q1 (x.toNat + 1) e1 (by omega) (by omega) dL_law_330 ?_
      refine lv_aload_n C.1 C.2.1 dL_law_331 rfl (lv_at hl 0 rfl) ?_
      refine lv_iload C.1 C.2.1 dL_law_332 (lv_at hl 4 rfl) ?_
      refine z_iconst C dL_law_334 ?_
      refine z_iadd C dL_law_335 ?_
      refine zd_ld C Z G q2 (x.toNat + 2) e2 (by omega) (by omega) dL_law_336 ?_
      refine lv_aload_n C.1 C.2.1 dL_law_337 rfl (lv_at hl 0 rfl) ?_
      refine lv_iload C.1 C.2.1 dL_law_338 (lv_at hl 4 rfl) ?_
      refine z_iconst C dL_law_340 ?_
      refine z_iadd C dL_law_341 ?_
      refine zd_ld C Z G q3 (x.toNat + 3) e3 (by omega) (by omega) dL_law_342 ?_
      refine zd_nz C (by omega) dL_law_343 dL_law_346 dL_law_347 dL_law_350 ?_
      refine lv_aload_n C.1 C.2.1 dL_law_351 rfl (lv_at hl 3 rfl) ?_
      refine zd_W (as := [.ref o, .int (iZ (q1)), .int (iZ (q2)), .int (iZ (zB (decide (q3 ≠ 0)))), .ref w]) C Z Y G (c_L_digit_badr l hlq D cJ o a _ _ _ _ (q1) (q2) (decide (q3 ≠ 0)) (by first | assumption | omega) (by first | assumption | omega) (by first | assumption | omega) (by first | assumption | omega) w _ _) ml_L_180 ⟨Nat.le_of_ble_eq_true rfl, Nat.le_of_ble_eq_true rfl⟩ ⟨by show cells + 0 + 1 ≤ 665281; omega, by show slots + 0 + 6 ≤ 7105636; omega⟩ hl (Nat.le_of_ble_eq_true rfl) rfl dL_law_352 (fun H locs G => ?_)
      refine lv_istore (lv' := [(5, .int (iZ (2))), (0, .ref t), (1, .ref o), (2, .ref u), (3, .ref w), (4, .int (iZ (x)))]) C.1 C.2.1 dL_law_355 hl (by decide) rfl (fun ls hl => ?_)
      refine lv_aload_n C.1 C.2.1 dL_law_357 rfl (lv_at hl 3 rfl) ?_
      refine lv_aload_n C.1 C.2.1 dL_law_358 rfl (lv_at hl 1 rfl) ?_
      refine lv_iload C.1 C.2.1 dL_law_359 (lv_at hl 5 rfl) ?_
      refine z_iconst C dL_law_361 ?_
      refine z_iadd C dL_law_362 ?_
      refine zd_ld C Z G q1 (x.toNat + 1) e1 (by omega) (by omega) dL_law_363 ?_
      refine lv_aload_n C.1 C.2.1 dL_law_364 rfl (lv_at hl 1 rfl) ?_
      refine lv_iload C.1 C.2.1 dL_law_365 (lv_at hl 5 rfl) ?_
      refine z_iconst C dL_law_367 ?_
      refine z_iadd C dL_law_368 ?_
      refine zd_ld C Z G q2 (x.toNat + 2) e2 (by omega) (by omega) dL_law_369 ?_
      refine lv_aload_n C.1 C.2.1 dL_law_370 rfl (lv_at hl 1 rfl) ?_
      refine lv_iload C.1 C.2.1 dL_law_371 (lv_at hl 5 rfl) ?_
      refine z_iconst C dL_law_373 ?_
      refine z_iadd C dL_law_374 ?_
      refine zd_ld C Z G q3 (x.toNat + 3) e3 (by omega) (by omega) dL_law_375 ?_
      refine zd_nz C (by omega) dL_law_376 dL_law_379 dL_law_380 dL_law_383 ?_
      refine zd_M (as := [.int (iZ (q1)), .int (iZ (q2)), .int (iZ (zB (decide (q3 ≠ 0))))]) C Y G (c_X5_digit_bad2 l D cJ u v _ _ _ _ _ (q1) (q2) (decide (q3 ≠ 0)) (by first | assumption | omega) (by first | assumption | omega) (by first | assumption | omega) (by first | assumption | omega)) ml_L_183 rfl ⟨Nat.le_of_ble_eq_true rfl, Nat.le_of_ble_eq_true rfl⟩ ⟨by show cells + 1 + 0 ≤ 665281; omega, by show slots + 6 + 0 ≤ 7105636; omega⟩ hl (Nat.le_of_ble_eq_true rfl) rfl dL_law_384 (fun y9 H locs hy9 G => ?_)
      subst hy9
      refine lv_istore (lv' := [(6, _), (5, .int (iZ (2))), (0, .ref t), (1, .ref o), (2, .ref u), (3, .ref w), (4, .int (iZ (x)))]) C.1 C.2.1 dL_law_387 hl (by decide) rfl (fun ls hl => ?_)
      refine lv_goto (tgt := 2172) C.1 C.2.1 dL_law_389 (by decide) ?_
      exact kk _ _ _ _ _ _ _ _ _ _ _ _ G (by omega) (by omega) (lv_sub hl [2, 3, 4, 5, 6] rfl)
  · skip
    refine lv_aload_n C.1 C.2.1 dL_law_324 rfl (lv_at hl 1 rfl) ?_
    refine lv_aload_n C.1 C.2.1 dL_law_325 rfl (lv_at hl 0 rfl) ?_
    refine lv_iload C.1 C.2.1 dL_law_326 (lv_at hl 4 rfl) ?_
    refine z_iconst C dL_law_328 ?_
    refine z_iadd C dL_law_329 ?_
    refine zd_ld C Z G q1 (x.toNat + 1) e1 (by omega) (by omega) dL_law_330 ?_
    refine lv_aload_n C.1 C.2.1 dL_law_331 rfl (lv_at hl 0 rfl) ?_
    refine lv_iload C.1 C.2.1 dL_law_332 (lv_at hl 4 rfl) ?_
    refine z_iconst C dL_law_334 ?_
    refine z_iadd C dL_law_335 ?_
    refine zd_ld C Z G q2 (x.toNat + 2) e2 (by omega) (by omega) dL_law_336 ?_
    refine lv_aload_n C.1 C.2.1 dL_law_337 rfl (lv_at hl 0 rfl) ?_
    refine lv_iload C.1 C.2.1 dL_law_338 (lv_at hl 4 rfl) ?_
    refine z_iconst C dL_law_340 ?_
    refine z_iadd C dL_law_341 ?_
    refine zd_ld C Z G q3 (x.toNat + 3) e3 (by omega) (by omega) dL_law_342 ?_
    refine zd_nz C (by omega) dL_law_343 dL_law_346 dL_law_347 dL_law_350 ?_
    refine lv_aload_n C.1 C.2.1 dL_law_351 rfl (lv_at hl 3 rfl) ?_
    refine zd_W (as := [.ref o, .int (iZ (q1)), .int (iZ (q2)), .int (iZ (zB (decide (q3 ≠ 0)))), .ref w]) C Z Y G (c_L_digit_badc l hlq D cJ o a _ _ _ _ (q1) (q2) (decide (q3 ≠ 0)) (by first | assumption | omega) (by first | assumption | omega) (by first | assumption | omega) w _ _) ml_L_180 ⟨Nat.le_of_ble_eq_true rfl, Nat.le_of_ble_eq_true rfl⟩ ⟨by show cells + 0 + 1 ≤ 665281; omega, by show slots + 0 + 6 ≤ 7105636; omega⟩ hl (Nat.le_of_ble_eq_true rfl) rfl dL_law_352 (fun H locs G => ?_)
    refine lv_istore (lv' := [(5, .int (iZ (1))), (0, .ref t), (1, .ref o), (2, .ref u), (3, .ref w), (4, .int (iZ (x)))]) C.1 C.2.1 dL_law_355 hl (by decide) rfl (fun ls hl => ?_)
    refine lv_aload_n C.1 C.2.1 dL_law_357 rfl (lv_at hl 3 rfl) ?_
    refine lv_aload_n C.1 C.2.1 dL_law_358 rfl (lv_at hl 1 rfl) ?_
    refine lv_iload C.1 C.2.1 dL_law_359 (lv_at hl 5 rfl) ?_
    refine z_iconst C dL_law_361 ?_
    refine z_iadd C dL_law_362 ?_
    refine zd_ld C Z G q1 (x.toNat + 1) e1 (by omega) (by omega) dL_law_363 ?_
    refine lv_aload_n C.1 C.2.1 dL_law_364 rfl (lv_at hl 1 rfl) ?_
    refine lv_iload C.1 C.2.1 dL_law_365 (lv_at hl 5 rfl) ?_
    refine z_iconst C dL_law_367 ?_
    refine z_iadd C dL_law_368 ?_
    refine zd_ld C Z G q2 (x.toNat + 2) e2 (by omega) (by omega) dL_law_369 ?_
    refine lv_aload_n C.1 C.2.1 dL_law_370 rfl (lv_at hl 1 rfl) ?_
    refine lv_iload C.1 C.2.1 dL_law_371 (lv_at hl 5 rfl) ?_
    refine z_iconst C dL_law_373 ?_
    refine z_iadd C dL_law_374 ?_
    refine zd_ld C Z G q3 (x.toNat + 3) e3 (by omega) (by omega) dL_law_375 ?_
    refine zd_nz C (by omega) dL_law_376 dL_law_379 dL_law_380 dL_law_383 ?_
    refine zd_M (as := [.int (iZ (q1)), .int (iZ (q2)), .int (iZ (zB (decide (q3 ≠ 0))))]) C Y G (c_X5_digit_bad1 l D cJ u v _ _ _ _ _ (q1) (q2) (decide (q3 ≠ 0)) (by first | assumption | omega) (by first | assumption | omega) (by first | assumption | omega)) ml_L_183 rfl ⟨Nat.le_of_ble_eq_true rfl, Nat.le_of_ble_eq_true rfl⟩ ⟨by show cells + 1 + 0 ≤ 665281; omega, by show slots + 6 + 0 ≤ 7105636; omega⟩ hl (Nat.le_of_ble_eq_true rfl) rfl dL_law_384 (fun y9 H locs hy9 G => ?_)
    subst hy9
    refine lv_istore (lv' := [(6, _), (5, .int (iZ (1))), (0, .ref t), (1, .ref o), (2, .ref u), (3, .ref w), (4, .int (iZ (x)))]) C.1 C.2.1 dL_law_387 hl (by decide) rfl (fun ls hl => ?_)
    refine lv_goto (tgt := 2172) C.1 C.2.1 dL_law_389 (by decide) ?_
    exact kk _ _ _ _ _ _ _ _ _ _ _ _ G (by omega) (by omega) (lv_sub hl [2, 3, 4, 5, 6] rfl)
set_option maxHeartbeats 4000000 in
set_option maxRecDepth 100000 in
theorem lk_3 (hlq : l.stackTraces = false) (C : CallFix p m c0 cL_law 7 s args T0 RL) (Z : zLw D cB t N g s) (Y : zAd o a u v w s) {c : Nat → Nat} {ac re kn : Int32} {th : Int} {n : Int64} {sv : Value} {H : Heap} {locs : List Loc} {ls : Array Slot} {cells slots : Nat} (G : zG D cJ o a u v w c [.int ac, .int re, .int kn] c [.int (iZ th), .int ac, .int re, .int kn] n sv s H locs) (x : Int) (hx : 0 ≤ x ∧ x + 5 ≤ (N : Int)) (hf : cells + 150 ≤ 665281 ∧ slots + 75000 ≤ 7105636) (hl : lv_has ls 7 [(0, .ref t), (1, .ref o), (2, .ref u), (3, .ref w), (4, .int (iZ (x)))])
    (kk : zNx p l e s m args below meth c0 D cJ t o a u v w x cells slots Qw 2172) : W p l e room_1 s m args below meth c0 H locs cells slots Qw (F0 m 392 ls []) := by
  have hc := G.1.2.2.2
  obtain ⟨q1, e1⟩ : ∃ z, g (x.toNat + 1) = z := ⟨_, rfl⟩
  have r1 : -2147483648 ≤ q1 ∧ q1 ≤ 2147483647 := e1 ▸ Z.2.2.2.2.2.1 _
  obtain ⟨q2, e2⟩ : ∃ z, g (x.toNat + 2) = z := ⟨_, rfl⟩
  have r2 : -2147483648 ≤ q2 ∧ q2 ≤ 2147483647 := e2 ▸ Z.2.2.2.2.2.1 _
  by_cases hcel : (0 ≤ q1 ∧ q1 ≤ 5)
  · skip
    by_cases hrng : (0 ≤ q2 ∧ q2 ≤ 32)
    · skip
      refine lv_aload_n C.1 C.2.1 dL_law_392 rfl (lv_at hl 1 rfl) ?_
      refine lv_aload_n C.1 C.2.1 dL_law_393 rfl (lv_at hl 0 rfl) ?_
      refine lv_iload C.1 C.2.1 dL_law_394 (lv_at hl 4 rfl) ?_
      refine z_iconst C dL_law_396 ?_
      refine z_iadd C dL_law_397 ?_
      refine zd_ld C Z G q1 (x.toNat + 1) e1 (by omega) (by omega) dL_law_398 ?_
      refine lv_aload_n C.1 C.2.1 dL_law_399 rfl (lv_at hl 0 rfl) ?_
      refine lv_iload C.1 C.2.1 dL_law_400 (lv_at hl 4 rfl) ?_
      refine z_iconst C dL_law_402 ?_
      refine z_iadd C dL_law_403 ?_
      refine zd_ld C Z G q2 (x.toNat + 2) e2 (by omega) (by omega) dL_law_404 ?_
      refine lv_aload_n C.1 C.2.1 dL_law_405 rfl (lv_at hl 3 rfl) ?_
      refine zd_W (as := [.ref o, .int (iZ (q1)), .int (iZ (q2)), .ref w]) C Z Y G (c_L_flip l D cJ o a _ _ _ _ (q1) (q2) (by first | assumption | omega) (by first | assumption | omega) w _ _) ml_L_184 ⟨Nat.le_of_ble_eq_true rfl, Nat.le_of_ble_eq_true rfl⟩ ⟨by show cells + 0 + 0 ≤ 665281; omega, by show slots + 0 + 0 ≤ 7105636; omega⟩ hl (Nat.le_of_ble_eq_true rfl) rfl dL_law_406 (fun H locs G => ?_)
      refine lv_istore (lv' := [(5, .int (iZ (0))), (0, .ref t), (1, .ref o), (2, .ref u), (3, .ref w), (4, .int (iZ (x)))]) C.1 C.2.1 dL_law_409 hl (by decide) rfl (fun ls hl => ?_)
      refine lv_aload_n C.1 C.2.1 dL_law_411 rfl (lv_at hl 3 rfl) ?_
      refine lv_aload_n C.1 C.2.1 dL_law_412 rfl (lv_at hl 1 rfl) ?_
      refine lv_iload C.1 C.2.1 dL_law_413 (lv_at hl 5 rfl) ?_
      refine z_iconst C dL_law_415 ?_
      refine z_iadd C dL_law_416 ?_
      refine zd_ld C Z G q1 (x.toNat + 1) e1 (by omega) (by omega) dL_law_417 ?_
      refine lv_aload_n C.1 C.2.1 dL_law_418 rfl (lv_at hl 1 rfl) ?_
      refine lv_iload C.1 C.2.1 dL_law_419 (lv_at hl 5 rfl) ?_
      refine z_iconst C dL_law_421 ?_
      refine z_iadd C dL_law_422 ?_
      refine zd_ld C Z G q2 (x.toNat + 2) e2 (by omega) (by omega) dL_law_423 ?_
      refine zd_M (as := [.int (iZ (q1)), .int (iZ (q2))]) C Y G (c_X5_flip l D cJ u v _ _ _ _ _ (q1) (q2) (by first | assumption | omega) (by first | assumption | omega)) ml_L_186 rfl ⟨Nat.le_of_ble_eq_true rfl, Nat.le_of_ble_eq_true rfl⟩ ⟨by show cells + 0 + 0 ≤ 665281; omega, by show slots + 0 + 0 ≤ 7105636; omega⟩ hl (Nat.le_of_ble_eq_true rfl) rfl dL_law_424 (fun y9 H locs hy9 G => ?_)
      subst hy9
      refine lv_istore (lv' := [(6, _), (5, .int (iZ (0))), (0, .ref t), (1, .ref o), (2, .ref u), (3, .ref w), (4, .int (iZ (x)))]) C.1 C.2.1 dL_law_427 hl (by decide) rfl (fun ls hl => ?_)
      refine lv_goto (tgt := 2172) C.1 C.2.1 dL_law_429 (by decide) ?_
      exact kk _ _ _ _ _ _ _ _ _ _ _ _ G (by omega) (by omega) (lv_sub hl [2, 3, 4, 5, 6] rfl)
    · skip
      refine lv_aload_n C.1 C.2.1 dL_law_392 rfl (lv_at hl 1 rfl) ?_
      refine lv_aload_n C.1 C.2.1 dL_law_393 rfl (lv_at hl 0 rfl) ?_
      refine lv_iload C.1 C.2.1 dL_law_394 (lv_at hl 4 rfl) ?_
      refine z_iconst C dL_law_396 ?_
      refine z_iadd C dL_law_397 ?_
      refine zd_ld C Z G q1 (x.toNat + 1) e1 (by omega) (by omega) dL_law_398 ?_
      refine lv_aload_n C.1 C.2.1 dL_law_399 rfl (lv_at hl 0 rfl) ?_
      refine lv_iload C.1 C.2.1 dL_law_400 (lv_at hl 4 rfl) ?_
      refine z_iconst C dL_law_402 ?_
      refine z_iadd C dL_law_403 ?_
      refine zd_ld C Z G q2 (x.toNat + 2) e2 (by omega) (by omega) dL_law_404 ?_
      refine lv_aload_n C.1 C.2.1 dL_law_405 rfl (lv_at hl 3 rfl) ?_
      refine zd_W (as := [.ref o, .int (iZ (q1)), .int (iZ (q2)), .ref w]) C Z Y G (c_L_flip_badr l hlq D cJ o a _ _ _ _ (q1) (q2) (by first | assumption | omega) (by first | assumption | omega) (by first | assumption | omega) (by first | assumption | omega) w _ _) ml_L_184 ⟨Nat.le_of_ble_eq_true rfl, Nat.le_of_ble_eq_true rfl⟩ ⟨by show cells + 0 + 1 ≤ 665281; omega, by show slots + 0 + 6 ≤ 7105636; omega⟩ hl (Nat.le_of_ble_eq_true rfl) rfl dL_law_406 (fun H locs G => ?_)
      refine lv_istore (lv' := [(5, .int (iZ (2))), (0, .ref t), (1, .ref o), (2, .ref u), (3, .ref w), (4, .int (iZ (x)))]) C.1 C.2.1 dL_law_409 hl (by decide) rfl (fun ls hl => ?_)
      refine lv_aload_n C.1 C.2.1 dL_law_411 rfl (lv_at hl 3 rfl) ?_
      refine lv_aload_n C.1 C.2.1 dL_law_412 rfl (lv_at hl 1 rfl) ?_
      refine lv_iload C.1 C.2.1 dL_law_413 (lv_at hl 5 rfl) ?_
      refine z_iconst C dL_law_415 ?_
      refine z_iadd C dL_law_416 ?_
      refine zd_ld C Z G q1 (x.toNat + 1) e1 (by omega) (by omega) dL_law_417 ?_
      refine lv_aload_n C.1 C.2.1 dL_law_418 rfl (lv_at hl 1 rfl) ?_
      refine lv_iload C.1 C.2.1 dL_law_419 (lv_at hl 5 rfl) ?_
      refine z_iconst C dL_law_421 ?_
      refine z_iadd C dL_law_422 ?_
      refine zd_ld C Z G q2 (x.toNat + 2) e2 (by omega) (by omega) dL_law_423 ?_
      refine zd_M (as := [.int (iZ (q1)), .int (iZ (q2))]) C Y G (c_X5_flip_bad2 l D cJ u v _ _ _ _ _ (q1) (q2) (by first | assumption | omega) (by first | assumption | omega) (by first | assumption | omega) (by first | assumption | omega)) ml_L_186 rfl ⟨Nat.le_of_ble_eq_true rfl, Nat.le_of_ble_eq_true rfl⟩ ⟨by show cells + 1 + 0 ≤ 665281; omega, by show slots + 6 + 0 ≤ 7105636; omega⟩ hl (Nat.le_of_ble_eq_true rfl) rfl dL_law_424 (fun y9 H locs hy9 G => ?_)
      subst hy9
      refine lv_istore (lv' := [(6, _), (5, .int (iZ (2))), (0, .ref t), (1, .ref o), (2, .ref u), (3, .ref w), (4, .int (iZ (x)))]) C.1 C.2.1 dL_law_427 hl (by decide) rfl (fun ls hl => ?_)
      refine lv_goto (tgt := 2172) C.1 C.2.1 dL_law_429 (by decide) ?_
      exact kk _ _ _ _ _ _ _ _ _ _ _ _ G (by omega) (by omega) (lv_sub hl [2, 3, 4, 5, 6] rfl)
  · skip
    refine lv_aload_n C.1 C.2.1 dL_law_392 rfl (lv_at hl 1 rfl) ?_
    refine lv_aload_n C.1 C.2.1 dL_law_393 rfl (lv_at hl 0 rfl) ?_
    refine lv_iload C.1 C.2.1 dL_law_394 (lv_at hl 4 rfl) ?_
    refine z_iconst C dL_law_396 ?_
    refine z_iadd C dL_law_397 ?_
    refine zd_ld C Z G q1 (x.toNat + 1) e1 (by omega) (by omega) dL_law_398 ?_
    refine lv_aload_n C.1 C.2.1 dL_law_399 rfl (lv_at hl 0 rfl) ?_
    refine lv_iload C.1 C.2.1 dL_law_400 (lv_at hl 4 rfl) ?_
    refine z_iconst C dL_law_402 ?_
    refine z_iadd C dL_law_403 ?_
    refine zd_ld C Z G q2 (x.toNat + 2) e2 (by omega) (by omega) dL_law_404 ?_
    refine lv_aload_n C.1 C.2.1 dL_law_405 rfl (lv_at hl 3 rfl) ?_
    refine zd_W (as := [.ref o, .int (iZ (q1)), .int (iZ (q2)), .ref w]) C Z Y G (c_L_flip_badc l hlq D cJ o a _ _ _ _ (q1) (q2) (by first | assumption | omega) (by first | assumption | omega) (by first | assumption | omega) w _ _) ml_L_184 ⟨Nat.le_of_ble_eq_true rfl, Nat.le_of_ble_eq_true rfl⟩ ⟨by show cells + 0 + 1 ≤ 665281; omega, by show slots + 0 + 6 ≤ 7105636; omega⟩ hl (Nat.le_of_ble_eq_true rfl) rfl dL_law_406 (fun H locs G => ?_)
    refine lv_istore (lv' := [(5, .int (iZ (1))), (0, .ref t), (1, .ref o), (2, .ref u), (3, .ref w), (4, .int (iZ (x)))]) C.1 C.2.1 dL_law_409 hl (by decide) rfl (fun ls hl => ?_)
    refine lv_aload_n C.1 C.2.1 dL_law_411 rfl (lv_at hl 3 rfl) ?_
    refine lv_aload_n C.1 C.2.1 dL_law_412 rfl (lv_at hl 1 rfl) ?_
    refine lv_iload C.1 C.2.1 dL_law_413 (lv_at hl 5 rfl) ?_
    refine z_iconst C dL_law_415 ?_
    refine z_iadd C dL_law_416 ?_
    refine zd_ld C Z G q1 (x.toNat + 1) e1 (by omega) (by omega) dL_law_417 ?_
    refine lv_aload_n C.1 C.2.1 dL_law_418 rfl (lv_at hl 1 rfl) ?_
    refine lv_iload C.1 C.2.1 dL_law_419 (lv_at hl 5 rfl) ?_
    refine z_iconst C dL_law_421 ?_
    refine z_iadd C dL_law_422 ?_
    refine zd_ld C Z G q2 (x.toNat + 2) e2 (by omega) (by omega) dL_law_423 ?_
    refine zd_M (as := [.int (iZ (q1)), .int (iZ (q2))]) C Y G (c_X5_flip_bad1 l D cJ u v _ _ _ _ _ (q1) (q2) (by first | assumption | omega) (by first | assumption | omega) (by first | assumption | omega)) ml_L_186 rfl ⟨Nat.le_of_ble_eq_true rfl, Nat.le_of_ble_eq_true rfl⟩ ⟨by show cells + 1 + 0 ≤ 665281; omega, by show slots + 6 + 0 ≤ 7105636; omega⟩ hl (Nat.le_of_ble_eq_true rfl) rfl dL_law_424 (fun y9 H locs hy9 G => ?_)
    subst hy9
    refine lv_istore (lv' := [(6, _), (5, .int (iZ (1))), (0, .ref t), (1, .ref o), (2, .ref u), (3, .ref w), (4, .int (iZ (x)))]) C.1 C.2.1 dL_law_427 hl (by decide) rfl (fun ls hl => ?_)
    refine lv_goto (tgt := 2172) C.1 C.2.1 dL_law_429 (by decide) ?_
    exact kk _ _ _ _ _ _ _ _ _ _ _ _ G (by omega) (by omega) (lv_sub hl [2, 3, 4, 5, 6] rfl)
set_option maxHeartbeats 4000000 in
set_option maxRecDepth 100000 in
theorem lk_4 (hlq : l.stackTraces = false) (C : CallFix p m c0 cL_law 7 s args T0 RL) (Z : zLw D cB t N g s) (Y : zAd o a u v w s) {c : Nat → Nat} {ac re kn : Int32} {th : Int} {n : Int64} {sv : Value} {H : Heap} {locs : List Loc} {ls : Array Slot} {cells slots : Nat} (G : zG D cJ o a u v w c [.int ac, .int re, .int kn] c [.int (iZ th), .int ac, .int re, .int kn] n sv s H locs) (x : Int) (hx : 0 ≤ x ∧ x + 5 ≤ (N : Int)) (hf : cells + 150 ≤ 665281 ∧ slots + 75000 ≤ 7105636) (hl : lv_has ls 7 [(0, .ref t), (1, .ref o), (2, .ref u), (3, .ref w), (4, .int (iZ (x)))])
    (kk : zNx p l e s m args below meth c0 D cJ t o a u v w x cells slots Qw 2172) : W p l e room_1 s m args below meth c0 H locs cells slots Qw (F0 m 432 ls []) := by
  have hc := G.1.2.2.2
  obtain ⟨q1, e1⟩ : ∃ z, g (x.toNat + 1) = z := ⟨_, rfl⟩
  have r1 : -2147483648 ≤ q1 ∧ q1 ≤ 2147483647 := e1 ▸ Z.2.2.2.2.2.1 _
  obtain ⟨q2, e2⟩ : ∃ z, g (x.toNat + 2) = z := ⟨_, rfl⟩
  have r2 : -2147483648 ≤ q2 ∧ q2 ≤ 2147483647 := e2 ▸ Z.2.2.2.2.2.1 _
  by_cases hcel : (0 ≤ q1 ∧ q1 ≤ 5) ∧ (0 ≤ q2 ∧ q2 ≤ 5)
  · skip
    refine lv_aload_n C.1 C.2.1 dL_law_432 rfl (lv_at hl 1 rfl) ?_
    refine lv_aload_n C.1 C.2.1 dL_law_433 rfl (lv_at hl 0 rfl) ?_
    refine lv_iload C.1 C.2.1 dL_law_434 (lv_at hl 4 rfl) ?_
    refine z_iconst C dL_law_436 ?_
    refine z_iadd C dL_law_437 ?_
    refine zd_ld C Z G q1 (x.toNat + 1) e1 (by omega) (by omega) dL_law_438 ?_
    refine lv_aload_n C.1 C.2.1 dL_law_439 rfl (lv_at hl 0 rfl) ?_
    refine lv_iload C.1 C.2.1 dL_law_440 (lv_at hl 4 rfl) ?_
    refine z_iconst C dL_law_442 ?_
    refine z_iadd C dL_law_443 ?_
    refine zd_ld C Z G q2 (x.toNat + 2) e2 (by omega) (by omega) dL_law_444 ?_
    refine lv_aload_n C.1 C.2.1 dL_law_445 rfl (lv_at hl 3 rfl) ?_
    refine zd_W (as := [.ref o, .int (iZ (q1)), .int (iZ (q2)), .ref w]) C Z Y G (c_L_copy l D cJ o a _ _ _ _ (q1) (q2) (by first | assumption | omega) (by first | assumption | omega) w _ _) ml_L_187 ⟨Nat.le_of_ble_eq_true rfl, Nat.le_of_ble_eq_true rfl⟩ ⟨by show cells + 0 + 0 ≤ 665281; omega, by show slots + 0 + 0 ≤ 7105636; omega⟩ hl (Nat.le_of_ble_eq_true rfl) rfl dL_law_446 (fun H locs G => ?_)
    refine lv_istore (lv' := [(5, .int (iZ (0))), (0, .ref t), (1, .ref o), (2, .ref u), (3, .ref w), (4, .int (iZ (x)))]) C.1 C.2.1 dL_law_449 hl (by decide) rfl (fun ls hl => ?_)
    refine lv_aload_n C.1 C.2.1 dL_law_451 rfl (lv_at hl 3 rfl) ?_
    refine lv_aload_n C.1 C.2.1 dL_law_452 rfl (lv_at hl 1 rfl) ?_
    refine lv_iload C.1 C.2.1 dL_law_453 (lv_at hl 5 rfl) ?_
    refine z_iconst C dL_law_455 ?_
    refine z_iadd C dL_law_456 ?_
    refine zd_ld C Z G q1 (x.toNat + 1) e1 (by omega) (by omega) dL_law_457 ?_
    refine lv_aload_n C.1 C.2.1 dL_law_458 rfl (lv_at hl 1 rfl) ?_
    refine lv_iload C.1 C.2.1 dL_law_459 (lv_at hl 5 rfl) ?_
    refine z_iconst C dL_law_461 ?_
    refine z_iadd C dL_law_462 ?_
    refine zd_ld C Z G q2 (x.toNat + 2) e2 (by omega) (by omega) dL_law_463 ?_
    refine zd_M (as := [.int (iZ (q1)), .int (iZ (q2))]) C Y G (c_X5_copy l D cJ u v _ _ _ _ _ (q1) (q2) (by first | assumption | omega) (by first | assumption | omega)) ml_L_189 rfl ⟨Nat.le_of_ble_eq_true rfl, Nat.le_of_ble_eq_true rfl⟩ ⟨by show cells + 0 + 0 ≤ 665281; omega, by show slots + 0 + 0 ≤ 7105636; omega⟩ hl (Nat.le_of_ble_eq_true rfl) rfl dL_law_464 (fun y9 H locs hy9 G => ?_)
    subst hy9
    refine lv_istore (lv' := [(6, _), (5, .int (iZ (0))), (0, .ref t), (1, .ref o), (2, .ref u), (3, .ref w), (4, .int (iZ (x)))]) C.1 C.2.1 dL_law_467 hl (by decide) rfl (fun ls hl => ?_)
    refine lv_goto (tgt := 2172) C.1 C.2.1 dL_law_469 (by decide) ?_
    exact kk _ _ _ _ _ _ _ _ _ _ _ _ G (by omega) (by omega) (lv_sub hl [2, 3, 4, 5, 6] rfl)
  · skip
    refine lv_aload_n C.1 C.2.1 dL_law_432 rfl (lv_at hl 1 rfl) ?_
    refine lv_aload_n C.1 C.2.1 dL_law_433 rfl (lv_at hl 0 rfl) ?_
    refine lv_iload C.1 C.2.1 dL_law_434 (lv_at hl 4 rfl) ?_
    refine z_iconst C dL_law_436 ?_
    refine z_iadd C dL_law_437 ?_
    refine zd_ld C Z G q1 (x.toNat + 1) e1 (by omega) (by omega) dL_law_438 ?_
    refine lv_aload_n C.1 C.2.1 dL_law_439 rfl (lv_at hl 0 rfl) ?_
    refine lv_iload C.1 C.2.1 dL_law_440 (lv_at hl 4 rfl) ?_
    refine z_iconst C dL_law_442 ?_
    refine z_iadd C dL_law_443 ?_
    refine zd_ld C Z G q2 (x.toNat + 2) e2 (by omega) (by omega) dL_law_444 ?_
    refine lv_aload_n C.1 C.2.1 dL_law_445 rfl (lv_at hl 3 rfl) ?_
    refine zd_W (as := [.ref o, .int (iZ (q1)), .int (iZ (q2)), .ref w]) C Z Y G (c_L_copy_badc l hlq D cJ o a _ _ _ _ (q1) (q2) (by first | assumption | omega) (by first | assumption | omega) (by first | assumption | omega) w _ _) ml_L_187 ⟨Nat.le_of_ble_eq_true rfl, Nat.le_of_ble_eq_true rfl⟩ ⟨by show cells + 0 + 1 ≤ 665281; omega, by show slots + 0 + 6 ≤ 7105636; omega⟩ hl (Nat.le_of_ble_eq_true rfl) rfl dL_law_446 (fun H locs G => ?_)
    refine lv_istore (lv' := [(5, .int (iZ (1))), (0, .ref t), (1, .ref o), (2, .ref u), (3, .ref w), (4, .int (iZ (x)))]) C.1 C.2.1 dL_law_449 hl (by decide) rfl (fun ls hl => ?_)
    refine lv_aload_n C.1 C.2.1 dL_law_451 rfl (lv_at hl 3 rfl) ?_
    refine lv_aload_n C.1 C.2.1 dL_law_452 rfl (lv_at hl 1 rfl) ?_
    refine lv_iload C.1 C.2.1 dL_law_453 (lv_at hl 5 rfl) ?_
    refine z_iconst C dL_law_455 ?_
    refine z_iadd C dL_law_456 ?_
    refine zd_ld C Z G q1 (x.toNat + 1) e1 (by omega) (by omega) dL_law_457 ?_
    refine lv_aload_n C.1 C.2.1 dL_law_458 rfl (lv_at hl 1 rfl) ?_
    refine lv_iload C.1 C.2.1 dL_law_459 (lv_at hl 5 rfl) ?_
    refine z_iconst C dL_law_461 ?_
    refine z_iadd C dL_law_462 ?_
    refine zd_ld C Z G q2 (x.toNat + 2) e2 (by omega) (by omega) dL_law_463 ?_
    refine zd_M (as := [.int (iZ (q1)), .int (iZ (q2))]) C Y G (c_X5_copy_bad1 l D cJ u v _ _ _ _ _ (q1) (q2) (by first | assumption | omega) (by first | assumption | omega) (by first | assumption | omega)) ml_L_189 rfl ⟨Nat.le_of_ble_eq_true rfl, Nat.le_of_ble_eq_true rfl⟩ ⟨by show cells + 1 + 0 ≤ 665281; omega, by show slots + 6 + 0 ≤ 7105636; omega⟩ hl (Nat.le_of_ble_eq_true rfl) rfl dL_law_464 (fun y9 H locs hy9 G => ?_)
    subst hy9
    refine lv_istore (lv' := [(6, _), (5, .int (iZ (1))), (0, .ref t), (1, .ref o), (2, .ref u), (3, .ref w), (4, .int (iZ (x)))]) C.1 C.2.1 dL_law_467 hl (by decide) rfl (fun ls hl => ?_)
    refine lv_goto (tgt := 2172) C.1 C.2.1 dL_law_469 (by decide) ?_
    exact kk _ _ _ _ _ _ _ _ _ _ _ _ G (by omega) (by omega) (lv_sub hl [2, 3, 4, 5, 6] rfl)
set_option maxHeartbeats 4000000 in
set_option maxRecDepth 100000 in
theorem lk_5 (hlq : l.stackTraces = false) (C : CallFix p m c0 cL_law 7 s args T0 RL) (Z : zLw D cB t N g s) (Y : zAd o a u v w s) {c : Nat → Nat} {ac re kn : Int32} {th : Int} {n : Int64} {sv : Value} {H : Heap} {locs : List Loc} {ls : Array Slot} {cells slots : Nat} (G : zG D cJ o a u v w c [.int ac, .int re, .int kn] c [.int (iZ th), .int ac, .int re, .int kn] n sv s H locs) (x : Int) (hx : 0 ≤ x ∧ x + 5 ≤ (N : Int)) (hf : cells + 150 ≤ 665281 ∧ slots + 75000 ≤ 7105636) (hl : lv_has ls 7 [(0, .ref t), (1, .ref o), (2, .ref u), (3, .ref w), (4, .int (iZ (x)))])
    (kk : zNx p l e s m args below meth c0 D cJ t o a u v w x cells slots Qw 2172) : W p l e room_1 s m args below meth c0 H locs cells slots Qw (F0 m 472 ls []) := by
  have hc := G.1.2.2.2
  obtain ⟨q1, e1⟩ : ∃ z, g (x.toNat + 1) = z := ⟨_, rfl⟩
  have r1 : -2147483648 ≤ q1 ∧ q1 ≤ 2147483647 := e1 ▸ Z.2.2.2.2.2.1 _
  obtain ⟨q2, e2⟩ : ∃ z, g (x.toNat + 2) = z := ⟨_, rfl⟩
  have r2 : -2147483648 ≤ q2 ∧ q2 ≤ 2147483647 := e2 ▸ Z.2.2.2.2.2.1 _
  by_cases hcel : (0 ≤ q1 ∧ q1 ≤ 5) ∧ (0 ≤ q2 ∧ q2 ≤ 5)
  · skip
    refine lv_aload_n C.1 C.2.1 dL_law_472 rfl (lv_at hl 1 rfl) ?_
    refine lv_aload_n C.1 C.2.1 dL_law_473 rfl (lv_at hl 0 rfl) ?_
    refine lv_iload C.1 C.2.1 dL_law_474 (lv_at hl 4 rfl) ?_
    refine z_iconst C dL_law_476 ?_
    refine z_iadd C dL_law_477 ?_
    refine zd_ld C Z G q1 (x.toNat + 1) e1 (by omega) (by omega) dL_law_478 ?_
    refine lv_aload_n C.1 C.2.1 dL_law_479 rfl (lv_at hl 0 rfl) ?_
    refine lv_iload C.1 C.2.1 dL_law_480 (lv_at hl 4 rfl) ?_
    refine z_iconst C dL_law_482 ?_
    refine z_iadd C dL_law_483 ?_
    refine zd_ld C Z G q2 (x.toNat + 2) e2 (by omega) (by omega) dL_law_484 ?_
    refine lv_aload_n C.1 C.2.1 dL_law_485 rfl (lv_at hl 3 rfl) ?_
    refine zd_W (as := [.ref o, .int (iZ (q1)), .int (iZ (q2)), .ref w]) C Z Y G (c_L_swap l D cJ o a _ _ _ _ (q1) (q2) (by first | assumption | omega) (by first | assumption | omega) w _ _) ml_L_190 ⟨Nat.le_of_ble_eq_true rfl, Nat.le_of_ble_eq_true rfl⟩ ⟨by show cells + 0 + 0 ≤ 665281; omega, by show slots + 0 + 0 ≤ 7105636; omega⟩ hl (Nat.le_of_ble_eq_true rfl) rfl dL_law_486 (fun H locs G => ?_)
    refine lv_istore (lv' := [(5, .int (iZ (0))), (0, .ref t), (1, .ref o), (2, .ref u), (3, .ref w), (4, .int (iZ (x)))]) C.1 C.2.1 dL_law_489 hl (by decide) rfl (fun ls hl => ?_)
    refine lv_aload_n C.1 C.2.1 dL_law_491 rfl (lv_at hl 3 rfl) ?_
    refine lv_aload_n C.1 C.2.1 dL_law_492 rfl (lv_at hl 1 rfl) ?_
    refine lv_iload C.1 C.2.1 dL_law_493 (lv_at hl 5 rfl) ?_
    refine z_iconst C dL_law_495 ?_
    refine z_iadd C dL_law_496 ?_
    refine zd_ld C Z G q1 (x.toNat + 1) e1 (by omega) (by omega) dL_law_497 ?_
    refine lv_aload_n C.1 C.2.1 dL_law_498 rfl (lv_at hl 1 rfl) ?_
    refine lv_iload C.1 C.2.1 dL_law_499 (lv_at hl 5 rfl) ?_
    refine z_iconst C dL_law_501 ?_
    refine z_iadd C dL_law_502 ?_
    refine zd_ld C Z G q2 (x.toNat + 2) e2 (by omega) (by omega) dL_law_503 ?_
    refine zd_M (as := [.int (iZ (q1)), .int (iZ (q2))]) C Y G (c_X5_swap l D cJ u v _ _ _ _ _ (q1) (q2) (by first | assumption | omega) (by first | assumption | omega)) ml_L_192 rfl ⟨Nat.le_of_ble_eq_true rfl, Nat.le_of_ble_eq_true rfl⟩ ⟨by show cells + 0 + 0 ≤ 665281; omega, by show slots + 0 + 0 ≤ 7105636; omega⟩ hl (Nat.le_of_ble_eq_true rfl) rfl dL_law_504 (fun y9 H locs hy9 G => ?_)
    subst hy9
    refine lv_istore (lv' := [(6, _), (5, .int (iZ (0))), (0, .ref t), (1, .ref o), (2, .ref u), (3, .ref w), (4, .int (iZ (x)))]) C.1 C.2.1 dL_law_507 hl (by decide) rfl (fun ls hl => ?_)
    refine lv_goto (tgt := 2172) C.1 C.2.1 dL_law_509 (by decide) ?_
    exact kk _ _ _ _ _ _ _ _ _ _ _ _ G (by omega) (by omega) (lv_sub hl [2, 3, 4, 5, 6] rfl)
  · skip
    refine lv_aload_n C.1 C.2.1 dL_law_472 rfl (lv_at hl 1 rfl) ?_
    refine lv_aload_n C.1 C.2.1 dL_law_473 rfl (lv_at hl 0 rfl) ?_
    refine lv_iload C.1 C.2.1 dL_law_474 (lv_at hl 4 rfl) ?_
    refine z_iconst C dL_law_476 ?_
    refine z_iadd C dL_law_477 ?_
    refine zd_ld C Z G q1 (x.toNat + 1) e1 (by omega) (by omega) dL_law_478 ?_
    refine lv_aload_n C.1 C.2.1 dL_law_479 rfl (lv_at hl 0 rfl) ?_
    refine lv_iload C.1 C.2.1 dL_law_480 (lv_at hl 4 rfl) ?_
    refine z_iconst C dL_law_482 ?_
    refine z_iadd C dL_law_483 ?_
    refine zd_ld C Z G q2 (x.toNat + 2) e2 (by omega) (by omega) dL_law_484 ?_
    refine lv_aload_n C.1 C.2.1 dL_law_485 rfl (lv_at hl 3 rfl) ?_
    refine zd_W (as := [.ref o, .int (iZ (q1)), .int (iZ (q2)), .ref w]) C Z Y G (c_L_swap_badc l hlq D cJ o a _ _ _ _ (q1) (q2) (by first | assumption | omega) (by first | assumption | omega) (by first | assumption | omega) w _ _) ml_L_190 ⟨Nat.le_of_ble_eq_true rfl, Nat.le_of_ble_eq_true rfl⟩ ⟨by show cells + 0 + 1 ≤ 665281; omega, by show slots + 0 + 6 ≤ 7105636; omega⟩ hl (Nat.le_of_ble_eq_true rfl) rfl dL_law_486 (fun H locs G => ?_)
    refine lv_istore (lv' := [(5, .int (iZ (1))), (0, .ref t), (1, .ref o), (2, .ref u), (3, .ref w), (4, .int (iZ (x)))]) C.1 C.2.1 dL_law_489 hl (by decide) rfl (fun ls hl => ?_)
    refine lv_aload_n C.1 C.2.1 dL_law_491 rfl (lv_at hl 3 rfl) ?_
    refine lv_aload_n C.1 C.2.1 dL_law_492 rfl (lv_at hl 1 rfl) ?_
    refine lv_iload C.1 C.2.1 dL_law_493 (lv_at hl 5 rfl) ?_
    refine z_iconst C dL_law_495 ?_
    refine z_iadd C dL_law_496 ?_
    refine zd_ld C Z G q1 (x.toNat + 1) e1 (by omega) (by omega) dL_law_497 ?_
    refine lv_aload_n C.1 C.2.1 dL_law_498 rfl (lv_at hl 1 rfl) ?_
    refine lv_iload C.1 C.2.1 dL_law_499 (lv_at hl 5 rfl) ?_
    refine z_iconst C dL_law_501 ?_
    refine z_iadd C dL_law_502 ?_
    refine zd_ld C Z G q2 (x.toNat + 2) e2 (by omega) (by omega) dL_law_503 ?_
    refine zd_M (as := [.int (iZ (q1)), .int (iZ (q2))]) C Y G (c_X5_swap_bad1 l D cJ u v _ _ _ _ _ (q1) (q2) (by first | assumption | omega) (by first | assumption | omega) (by first | assumption | omega)) ml_L_192 rfl ⟨Nat.le_of_ble_eq_true rfl, Nat.le_of_ble_eq_true rfl⟩ ⟨by show cells + 1 + 0 ≤ 665281; omega, by show slots + 6 + 0 ≤ 7105636; omega⟩ hl (Nat.le_of_ble_eq_true rfl) rfl dL_law_504 (fun y9 H locs hy9 G => ?_)
    subst hy9
    refine lv_istore (lv' := [(6, _), (5, .int (iZ (1))), (0, .ref t), (1, .ref o), (2, .ref u), (3, .ref w), (4, .int (iZ (x)))]) C.1 C.2.1 dL_law_507 hl (by decide) rfl (fun ls hl => ?_)
    refine lv_goto (tgt := 2172) C.1 C.2.1 dL_law_509 (by decide) ?_
    exact kk _ _ _ _ _ _ _ _ _ _ _ _ G (by omega) (by omega) (lv_sub hl [2, 3, 4, 5, 6] rfl)
set_option maxHeartbeats 4000000 in
set_option maxRecDepth 100000 in
theorem lk_6 (hlq : l.stackTraces = false) (C : CallFix p m c0 cL_law 7 s args T0 RL) (Z : zLw D cB t N g s) (Y : zAd o a u v w s) {c : Nat → Nat} {ac re kn : Int32} {th : Int} {n : Int64} {sv : Value} {H : Heap} {locs : List Loc} {ls : Array Slot} {cells slots : Nat} (G : zG D cJ o a u v w c [.int ac, .int re, .int kn] c [.int (iZ th), .int ac, .int re, .int kn] n sv s H locs) (x : Int) (hx : 0 ≤ x ∧ x + 5 ≤ (N : Int)) (hf : cells + 150 ≤ 665281 ∧ slots + 75000 ≤ 7105636) (hl : lv_has ls 7 [(0, .ref t), (1, .ref o), (2, .ref u), (3, .ref w), (4, .int (iZ (x)))])
    (kk : zNx p l e s m args below meth c0 D cJ t o a u v w x cells slots Qw 2172) : W p l e room_1 s m args below meth c0 H locs cells slots Qw (F0 m 512 ls []) := by
  have hc := G.1.2.2.2
  obtain ⟨q1, e1⟩ : ∃ z, g (x.toNat + 1) = z := ⟨_, rfl⟩
  have r1 : -2147483648 ≤ q1 ∧ q1 ≤ 2147483647 := e1 ▸ Z.2.2.2.2.2.1 _
  obtain ⟨q2, e2⟩ : ∃ z, g (x.toNat + 2) = z := ⟨_, rfl⟩
  have r2 : -2147483648 ≤ q2 ∧ q2 ≤ 2147483647 := e2 ▸ Z.2.2.2.2.2.1 _
  obtain ⟨q3, e3⟩ : ∃ z, g (x.toNat + 3) = z := ⟨_, rfl⟩
  have r3 : -2147483648 ≤ q3 ∧ q3 ≤ 2147483647 := e3 ▸ Z.2.2.2.2.2.1 _
  obtain ⟨q4, e4⟩ : ∃ z, g (x.toNat + 4) = z := ⟨_, rfl⟩
  have r4 : -2147483648 ≤ q4 ∧ q4 ≤ 2147483647 := e4 ▸ Z.2.2.2.2.2.1 _
  by_cases hcel : (0 ≤ q1 ∧ q1 ≤ 5) ∧ (0 ≤ q2 ∧ q2 ≤ 5) ∧ (0 ≤ q4 ∧ q4 ≤ 5)
  · skip
    refine lv_aload_n C.1 C.2.1 dL_law_512 rfl (lv_at hl 1 rfl) ?_
    refine lv_aload_n C.1 C.2.1 dL_law_513 rfl (lv_at hl 0 rfl) ?_
    refine lv_iload C.1 C.2.1 dL_law_514 (lv_at hl 4 rfl) ?_
    refine z_iconst C dL_law_516 ?_
    refine z_iadd C dL_law_517 ?_
    refine zd_ld C Z G q1 (x.toNat + 1) e1 (by omega) (by omega) dL_law_518 ?_
    refine lv_aload_n C.1 C.2.1 dL_law_519 rfl (lv_at hl 0 rfl) ?_
    refine lv_iload C.1 C.2.1 dL_law_520 (lv_at hl 4 rfl) ?_
    refine z_iconst C dL_law_522 ?_
    refine z_iadd C dL_law_523 ?_
    refine zd_ld C Z G q2 (x.toNat + 2) e2 (by omega) (by omega) dL_law_524 ?_
    refine lv_aload_n C.1 C.2.1 dL_law_525 rfl (lv_at hl 0 rfl) ?_
    refine lv_iload C.1 C.2.1 dL_law_526 (lv_at hl 4 rfl) ?_
    refine z_iconst C dL_law_528 ?_
    refine z_iadd C dL_law_529 ?_
    refine zd_ld C Z G q3 (x.toNat + 3) e3 (by omega) (by omega) dL_law_530 ?_
    refine zd_nz C (by omega) dL_law_531 dL_law_534 dL_law_535 dL_law_538 ?_
    refine lv_aload_n C.1 C.2.1 dL_law_539 rfl (lv_at hl 0 rfl) ?_
    refine lv_iload C.1 C.2.1 dL_law_540 (lv_at hl 4 rfl) ?_
    refine z_iconst C dL_law_542 ?_
    refine z_iadd C dL_law_543 ?_
    refine zd_ld C Z G q4 (x.toNat + 4) e4 (by omega) (by omega) dL_law_544 ?_
    refine lv_aload_n C.1 C.2.1 dL_law_545 rfl (lv_at hl 3 rfl) ?_
    refine zd_W (as := [.ref o, .int (iZ (q1)), .int (iZ (q2)), .int (iZ (zB (decide (q3 ≠ 0)))), .int (iZ (q4)), .ref w]) C Z Y G (c_L_end l D cJ o a _ _ _ _ (q1) (q2) (decide (q3 ≠ 0)) (q4) (by first | assumption | omega) (by first | assumption | omega) (by first | assumption | omega) w _ _) ml_L_193 ⟨Nat.le_of_ble_eq_true rfl, Nat.le_of_ble_eq_true rfl⟩ ⟨by show cells + 0 + 0 ≤ 665281; omega, by show slots + 0 + 0 ≤ 7105636; omega⟩ hl (Nat.le_of_ble_eq_true rfl) rfl dL_law_546 (fun H locs G => ?_)
    refine lv_istore (lv' := [(5, .int (iZ (0))), (0, .ref t), (1, .ref o), (2, .ref u), (3, .ref w), (4, .int (iZ (x)))]) C.1 C.2.1 dL_law_549 hl (by decide) rfl (fun ls hl => ?_)
    refine lv_aload_n C.1 C.2.1 dL_law_551 rfl (lv_at hl 3 rfl) ?_
    refine lv_aload_n C.1 C.2.1 dL_law_552 rfl (lv_at hl 1 rfl) ?_
    refine lv_iload C.1 C.2.1 dL_law_553 (lv_at hl 5 rfl) ?_
    refine z_iconst C dL_law_555 ?_
    refine z_iadd C dL_law_556 ?_
    refine zd_ld C Z G q1 (x.toNat + 1) e1 (by omega) (by omega) dL_law_557 ?_
    refine lv_aload_n C.1 C.2.1 dL_law_558 rfl (lv_at hl 1 rfl) ?_
    refine lv_iload C.1 C.2.1 dL_law_559 (lv_at hl 5 rfl) ?_
    refine z_iconst C dL_law_561 ?_
    refine z_iadd C dL_law_562 ?_
    refine zd_ld C Z G q2 (x.toNat + 2) e2 (by omega) (by omega) dL_law_563 ?_
    refine lv_aload_n C.1 C.2.1 dL_law_564 rfl (lv_at hl 1 rfl) ?_
    refine lv_iload C.1 C.2.1 dL_law_565 (lv_at hl 5 rfl) ?_
    refine z_iconst C dL_law_567 ?_
    refine z_iadd C dL_law_568 ?_
    refine zd_ld C Z G q3 (x.toNat + 3) e3 (by omega) (by omega) dL_law_569 ?_
    refine zd_nz C (by omega) dL_law_570 dL_law_573 dL_law_574 dL_law_577 ?_
    refine lv_aload_n C.1 C.2.1 dL_law_578 rfl (lv_at hl 1 rfl) ?_
    refine lv_iload C.1 C.2.1 dL_law_579 (lv_at hl 5 rfl) ?_
    refine z_iconst C dL_law_581 ?_
    refine z_iadd C dL_law_582 ?_
    refine zd_ld C Z G q4 (x.toNat + 4) e4 (by omega) (by omega) dL_law_583 ?_
    refine zd_M (as := [.int (iZ (q1)), .int (iZ (q2)), .int (iZ (zB (decide (q3 ≠ 0)))), .int (iZ (q4))]) C Y G (c_X5_end l D cJ u v _ _ _ _ _ (q1) (q2) (decide (q3 ≠ 0)) (q4) (by first | assumption | omega) (by first | assumption | omega) (by first | assumption | omega)) ml_L_196 rfl ⟨Nat.le_of_ble_eq_true rfl, Nat.le_of_ble_eq_true rfl⟩ ⟨by show cells + 0 + 0 ≤ 665281; omega, by show slots + 0 + 0 ≤ 7105636; omega⟩ hl (Nat.le_of_ble_eq_true rfl) rfl dL_law_584 (fun y9 H locs hy9 G => ?_)
    subst hy9
    refine lv_istore (lv' := [(6, _), (5, .int (iZ (0))), (0, .ref t), (1, .ref o), (2, .ref u), (3, .ref w), (4, .int (iZ (x)))]) C.1 C.2.1 dL_law_587 hl (by decide) rfl (fun ls hl => ?_)
    refine lv_goto (tgt := 2172) C.1 C.2.1 dL_law_589 (by decide) ?_
    exact kk _ _ _ _ _ _ _ _ _ _ _ _ G (by omega) (by omega) (lv_sub hl [2, 3, 4, 5, 6] rfl)
  · skip
    refine lv_aload_n C.1 C.2.1 dL_law_512 rfl (lv_at hl 1 rfl) ?_
    refine lv_aload_n C.1 C.2.1 dL_law_513 rfl (lv_at hl 0 rfl) ?_
    refine lv_iload C.1 C.2.1 dL_law_514 (lv_at hl 4 rfl) ?_
    refine z_iconst C dL_law_516 ?_
    refine z_iadd C dL_law_517 ?_
    refine zd_ld C Z G q1 (x.toNat + 1) e1 (by omega) (by omega) dL_law_518 ?_
    refine lv_aload_n C.1 C.2.1 dL_law_519 rfl (lv_at hl 0 rfl) ?_
    refine lv_iload C.1 C.2.1 dL_law_520 (lv_at hl 4 rfl) ?_
    refine z_iconst C dL_law_522 ?_
    refine z_iadd C dL_law_523 ?_
    refine zd_ld C Z G q2 (x.toNat + 2) e2 (by omega) (by omega) dL_law_524 ?_
    refine lv_aload_n C.1 C.2.1 dL_law_525 rfl (lv_at hl 0 rfl) ?_
    refine lv_iload C.1 C.2.1 dL_law_526 (lv_at hl 4 rfl) ?_
    refine z_iconst C dL_law_528 ?_
    refine z_iadd C dL_law_529 ?_
    refine zd_ld C Z G q3 (x.toNat + 3) e3 (by omega) (by omega) dL_law_530 ?_
    refine zd_nz C (by omega) dL_law_531 dL_law_534 dL_law_535 dL_law_538 ?_
    refine lv_aload_n C.1 C.2.1 dL_law_539 rfl (lv_at hl 0 rfl) ?_
    refine lv_iload C.1 C.2.1 dL_law_540 (lv_at hl 4 rfl) ?_
    refine z_iconst C dL_law_542 ?_
    refine z_iadd C dL_law_543 ?_
    refine zd_ld C Z G q4 (x.toNat + 4) e4 (by omega) (by omega) dL_law_544 ?_
    refine lv_aload_n C.1 C.2.1 dL_law_545 rfl (lv_at hl 3 rfl) ?_
    refine zd_W (as := [.ref o, .int (iZ (q1)), .int (iZ (q2)), .int (iZ (zB (decide (q3 ≠ 0)))), .int (iZ (q4)), .ref w]) C Z Y G (c_L_end_badc l hlq D cJ o a _ _ _ _ (q1) (q2) (decide (q3 ≠ 0)) (q4) (by first | assumption | omega) (by first | assumption | omega) (by first | assumption | omega) (by first | assumption | omega) w _ _) ml_L_193 ⟨Nat.le_of_ble_eq_true rfl, Nat.le_of_ble_eq_true rfl⟩ ⟨by show cells + 0 + 1 ≤ 665281; omega, by show slots + 0 + 6 ≤ 7105636; omega⟩ hl (Nat.le_of_ble_eq_true rfl) rfl dL_law_546 (fun H locs G => ?_)
    refine lv_istore (lv' := [(5, .int (iZ (1))), (0, .ref t), (1, .ref o), (2, .ref u), (3, .ref w), (4, .int (iZ (x)))]) C.1 C.2.1 dL_law_549 hl (by decide) rfl (fun ls hl => ?_)
    refine lv_aload_n C.1 C.2.1 dL_law_551 rfl (lv_at hl 3 rfl) ?_
    refine lv_aload_n C.1 C.2.1 dL_law_552 rfl (lv_at hl 1 rfl) ?_
    refine lv_iload C.1 C.2.1 dL_law_553 (lv_at hl 5 rfl) ?_
    refine z_iconst C dL_law_555 ?_
    refine z_iadd C dL_law_556 ?_
    refine zd_ld C Z G q1 (x.toNat + 1) e1 (by omega) (by omega) dL_law_557 ?_
    refine lv_aload_n C.1 C.2.1 dL_law_558 rfl (lv_at hl 1 rfl) ?_
    refine lv_iload C.1 C.2.1 dL_law_559 (lv_at hl 5 rfl) ?_
    refine z_iconst C dL_law_561 ?_
    refine z_iadd C dL_law_562 ?_
    refine zd_ld C Z G q2 (x.toNat + 2) e2 (by omega) (by omega) dL_law_563 ?_
    refine lv_aload_n C.1 C.2.1 dL_law_564 rfl (lv_at hl 1 rfl) ?_
    refine lv_iload C.1 C.2.1 dL_law_565 (lv_at hl 5 rfl) ?_
    refine z_iconst C dL_law_567 ?_
    refine z_iadd C dL_law_568 ?_
    refine zd_ld C Z G q3 (x.toNat + 3) e3 (by omega) (by omega) dL_law_569 ?_
    refine zd_nz C (by omega) dL_law_570 dL_law_573 dL_law_574 dL_law_577 ?_
    refine lv_aload_n C.1 C.2.1 dL_law_578 rfl (lv_at hl 1 rfl) ?_
    refine lv_iload C.1 C.2.1 dL_law_579 (lv_at hl 5 rfl) ?_
    refine z_iconst C dL_law_581 ?_
    refine z_iadd C dL_law_582 ?_
    refine zd_ld C Z G q4 (x.toNat + 4) e4 (by omega) (by omega) dL_law_583 ?_
    refine zd_M (as := [.int (iZ (q1)), .int (iZ (q2)), .int (iZ (zB (decide (q3 ≠ 0)))), .int (iZ (q4))]) C Y G (c_X5_end_bad1 l D cJ u v _ _ _ _ _ (q1) (q2) (decide (q3 ≠ 0)) (q4) (by first | assumption | omega) (by first | assumption | omega) (by first | assumption | omega) (by first | assumption | omega)) ml_L_196 rfl ⟨Nat.le_of_ble_eq_true rfl, Nat.le_of_ble_eq_true rfl⟩ ⟨by show cells + 1 + 0 ≤ 665281; omega, by show slots + 6 + 0 ≤ 7105636; omega⟩ hl (Nat.le_of_ble_eq_true rfl) rfl dL_law_584 (fun y9 H locs hy9 G => ?_)
    subst hy9
    refine lv_istore (lv' := [(6, _), (5, .int (iZ (1))), (0, .ref t), (1, .ref o), (2, .ref u), (3, .ref w), (4, .int (iZ (x)))]) C.1 C.2.1 dL_law_587 hl (by decide) rfl (fun ls hl => ?_)
    refine lv_goto (tgt := 2172) C.1 C.2.1 dL_law_589 (by decide) ?_
    exact kk _ _ _ _ _ _ _ _ _ _ _ _ G (by omega) (by omega) (lv_sub hl [2, 3, 4, 5, 6] rfl)
set_option maxHeartbeats 4000000 in
set_option maxRecDepth 100000 in
theorem lk_7 (hlq : l.stackTraces = false) (C : CallFix p m c0 cL_law 7 s args T0 RL) (Z : zLw D cB t N g s) (Y : zAd o a u v w s) {c : Nat → Nat} {ac re kn : Int32} {th : Int} {n : Int64} {sv : Value} {H : Heap} {locs : List Loc} {ls : Array Slot} {cells slots : Nat} (G : zG D cJ o a u v w c [.int ac, .int re, .int kn] c [.int (iZ th), .int ac, .int re, .int kn] n sv s H locs) (x : Int) (hx : 0 ≤ x ∧ x + 5 ≤ (N : Int)) (hf : cells + 150 ≤ 665281 ∧ slots + 75000 ≤ 7105636) (hl : lv_has ls 7 [(0, .ref t), (1, .ref o), (2, .ref u), (3, .ref w), (4, .int (iZ (x)))])
    (kk : zNx p l e s m args below meth c0 D cJ t o a u v w x cells slots Qw 2172) : W p l e room_1 s m args below meth c0 H locs cells slots Qw (F0 m 592 ls []) := by
  have hc := G.1.2.2.2
  obtain ⟨q1, e1⟩ : ∃ z, g (x.toNat + 1) = z := ⟨_, rfl⟩
  have r1 : -2147483648 ≤ q1 ∧ q1 ≤ 2147483647 := e1 ▸ Z.2.2.2.2.2.1 _
  obtain ⟨q2, e2⟩ : ∃ z, g (x.toNat + 2) = z := ⟨_, rfl⟩
  have r2 : -2147483648 ≤ q2 ∧ q2 ≤ 2147483647 := e2 ▸ Z.2.2.2.2.2.1 _
  obtain ⟨q3, e3⟩ : ∃ z, g (x.toNat + 3) = z := ⟨_, rfl⟩
  have r3 : -2147483648 ≤ q3 ∧ q3 ≤ 2147483647 := e3 ▸ Z.2.2.2.2.2.1 _
  obtain ⟨q4, e4⟩ : ∃ z, g (x.toNat + 4) = z := ⟨_, rfl⟩
  have r4 : -2147483648 ≤ q4 ∧ q4 ≤ 2147483647 := e4 ▸ Z.2.2.2.2.2.1 _
  by_cases hcel : (0 ≤ q1 ∧ q1 ≤ 5) ∧ (0 ≤ q2 ∧ q2 ≤ 5) ∧ (0 ≤ q4 ∧ q4 ≤ 5)
  · skip
    by_cases hrng : (0 ≤ q3 ∧ q3 ≤ 3)
    · skip
      refine lv_aload_n C.1 C.2.1 dL_law_592 rfl (lv_at hl 1 rfl) ?_
      refine lv_aload_n C.1 C.2.1 dL_law_593 rfl (lv_at hl 0 rfl) ?_
      refine lv_iload C.1 C.2.1 dL_law_594 (lv_at hl 4 rfl) ?_
      refine z_iconst C dL_law_596 ?_
      refine z_iadd C dL_law_597 ?_
      refine zd_ld C Z G q1 (x.toNat + 1) e1 (by omega) (by omega) dL_law_598 ?_
      refine lv_aload_n C.1 C.2.1 dL_law_599 rfl (lv_at hl 0 rfl) ?_
      refine lv_iload C.1 C.2.1 dL_law_600 (lv_at hl 4 rfl) ?_
      refine z_iconst C dL_law_602 ?_
      refine z_iadd C dL_law_603 ?_
      refine zd_ld C Z G q2 (x.toNat + 2) e2 (by omega) (by omega) dL_law_604 ?_
      refine lv_aload_n C.1 C.2.1 dL_law_605 rfl (lv_at hl 0 rfl) ?_
      refine lv_iload C.1 C.2.1 dL_law_606 (lv_at hl 4 rfl) ?_
      refine z_iconst C dL_law_608 ?_
      refine z_iadd C dL_law_609 ?_
      refine zd_ld C Z G q3 (x.toNat + 3) e3 (by omega) (by omega) dL_law_610 ?_
      refine lv_aload_n C.1 C.2.1 dL_law_611 rfl (lv_at hl 0 rfl) ?_
      refine lv_iload C.1 C.2.1 dL_law_612 (lv_at hl 4 rfl) ?_
      refine z_iconst C dL_law_614 ?_
      refine z_iadd C dL_law_615 ?_
      refine zd_ld C Z G q4 (x.toNat + 4) e4 (by omega) (by omega) dL_law_616 ?_
      refine lv_aload_n C.1 C.2.1 dL_law_617 rfl (lv_at hl 3 rfl) ?_
      refine zd_W (as := [.ref o, .int (iZ (q1)), .int (iZ (q2)), .int (iZ (q3)), .int (iZ (q4)), .ref w]) C Z Y G (c_L_join l D cJ o a _ _ _ _ (q1) (q2) (q3) (q4) (by first | assumption | omega) (by first | assumption | omega) (by first | assumption | omega) (by first | assumption | omega) w _ _) ml_L_197 ⟨Nat.le_of_ble_eq_true rfl, Nat.le_of_ble_eq_true rfl⟩ ⟨by show cells + 0 + 0 ≤ 665281; omega, by show slots + 0 + 0 ≤ 7105636; omega⟩ hl (Nat.le_of_ble_eq_true rfl) rfl dL_law_618 (fun H locs G => ?_)
      refine lv_istore (lv' := [(5, .int (iZ (0))), (0, .ref t), (1, .ref o), (2, .ref u), (3, .ref w), (4, .int (iZ (x)))]) C.1 C.2.1 dL_law_621 hl (by decide) rfl (fun ls hl => ?_)
      refine lv_aload_n C.1 C.2.1 dL_law_623 rfl (lv_at hl 3 rfl) ?_
      refine lv_aload_n C.1 C.2.1 dL_law_624 rfl (lv_at hl 1 rfl) ?_
      refine lv_iload C.1 C.2.1 dL_law_625 (lv_at hl 5 rfl) ?_
      refine z_iconst C dL_law_627 ?_
      refine z_iadd C dL_law_628 ?_
      refine zd_ld C Z G q1 (x.toNat + 1) e1 (by omega) (by omega) dL_law_629 ?_
      refine lv_aload_n C.1 C.2.1 dL_law_630 rfl (lv_at hl 1 rfl) ?_
      refine lv_iload C.1 C.2.1 dL_law_631 (lv_at hl 5 rfl) ?_
      refine z_iconst C dL_law_633 ?_
      refine z_iadd C dL_law_634 ?_
      refine zd_ld C Z G q2 (x.toNat + 2) e2 (by omega) (by omega) dL_law_635 ?_
      refine lv_aload_n C.1 C.2.1 dL_law_636 rfl (lv_at hl 1 rfl) ?_
      refine lv_iload C.1 C.2.1 dL_law_637 (lv_at hl 5 rfl) ?_
      refine z_iconst C dL_law_639 ?_
      refine z_iadd C dL_law_640 ?_
      refine zd_ld C Z G q3 (x.toNat + 3) e3 (by omega) (by omega) dL_law_641 ?_
      refine lv_aload_n C.1 C.2.1 dL_law_642 rfl (lv_at hl 1 rfl) ?_
      refine lv_iload C.1 C.2.1 dL_law_643 (lv_at hl 5 rfl) ?_
      refine z_iconst C dL_law_645 ?_
      refine z_iadd C dL_law_646 ?_
      refine zd_ld C Z G q4 (x.toNat + 4) e4 (by omega) (by omega) dL_law_647 ?_
      refine zd_M (as := [.int (iZ (q1)), .int (iZ (q2)), .int (iZ (q3)), .int (iZ (q4))]) C Y G (c_X5_join l D cJ u v _ _ _ _ _ (q1) (q2) (q3) (q4) (by first | assumption | omega) (by first | assumption | omega) (by first | assumption | omega) (by first | assumption | omega)) ml_L_200 rfl ⟨Nat.le_of_ble_eq_true rfl, Nat.le_of_ble_eq_true rfl⟩ ⟨by show cells + 0 + 0 ≤ 665281; omega, by show slots + 0 + 0 ≤ 7105636; omega⟩ hl (Nat.le_of_ble_eq_true rfl) rfl dL_law_648 (fun y9 H locs hy9 G => ?_)
      subst hy9
      refine lv_istore (lv' := [(6, _), (5, .int (iZ (0))), (0, .ref t), (1, .ref o), (2, .ref u), (3, .ref w), (4, .int (iZ (x)))]) C.1 C.2.1 dL_law_651 hl (by decide) rfl (fun ls hl => ?_)
      refine lv_goto (tgt := 2172) C.1 C.2.1 dL_law_653 (by decide) ?_
      exact kk _ _ _ _ _ _ _ _ _ _ _ _ G (by omega) (by omega) (lv_sub hl [2, 3, 4, 5, 6] rfl)
    · skip
      refine lv_aload_n C.1 C.2.1 dL_law_592 rfl (lv_at hl 1 rfl) ?_
      refine lv_aload_n C.1 C.2.1 dL_law_593 rfl (lv_at hl 0 rfl) ?_
      refine lv_iload C.1 C.2.1 dL_law_594 (lv_at hl 4 rfl) ?_
      refine z_iconst C dL_law_596 ?_
      refine z_iadd C dL_law_597 ?_
      refine zd_ld C Z G q1 (x.toNat + 1) e1 (by omega) (by omega) dL_law_598 ?_
      refine lv_aload_n C.1 C.2.1 dL_law_599 rfl (lv_at hl 0 rfl) ?_
      refine lv_iload C.1 C.2.1 dL_law_600 (lv_at hl 4 rfl) ?_
      refine z_iconst C dL_law_602 ?_
      refine z_iadd C dL_law_603 ?_
      refine zd_ld C Z G q2 (x.toNat + 2) e2 (by omega) (by omega) dL_law_604 ?_
      refine lv_aload_n C.1 C.2.1 dL_law_605 rfl (lv_at hl 0 rfl) ?_
      refine lv_iload C.1 C.2.1 dL_law_606 (lv_at hl 4 rfl) ?_
      refine z_iconst C dL_law_608 ?_
      refine z_iadd C dL_law_609 ?_
      refine zd_ld C Z G q3 (x.toNat + 3) e3 (by omega) (by omega) dL_law_610 ?_
      refine lv_aload_n C.1 C.2.1 dL_law_611 rfl (lv_at hl 0 rfl) ?_
      refine lv_iload C.1 C.2.1 dL_law_612 (lv_at hl 4 rfl) ?_
      refine z_iconst C dL_law_614 ?_
      refine z_iadd C dL_law_615 ?_
      refine zd_ld C Z G q4 (x.toNat + 4) e4 (by omega) (by omega) dL_law_616 ?_
      refine lv_aload_n C.1 C.2.1 dL_law_617 rfl (lv_at hl 3 rfl) ?_
      refine zd_W (as := [.ref o, .int (iZ (q1)), .int (iZ (q2)), .int (iZ (q3)), .int (iZ (q4)), .ref w]) C Z Y G (c_L_join_badr l hlq D cJ o a _ _ _ _ (q1) (q2) (q3) (q4) (by first | assumption | omega) (by first | assumption | omega) (by first | assumption | omega) (by first | assumption | omega) (by first | assumption | omega) (by first | assumption | omega) (by first | assumption | omega) (by first | assumption | omega) w _ _) ml_L_197 ⟨Nat.le_of_ble_eq_true rfl, Nat.le_of_ble_eq_true rfl⟩ ⟨by show cells + 0 + 1 ≤ 665281; omega, by show slots + 0 + 6 ≤ 7105636; omega⟩ hl (Nat.le_of_ble_eq_true rfl) rfl dL_law_618 (fun H locs G => ?_)
      refine lv_istore (lv' := [(5, .int (iZ (2))), (0, .ref t), (1, .ref o), (2, .ref u), (3, .ref w), (4, .int (iZ (x)))]) C.1 C.2.1 dL_law_621 hl (by decide) rfl (fun ls hl => ?_)
      refine lv_aload_n C.1 C.2.1 dL_law_623 rfl (lv_at hl 3 rfl) ?_
      refine lv_aload_n C.1 C.2.1 dL_law_624 rfl (lv_at hl 1 rfl) ?_
      refine lv_iload C.1 C.2.1 dL_law_625 (lv_at hl 5 rfl) ?_
      refine z_iconst C dL_law_627 ?_
      refine z_iadd C dL_law_628 ?_
      refine zd_ld C Z G q1 (x.toNat + 1) e1 (by omega) (by omega) dL_law_629 ?_
      refine lv_aload_n C.1 C.2.1 dL_law_630 rfl (lv_at hl 1 rfl) ?_
      refine lv_iload C.1 C.2.1 dL_law_631 (lv_at hl 5 rfl) ?_
      refine z_iconst C dL_law_633 ?_
      refine z_iadd C dL_law_634 ?_
      refine zd_ld C Z G q2 (x.toNat + 2) e2 (by omega) (by omega) dL_law_635 ?_
      refine lv_aload_n C.1 C.2.1 dL_law_636 rfl (lv_at hl 1 rfl) ?_
      refine lv_iload C.1 C.2.1 dL_law_637 (lv_at hl 5 rfl) ?_
      refine z_iconst C dL_law_639 ?_
      refine z_iadd C dL_law_640 ?_
      refine zd_ld C Z G q3 (x.toNat + 3) e3 (by omega) (by omega) dL_law_641 ?_
      refine lv_aload_n C.1 C.2.1 dL_law_642 rfl (lv_at hl 1 rfl) ?_
      refine lv_iload C.1 C.2.1 dL_law_643 (lv_at hl 5 rfl) ?_
      refine z_iconst C dL_law_645 ?_
      refine z_iadd C dL_law_646 ?_
      refine zd_ld C Z G q4 (x.toNat + 4) e4 (by omega) (by omega) dL_law_647 ?_
      refine zd_M (as := [.int (iZ (q1)), .int (iZ (q2)), .int (iZ (q3)), .int (iZ (q4))]) C Y G (c_X5_join_bad2 l D cJ u v _ _ _ _ _ (q1) (q2) (q3) (q4) (by first | assumption | omega) (by first | assumption | omega) (by first | assumption | omega) (by first | assumption | omega) (by first | assumption | omega) (by first | assumption | omega)) ml_L_200 rfl ⟨Nat.le_of_ble_eq_true rfl, Nat.le_of_ble_eq_true rfl⟩ ⟨by show cells + 1 + 0 ≤ 665281; omega, by show slots + 6 + 0 ≤ 7105636; omega⟩ hl (Nat.le_of_ble_eq_true rfl) rfl dL_law_648 (fun y9 H locs hy9 G => ?_)
      subst hy9
      refine lv_istore (lv' := [(6, _), (5, .int (iZ (2))), (0, .ref t), (1, .ref o), (2, .ref u), (3, .ref w), (4, .int (iZ (x)))]) C.1 C.2.1 dL_law_651 hl (by decide) rfl (fun ls hl => ?_)
      refine lv_goto (tgt := 2172) C.1 C.2.1 dL_law_653 (by decide) ?_
      exact kk _ _ _ _ _ _ _ _ _ _ _ _ G (by omega) (by omega) (lv_sub hl [2, 3, 4, 5, 6] rfl)
  · skip
    refine lv_aload_n C.1 C.2.1 dL_law_592 rfl (lv_at hl 1 rfl) ?_
    refine lv_aload_n C.1 C.2.1 dL_law_593 rfl (lv_at hl 0 rfl) ?_
    refine lv_iload C.1 C.2.1 dL_law_594 (lv_at hl 4 rfl) ?_
    refine z_iconst C dL_law_596 ?_
    refine z_iadd C dL_law_597 ?_
    refine zd_ld C Z G q1 (x.toNat + 1) e1 (by omega) (by omega) dL_law_598 ?_
    refine lv_aload_n C.1 C.2.1 dL_law_599 rfl (lv_at hl 0 rfl) ?_
    refine lv_iload C.1 C.2.1 dL_law_600 (lv_at hl 4 rfl) ?_
    refine z_iconst C dL_law_602 ?_
    refine z_iadd C dL_law_603 ?_
    refine zd_ld C Z G q2 (x.toNat + 2) e2 (by omega) (by omega) dL_law_604 ?_
    refine lv_aload_n C.1 C.2.1 dL_law_605 rfl (lv_at hl 0 rfl) ?_
    refine lv_iload C.1 C.2.1 dL_law_606 (lv_at hl 4 rfl) ?_
    refine z_iconst C dL_law_608 ?_
    refine z_iadd C dL_law_609 ?_
    refine zd_ld C Z G q3 (x.toNat + 3) e3 (by omega) (by omega) dL_law_610 ?_
    refine lv_aload_n C.1 C.2.1 dL_law_611 rfl (lv_at hl 0 rfl) ?_
    refine lv_iload C.1 C.2.1 dL_law_612 (lv_at hl 4 rfl) ?_
    refine z_iconst C dL_law_614 ?_
    refine z_iadd C dL_law_615 ?_
    refine zd_ld C Z G q4 (x.toNat + 4) e4 (by omega) (by omega) dL_law_616 ?_
    refine lv_aload_n C.1 C.2.1 dL_law_617 rfl (lv_at hl 3 rfl) ?_
    refine zd_W (as := [.ref o, .int (iZ (q1)), .int (iZ (q2)), .int (iZ (q3)), .int (iZ (q4)), .ref w]) C Z Y G (c_L_join_badc l hlq D cJ o a _ _ _ _ (q1) (q2) (q3) (q4) (by first | assumption | omega) (by first | assumption | omega) (by first | assumption | omega) (by first | assumption | omega) (by first | assumption | omega) w _ _) ml_L_197 ⟨Nat.le_of_ble_eq_true rfl, Nat.le_of_ble_eq_true rfl⟩ ⟨by show cells + 0 + 1 ≤ 665281; omega, by show slots + 0 + 6 ≤ 7105636; omega⟩ hl (Nat.le_of_ble_eq_true rfl) rfl dL_law_618 (fun H locs G => ?_)
    refine lv_istore (lv' := [(5, .int (iZ (1))), (0, .ref t), (1, .ref o), (2, .ref u), (3, .ref w), (4, .int (iZ (x)))]) C.1 C.2.1 dL_law_621 hl (by decide) rfl (fun ls hl => ?_)
    refine lv_aload_n C.1 C.2.1 dL_law_623 rfl (lv_at hl 3 rfl) ?_
    refine lv_aload_n C.1 C.2.1 dL_law_624 rfl (lv_at hl 1 rfl) ?_
    refine lv_iload C.1 C.2.1 dL_law_625 (lv_at hl 5 rfl) ?_
    refine z_iconst C dL_law_627 ?_
    refine z_iadd C dL_law_628 ?_
    refine zd_ld C Z G q1 (x.toNat + 1) e1 (by omega) (by omega) dL_law_629 ?_
    refine lv_aload_n C.1 C.2.1 dL_law_630 rfl (lv_at hl 1 rfl) ?_
    refine lv_iload C.1 C.2.1 dL_law_631 (lv_at hl 5 rfl) ?_
    refine z_iconst C dL_law_633 ?_
    refine z_iadd C dL_law_634 ?_
    refine zd_ld C Z G q2 (x.toNat + 2) e2 (by omega) (by omega) dL_law_635 ?_
    refine lv_aload_n C.1 C.2.1 dL_law_636 rfl (lv_at hl 1 rfl) ?_
    refine lv_iload C.1 C.2.1 dL_law_637 (lv_at hl 5 rfl) ?_
    refine z_iconst C dL_law_639 ?_
    refine z_iadd C dL_law_640 ?_
    refine zd_ld C Z G q3 (x.toNat + 3) e3 (by omega) (by omega) dL_law_641 ?_
    refine lv_aload_n C.1 C.2.1 dL_law_642 rfl (lv_at hl 1 rfl) ?_
    refine lv_iload C.1 C.2.1 dL_law_643 (lv_at hl 5 rfl) ?_
    refine z_iconst C dL_law_645 ?_
    refine z_iadd C dL_law_646 ?_
    refine zd_ld C Z G q4 (x.toNat + 4) e4 (by omega) (by omega) dL_law_647 ?_
    refine zd_M (as := [.int (iZ (q1)), .int (iZ (q2)), .int (iZ (q3)), .int (iZ (q4))]) C Y G (c_X5_join_bad1 l D cJ u v _ _ _ _ _ (q1) (q2) (q3) (q4) (by first | assumption | omega) (by first | assumption | omega) (by first | assumption | omega) (by first | assumption | omega) (by first | assumption | omega)) ml_L_200 rfl ⟨Nat.le_of_ble_eq_true rfl, Nat.le_of_ble_eq_true rfl⟩ ⟨by show cells + 1 + 0 ≤ 665281; omega, by show slots + 6 + 0 ≤ 7105636; omega⟩ hl (Nat.le_of_ble_eq_true rfl) rfl dL_law_648 (fun y9 H locs hy9 G => ?_)
    subst hy9
    refine lv_istore (lv' := [(6, _), (5, .int (iZ (1))), (0, .ref t), (1, .ref o), (2, .ref u), (3, .ref w), (4, .int (iZ (x)))]) C.1 C.2.1 dL_law_651 hl (by decide) rfl (fun ls hl => ?_)
    refine lv_goto (tgt := 2172) C.1 C.2.1 dL_law_653 (by decide) ?_
    exact kk _ _ _ _ _ _ _ _ _ _ _ _ G (by omega) (by omega) (lv_sub hl [2, 3, 4, 5, 6] rfl)
set_option maxHeartbeats 4000000 in
set_option maxRecDepth 100000 in
theorem lk_8 (hlq : l.stackTraces = false) (C : CallFix p m c0 cL_law 7 s args T0 RL) (Z : zLw D cB t N g s) (Y : zAd o a u v w s) {c : Nat → Nat} {ac re kn : Int32} {th : Int} {n : Int64} {sv : Value} {H : Heap} {locs : List Loc} {ls : Array Slot} {cells slots : Nat} (G : zG D cJ o a u v w c [.int ac, .int re, .int kn] c [.int (iZ th), .int ac, .int re, .int kn] n sv s H locs) (x : Int) (hx : 0 ≤ x ∧ x + 5 ≤ (N : Int)) (hf : cells + 150 ≤ 665281 ∧ slots + 75000 ≤ 7105636) (hl : lv_has ls 7 [(0, .ref t), (1, .ref o), (2, .ref u), (3, .ref w), (4, .int (iZ (x)))])
    (kk : zNx p l e s m args below meth c0 D cJ t o a u v w x cells slots Qw 2172) : W p l e room_1 s m args below meth c0 H locs cells slots Qw (F0 m 656 ls []) := by
  have hc := G.1.2.2.2
  obtain ⟨q1, e1⟩ : ∃ z, g (x.toNat + 1) = z := ⟨_, rfl⟩
  have r1 : -2147483648 ≤ q1 ∧ q1 ≤ 2147483647 := e1 ▸ Z.2.2.2.2.2.1 _
  obtain ⟨q2, e2⟩ : ∃ z, g (x.toNat + 2) = z := ⟨_, rfl⟩
  have r2 : -2147483648 ≤ q2 ∧ q2 ≤ 2147483647 := e2 ▸ Z.2.2.2.2.2.1 _
  obtain ⟨q3, e3⟩ : ∃ z, g (x.toNat + 3) = z := ⟨_, rfl⟩
  have r3 : -2147483648 ≤ q3 ∧ q3 ≤ 2147483647 := e3 ▸ Z.2.2.2.2.2.1 _
  by_cases hcel : (0 ≤ q1 ∧ q1 ≤ 5) ∧ (0 ≤ q2 ∧ q2 ≤ 5) ∧ (0 ≤ q3 ∧ q3 ≤ 5)
  · skip
    refine lv_aload_n C.1 C.2.1 dL_law_656 rfl (lv_at hl 1 rfl) ?_
    refine lv_aload_n C.1 C.2.1 dL_law_657 rfl (lv_at hl 0 rfl) ?_
    refine lv_iload C.1 C.2.1 dL_law_658 (lv_at hl 4 rfl) ?_
    refine z_iconst C dL_law_660 ?_
    refine z_iadd C dL_law_661 ?_
    refine zd_ld C Z G q1 (x.toNat + 1) e1 (by omega) (by omega) dL_law_662 ?_
    refine lv_aload_n C.1 C.2.1 dL_law_663 rfl (lv_at hl 0 rfl) ?_
    refine lv_iload C.1 C.2.1 dL_law_664 (lv_at hl 4 rfl) ?_
    refine z_iconst C dL_law_666 ?_
    refine z_iadd C dL_law_667 ?_
    refine zd_ld C Z G q2 (x.toNat + 2) e2 (by omega) (by omega) dL_law_668 ?_
    refine lv_aload_n C.1 C.2.1 dL_law_669 rfl (lv_at hl 0 rfl) ?_
    refine lv_iload C.1 C.2.1 dL_law_670 (lv_at hl 4 rfl) ?_
    refine z_iconst C dL_law_672 ?_
    refine z_iadd C dL_law_673 ?_
    refine zd_ld C Z G q3 (x.toNat + 3) e3 (by omega) (by omega) dL_law_674 ?_
    refine lv_aload_n C.1 C.2.1 dL_law_675 rfl (lv_at hl 3 rfl) ?_
    refine zd_W (as := [.ref o, .int (iZ (q1)), .int (iZ (q2)), .int (iZ (q3)), .ref w]) C Z Y G (c_L_times l D cJ o a _ _ _ _ (q1) (q2) (q3) (by first | assumption | omega) (by first | assumption | omega) (by first | assumption | omega) w _ _) ml_L_201 ⟨Nat.le_of_ble_eq_true rfl, Nat.le_of_ble_eq_true rfl⟩ ⟨by show cells + 0 + 0 ≤ 665281; omega, by show slots + 0 + 0 ≤ 7105636; omega⟩ hl (Nat.le_of_ble_eq_true rfl) rfl dL_law_676 (fun H locs G => ?_)
    refine lv_istore (lv' := [(5, .int (iZ (0))), (0, .ref t), (1, .ref o), (2, .ref u), (3, .ref w), (4, .int (iZ (x)))]) C.1 C.2.1 dL_law_679 hl (by decide) rfl (fun ls hl => ?_)
    refine lv_aload_n C.1 C.2.1 dL_law_681 rfl (lv_at hl 3 rfl) ?_
    refine lv_aload_n C.1 C.2.1 dL_law_682 rfl (lv_at hl 1 rfl) ?_
    refine lv_iload C.1 C.2.1 dL_law_683 (lv_at hl 5 rfl) ?_
    refine z_iconst C dL_law_685 ?_
    refine z_iadd C dL_law_686 ?_
    refine zd_ld C Z G q1 (x.toNat + 1) e1 (by omega) (by omega) dL_law_687 ?_
    refine lv_aload_n C.1 C.2.1 dL_law_688 rfl (lv_at hl 1 rfl) ?_
    refine lv_iload C.1 C.2.1 dL_law_689 (lv_at hl 5 rfl) ?_
    refine z_iconst C dL_law_691 ?_
    refine z_iadd C dL_law_692 ?_
    refine zd_ld C Z G q2 (x.toNat + 2) e2 (by omega) (by omega) dL_law_693 ?_
    refine lv_aload_n C.1 C.2.1 dL_law_694 rfl (lv_at hl 1 rfl) ?_
    refine lv_iload C.1 C.2.1 dL_law_695 (lv_at hl 5 rfl) ?_
    refine z_iconst C dL_law_697 ?_
    refine z_iadd C dL_law_698 ?_
    refine zd_ld C Z G q3 (x.toNat + 3) e3 (by omega) (by omega) dL_law_699 ?_
    refine zd_M (as := [.int (iZ (q1)), .int (iZ (q2)), .int (iZ (q3))]) C Y G (c_X5_times l D cJ u v _ _ _ _ _ (q1) (q2) (q3) (by first | assumption | omega) (by first | assumption | omega) (by first | assumption | omega)) ml_L_204 rfl ⟨Nat.le_of_ble_eq_true rfl, Nat.le_of_ble_eq_true rfl⟩ ⟨by show cells + 0 + 0 ≤ 665281; omega, by show slots + 0 + 0 ≤ 7105636; omega⟩ hl (Nat.le_of_ble_eq_true rfl) rfl dL_law_700 (fun y9 H locs hy9 G => ?_)
    subst hy9
    refine lv_istore (lv' := [(6, _), (5, .int (iZ (0))), (0, .ref t), (1, .ref o), (2, .ref u), (3, .ref w), (4, .int (iZ (x)))]) C.1 C.2.1 dL_law_703 hl (by decide) rfl (fun ls hl => ?_)
    refine lv_goto (tgt := 2172) C.1 C.2.1 dL_law_705 (by decide) ?_
    exact kk _ _ _ _ _ _ _ _ _ _ _ _ G (by omega) (by omega) (lv_sub hl [2, 3, 4, 5, 6] rfl)
  · skip
    refine lv_aload_n C.1 C.2.1 dL_law_656 rfl (lv_at hl 1 rfl) ?_
    refine lv_aload_n C.1 C.2.1 dL_law_657 rfl (lv_at hl 0 rfl) ?_
    refine lv_iload C.1 C.2.1 dL_law_658 (lv_at hl 4 rfl) ?_
    refine z_iconst C dL_law_660 ?_
    refine z_iadd C dL_law_661 ?_
    refine zd_ld C Z G q1 (x.toNat + 1) e1 (by omega) (by omega) dL_law_662 ?_
    refine lv_aload_n C.1 C.2.1 dL_law_663 rfl (lv_at hl 0 rfl) ?_
    refine lv_iload C.1 C.2.1 dL_law_664 (lv_at hl 4 rfl) ?_
    refine z_iconst C dL_law_666 ?_
    refine z_iadd C dL_law_667 ?_
    refine zd_ld C Z G q2 (x.toNat + 2) e2 (by omega) (by omega) dL_law_668 ?_
    refine lv_aload_n C.1 C.2.1 dL_law_669 rfl (lv_at hl 0 rfl) ?_
    refine lv_iload C.1 C.2.1 dL_law_670 (lv_at hl 4 rfl) ?_
    refine z_iconst C dL_law_672 ?_
    refine z_iadd C dL_law_673 ?_
    refine zd_ld C Z G q3 (x.toNat + 3) e3 (by omega) (by omega) dL_law_674 ?_
    refine lv_aload_n C.1 C.2.1 dL_law_675 rfl (lv_at hl 3 rfl) ?_
    refine zd_W (as := [.ref o, .int (iZ (q1)), .int (iZ (q2)), .int (iZ (q3)), .ref w]) C Z Y G (c_L_times_badc l hlq D cJ o a _ _ _ _ (q1) (q2) (q3) (by first | assumption | omega) (by first | assumption | omega) (by first | assumption | omega) (by first | assumption | omega) w _ _) ml_L_201 ⟨Nat.le_of_ble_eq_true rfl, Nat.le_of_ble_eq_true rfl⟩ ⟨by show cells + 0 + 1 ≤ 665281; omega, by show slots + 0 + 6 ≤ 7105636; omega⟩ hl (Nat.le_of_ble_eq_true rfl) rfl dL_law_676 (fun H locs G => ?_)
    refine lv_istore (lv' := [(5, .int (iZ (1))), (0, .ref t), (1, .ref o), (2, .ref u), (3, .ref w), (4, .int (iZ (x)))]) C.1 C.2.1 dL_law_679 hl (by decide) rfl (fun ls hl => ?_)
    refine lv_aload_n C.1 C.2.1 dL_law_681 rfl (lv_at hl 3 rfl) ?_
    refine lv_aload_n C.1 C.2.1 dL_law_682 rfl (lv_at hl 1 rfl) ?_
    refine lv_iload C.1 C.2.1 dL_law_683 (lv_at hl 5 rfl) ?_
    refine z_iconst C dL_law_685 ?_
    refine z_iadd C dL_law_686 ?_
    refine zd_ld C Z G q1 (x.toNat + 1) e1 (by omega) (by omega) dL_law_687 ?_
    refine lv_aload_n C.1 C.2.1 dL_law_688 rfl (lv_at hl 1 rfl) ?_
    refine lv_iload C.1 C.2.1 dL_law_689 (lv_at hl 5 rfl) ?_
    refine z_iconst C dL_law_691 ?_
    refine z_iadd C dL_law_692 ?_
    refine zd_ld C Z G q2 (x.toNat + 2) e2 (by omega) (by omega) dL_law_693 ?_
    refine lv_aload_n C.1 C.2.1 dL_law_694 rfl (lv_at hl 1 rfl) ?_
    refine lv_iload C.1 C.2.1 dL_law_695 (lv_at hl 5 rfl) ?_
    refine z_iconst C dL_law_697 ?_
    refine z_iadd C dL_law_698 ?_
    refine zd_ld C Z G q3 (x.toNat + 3) e3 (by omega) (by omega) dL_law_699 ?_
    refine zd_M (as := [.int (iZ (q1)), .int (iZ (q2)), .int (iZ (q3))]) C Y G (c_X5_times_bad1 l D cJ u v _ _ _ _ _ (q1) (q2) (q3) (by first | assumption | omega) (by first | assumption | omega) (by first | assumption | omega) (by first | assumption | omega)) ml_L_204 rfl ⟨Nat.le_of_ble_eq_true rfl, Nat.le_of_ble_eq_true rfl⟩ ⟨by show cells + 1 + 0 ≤ 665281; omega, by show slots + 6 + 0 ≤ 7105636; omega⟩ hl (Nat.le_of_ble_eq_true rfl) rfl dL_law_700 (fun y9 H locs hy9 G => ?_)
    subst hy9
    refine lv_istore (lv' := [(6, _), (5, .int (iZ (1))), (0, .ref t), (1, .ref o), (2, .ref u), (3, .ref w), (4, .int (iZ (x)))]) C.1 C.2.1 dL_law_703 hl (by decide) rfl (fun ls hl => ?_)
    refine lv_goto (tgt := 2172) C.1 C.2.1 dL_law_705 (by decide) ?_
    exact kk _ _ _ _ _ _ _ _ _ _ _ _ G (by omega) (by omega) (lv_sub hl [2, 3, 4, 5, 6] rfl)
set_option maxHeartbeats 4000000 in
set_option maxRecDepth 100000 in
theorem lk_9 (hlq : l.stackTraces = false) (C : CallFix p m c0 cL_law 7 s args T0 RL) (Z : zLw D cB t N g s) (Y : zAd o a u v w s) {c : Nat → Nat} {ac re kn : Int32} {th : Int} {n : Int64} {sv : Value} {H : Heap} {locs : List Loc} {ls : Array Slot} {cells slots : Nat} (G : zG D cJ o a u v w c [.int ac, .int re, .int kn] c [.int (iZ th), .int ac, .int re, .int kn] n sv s H locs) (x : Int) (hx : 0 ≤ x ∧ x + 5 ≤ (N : Int)) (hf : cells + 150 ≤ 665281 ∧ slots + 75000 ≤ 7105636) (hl : lv_has ls 7 [(0, .ref t), (1, .ref o), (2, .ref u), (3, .ref w), (4, .int (iZ (x)))])
    (kk : zNx p l e s m args below meth c0 D cJ t o a u v w x cells slots Qw 2172) : W p l e room_1 s m args below meth c0 H locs cells slots Qw (F0 m 708 ls []) := by
  have hc := G.1.2.2.2
  obtain ⟨q1, e1⟩ : ∃ z, g (x.toNat + 1) = z := ⟨_, rfl⟩
  have r1 : -2147483648 ≤ q1 ∧ q1 ≤ 2147483647 := e1 ▸ Z.2.2.2.2.2.1 _
  obtain ⟨q2, e2⟩ : ∃ z, g (x.toNat + 2) = z := ⟨_, rfl⟩
  have r2 : -2147483648 ≤ q2 ∧ q2 ≤ 2147483647 := e2 ▸ Z.2.2.2.2.2.1 _
  by_cases hcel : (0 ≤ q1 ∧ q1 ≤ 5) ∧ (0 ≤ q2 ∧ q2 ≤ 5)
  · skip
    refine lv_aload_n C.1 C.2.1 dL_law_708 rfl (lv_at hl 1 rfl) ?_
    refine lv_aload_n C.1 C.2.1 dL_law_709 rfl (lv_at hl 0 rfl) ?_
    refine lv_iload C.1 C.2.1 dL_law_710 (lv_at hl 4 rfl) ?_
    refine z_iconst C dL_law_712 ?_
    refine z_iadd C dL_law_713 ?_
    refine zd_ld C Z G q1 (x.toNat + 1) e1 (by omega) (by omega) dL_law_714 ?_
    refine lv_aload_n C.1 C.2.1 dL_law_715 rfl (lv_at hl 0 rfl) ?_
    refine lv_iload C.1 C.2.1 dL_law_716 (lv_at hl 4 rfl) ?_
    refine z_iconst C dL_law_718 ?_
    refine z_iadd C dL_law_719 ?_
    refine zd_ld C Z G q2 (x.toNat + 2) e2 (by omega) (by omega) dL_law_720 ?_
    refine lv_aload_n C.1 C.2.1 dL_law_721 rfl (lv_at hl 3 rfl) ?_
    refine zd_W (as := [.ref o, .int (iZ (q1)), .int (iZ (q2)), .ref w]) C Z Y G (c_L_square l D cJ o a _ _ _ _ (q1) (q2) (by first | assumption | omega) (by first | assumption | omega) w _ _) ml_L_205 ⟨Nat.le_of_ble_eq_true rfl, Nat.le_of_ble_eq_true rfl⟩ ⟨by show cells + 0 + 0 ≤ 665281; omega, by show slots + 0 + 0 ≤ 7105636; omega⟩ hl (Nat.le_of_ble_eq_true rfl) rfl dL_law_722 (fun H locs G => ?_)
    refine lv_istore (lv' := [(5, .int (iZ (0))), (0, .ref t), (1, .ref o), (2, .ref u), (3, .ref w), (4, .int (iZ (x)))]) C.1 C.2.1 dL_law_725 hl (by decide) rfl (fun ls hl => ?_)
    refine lv_aload_n C.1 C.2.1 dL_law_727 rfl (lv_at hl 3 rfl) ?_
    refine lv_aload_n C.1 C.2.1 dL_law_728 rfl (lv_at hl 1 rfl) ?_
    refine lv_iload C.1 C.2.1 dL_law_729 (lv_at hl 5 rfl) ?_
    refine z_iconst C dL_law_731 ?_
    refine z_iadd C dL_law_732 ?_
    refine zd_ld C Z G q1 (x.toNat + 1) e1 (by omega) (by omega) dL_law_733 ?_
    refine lv_aload_n C.1 C.2.1 dL_law_734 rfl (lv_at hl 1 rfl) ?_
    refine lv_iload C.1 C.2.1 dL_law_735 (lv_at hl 5 rfl) ?_
    refine z_iconst C dL_law_737 ?_
    refine z_iadd C dL_law_738 ?_
    refine zd_ld C Z G q2 (x.toNat + 2) e2 (by omega) (by omega) dL_law_739 ?_
    refine zd_M (as := [.int (iZ (q1)), .int (iZ (q2))]) C Y G (c_X5_square l D cJ u v _ _ _ _ _ (q1) (q2) (by first | assumption | omega) (by first | assumption | omega)) ml_L_207 rfl ⟨Nat.le_of_ble_eq_true rfl, Nat.le_of_ble_eq_true rfl⟩ ⟨by show cells + 0 + 0 ≤ 665281; omega, by show slots + 0 + 0 ≤ 7105636; omega⟩ hl (Nat.le_of_ble_eq_true rfl) rfl dL_law_740 (fun y9 H locs hy9 G => ?_)
    subst hy9
    refine lv_istore (lv' := [(6, _), (5, .int (iZ (0))), (0, .ref t), (1, .ref o), (2, .ref u), (3, .ref w), (4, .int (iZ (x)))]) C.1 C.2.1 dL_law_743 hl (by decide) rfl (fun ls hl => ?_)
    refine lv_goto (tgt := 2172) C.1 C.2.1 dL_law_745 (by decide) ?_
    exact kk _ _ _ _ _ _ _ _ _ _ _ _ G (by omega) (by omega) (lv_sub hl [2, 3, 4, 5, 6] rfl)
  · skip
    refine lv_aload_n C.1 C.2.1 dL_law_708 rfl (lv_at hl 1 rfl) ?_
    refine lv_aload_n C.1 C.2.1 dL_law_709 rfl (lv_at hl 0 rfl) ?_
    refine lv_iload C.1 C.2.1 dL_law_710 (lv_at hl 4 rfl) ?_
    refine z_iconst C dL_law_712 ?_
    refine z_iadd C dL_law_713 ?_
    refine zd_ld C Z G q1 (x.toNat + 1) e1 (by omega) (by omega) dL_law_714 ?_
    refine lv_aload_n C.1 C.2.1 dL_law_715 rfl (lv_at hl 0 rfl) ?_
    refine lv_iload C.1 C.2.1 dL_law_716 (lv_at hl 4 rfl) ?_
    refine z_iconst C dL_law_718 ?_
    refine z_iadd C dL_law_719 ?_
    refine zd_ld C Z G q2 (x.toNat + 2) e2 (by omega) (by omega) dL_law_720 ?_
    refine lv_aload_n C.1 C.2.1 dL_law_721 rfl (lv_at hl 3 rfl) ?_
    refine zd_W (as := [.ref o, .int (iZ (q1)), .int (iZ (q2)), .ref w]) C Z Y G (c_L_square_badc l hlq D cJ o a _ _ _ _ (q1) (q2) (by first | assumption | omega) (by first | assumption | omega) (by first | assumption | omega) w _ _) ml_L_205 ⟨Nat.le_of_ble_eq_true rfl, Nat.le_of_ble_eq_true rfl⟩ ⟨by show cells + 0 + 1 ≤ 665281; omega, by show slots + 0 + 6 ≤ 7105636; omega⟩ hl (Nat.le_of_ble_eq_true rfl) rfl dL_law_722 (fun H locs G => ?_)
    refine lv_istore (lv' := [(5, .int (iZ (1))), (0, .ref t), (1, .ref o), (2, .ref u), (3, .ref w), (4, .int (iZ (x)))]) C.1 C.2.1 dL_law_725 hl (by decide) rfl (fun ls hl => ?_)
    refine lv_aload_n C.1 C.2.1 dL_law_727 rfl (lv_at hl 3 rfl) ?_
    refine lv_aload_n C.1 C.2.1 dL_law_728 rfl (lv_at hl 1 rfl) ?_
    refine lv_iload C.1 C.2.1 dL_law_729 (lv_at hl 5 rfl) ?_
    refine z_iconst C dL_law_731 ?_
    refine z_iadd C dL_law_732 ?_
    refine zd_ld C Z G q1 (x.toNat + 1) e1 (by omega) (by omega) dL_law_733 ?_
    refine lv_aload_n C.1 C.2.1 dL_law_734 rfl (lv_at hl 1 rfl) ?_
    refine lv_iload C.1 C.2.1 dL_law_735 (lv_at hl 5 rfl) ?_
    refine z_iconst C dL_law_737 ?_
    refine z_iadd C dL_law_738 ?_
    refine zd_ld C Z G q2 (x.toNat + 2) e2 (by omega) (by omega) dL_law_739 ?_
    refine zd_M (as := [.int (iZ (q1)), .int (iZ (q2))]) C Y G (c_X5_square_bad1 l D cJ u v _ _ _ _ _ (q1) (q2) (by first | assumption | omega) (by first | assumption | omega) (by first | assumption | omega)) ml_L_207 rfl ⟨Nat.le_of_ble_eq_true rfl, Nat.le_of_ble_eq_true rfl⟩ ⟨by show cells + 1 + 0 ≤ 665281; omega, by show slots + 6 + 0 ≤ 7105636; omega⟩ hl (Nat.le_of_ble_eq_true rfl) rfl dL_law_740 (fun y9 H locs hy9 G => ?_)
    subst hy9
    refine lv_istore (lv' := [(6, _), (5, .int (iZ (1))), (0, .ref t), (1, .ref o), (2, .ref u), (3, .ref w), (4, .int (iZ (x)))]) C.1 C.2.1 dL_law_743 hl (by decide) rfl (fun ls hl => ?_)
    refine lv_goto (tgt := 2172) C.1 C.2.1 dL_law_745 (by decide) ?_
    exact kk _ _ _ _ _ _ _ _ _ _ _ _ G (by omega) (by omega) (lv_sub hl [2, 3, 4, 5, 6] rfl)
set_option maxHeartbeats 4000000 in
set_option maxRecDepth 100000 in
theorem lk_10 (hlq : l.stackTraces = false) (C : CallFix p m c0 cL_law 7 s args T0 RL) (Z : zLw D cB t N g s) (Y : zAd o a u v w s) {c : Nat → Nat} {ac re kn : Int32} {th : Int} {n : Int64} {sv : Value} {H : Heap} {locs : List Loc} {ls : Array Slot} {cells slots : Nat} (G : zG D cJ o a u v w c [.int ac, .int re, .int kn] c [.int (iZ th), .int ac, .int re, .int kn] n sv s H locs) (x : Int) (hx : 0 ≤ x ∧ x + 5 ≤ (N : Int)) (hf : cells + 150 ≤ 665281 ∧ slots + 75000 ≤ 7105636) (hl : lv_has ls 7 [(0, .ref t), (1, .ref o), (2, .ref u), (3, .ref w), (4, .int (iZ (x)))])
    (kk : zNx p l e s m args below meth c0 D cJ t o a u v w x cells slots Qw 2172) : W p l e room_1 s m args below meth c0 H locs cells slots Qw (F0 m 748 ls []) := by
  have hc := G.1.2.2.2
  obtain ⟨q1, e1⟩ : ∃ z, g (x.toNat + 1) = z := ⟨_, rfl⟩
  have r1 : -2147483648 ≤ q1 ∧ q1 ≤ 2147483647 := e1 ▸ Z.2.2.2.2.2.1 _
  obtain ⟨q2, e2⟩ : ∃ z, g (x.toNat + 2) = z := ⟨_, rfl⟩
  have r2 : -2147483648 ≤ q2 ∧ q2 ≤ 2147483647 := e2 ▸ Z.2.2.2.2.2.1 _
  obtain ⟨q3, e3⟩ : ∃ z, g (x.toNat + 3) = z := ⟨_, rfl⟩
  have r3 : -2147483648 ≤ q3 ∧ q3 ≤ 2147483647 := e3 ▸ Z.2.2.2.2.2.1 _
  by_cases hcel : (0 ≤ q1 ∧ q1 ≤ 5) ∧ (0 ≤ q3 ∧ q3 ≤ 5)
  · skip
    by_cases hrng : (-32 ≤ q2 ∧ q2 ≤ 32)
    · skip
      refine lv_aload_n C.1 C.2.1 dL_law_748 rfl (lv_at hl 1 rfl) ?_
      refine lv_aload_n C.1 C.2.1 dL_law_749 rfl (lv_at hl 0 rfl) ?_
      refine lv_iload C.1 C.2.1 dL_law_750 (lv_at hl 4 rfl) ?_
      refine z_iconst C dL_law_752 ?_
      refine z_iadd C dL_law_753 ?_
      refine zd_ld C Z G q1 (x.toNat + 1) e1 (by omega) (by omega) dL_law_754 ?_
      refine lv_aload_n C.1 C.2.1 dL_law_755 rfl (lv_at hl 0 rfl) ?_
      refine lv_iload C.1 C.2.1 dL_law_756 (lv_at hl 4 rfl) ?_
      refine z_iconst C dL_law_758 ?_
      refine z_iadd C dL_law_759 ?_
      refine zd_ld C Z G q2 (x.toNat + 2) e2 (by omega) (by omega) dL_law_760 ?_
      refine lv_aload_n C.1 C.2.1 dL_law_761 rfl (lv_at hl 0 rfl) ?_
      refine lv_iload C.1 C.2.1 dL_law_762 (lv_at hl 4 rfl) ?_
      refine z_iconst C dL_law_764 ?_
      refine z_iadd C dL_law_765 ?_
      refine zd_ld C Z G q3 (x.toNat + 3) e3 (by omega) (by omega) dL_law_766 ?_
      refine lv_aload_n C.1 C.2.1 dL_law_767 rfl (lv_at hl 3 rfl) ?_
      refine zd_W (as := [.ref o, .int (iZ (q1)), .int (iZ (q2)), .int (iZ (q3)), .ref w]) C Z Y G (c_L_shift l D cJ o a _ _ _ _ (q1) (q2) (q3) (by first | assumption | omega) (by first | assumption | omega) (by first | assumption | omega) w _ _) ml_L_208 ⟨Nat.le_of_ble_eq_true rfl, Nat.le_of_ble_eq_true rfl⟩ ⟨by show cells + 0 + 0 ≤ 665281; omega, by show slots + 0 + 0 ≤ 7105636; omega⟩ hl (Nat.le_of_ble_eq_true rfl) rfl dL_law_768 (fun H locs G => ?_)
      refine lv_istore (lv' := [(5, .int (iZ (0))), (0, .ref t), (1, .ref o), (2, .ref u), (3, .ref w), (4, .int (iZ (x)))]) C.1 C.2.1 dL_law_771 hl (by decide) rfl (fun ls hl => ?_)
      refine lv_aload_n C.1 C.2.1 dL_law_773 rfl (lv_at hl 3 rfl) ?_
      refine lv_aload_n C.1 C.2.1 dL_law_774 rfl (lv_at hl 1 rfl) ?_
      refine lv_iload C.1 C.2.1 dL_law_775 (lv_at hl 5 rfl) ?_
      refine z_iconst C dL_law_777 ?_
      refine z_iadd C dL_law_778 ?_
      refine zd_ld C Z G q1 (x.toNat + 1) e1 (by omega) (by omega) dL_law_779 ?_
      refine lv_aload_n C.1 C.2.1 dL_law_780 rfl (lv_at hl 1 rfl) ?_
      refine lv_iload C.1 C.2.1 dL_law_781 (lv_at hl 5 rfl) ?_
      refine z_iconst C dL_law_783 ?_
      refine z_iadd C dL_law_784 ?_
      refine zd_ld C Z G q2 (x.toNat + 2) e2 (by omega) (by omega) dL_law_785 ?_
      refine lv_aload_n C.1 C.2.1 dL_law_786 rfl (lv_at hl 1 rfl) ?_
      refine lv_iload C.1 C.2.1 dL_law_787 (lv_at hl 5 rfl) ?_
      refine z_iconst C dL_law_789 ?_
      refine z_iadd C dL_law_790 ?_
      refine zd_ld C Z G q3 (x.toNat + 3) e3 (by omega) (by omega) dL_law_791 ?_
      refine zd_M (as := [.int (iZ (q1)), .int (iZ (q2)), .int (iZ (q3))]) C Y G (c_X5_shift l D cJ u v _ _ _ _ _ (q1) (q2) (q3) (by first | assumption | omega) (by first | assumption | omega) (by first | assumption | omega)) ml_L_210 rfl ⟨Nat.le_of_ble_eq_true rfl, Nat.le_of_ble_eq_true rfl⟩ ⟨by show cells + 0 + 0 ≤ 665281; omega, by show slots + 0 + 0 ≤ 7105636; omega⟩ hl (Nat.le_of_ble_eq_true rfl) rfl dL_law_792 (fun y9 H locs hy9 G => ?_)
      subst hy9
      refine lv_istore (lv' := [(6, _), (5, .int (iZ (0))), (0, .ref t), (1, .ref o), (2, .ref u), (3, .ref w), (4, .int (iZ (x)))]) C.1 C.2.1 dL_law_795 hl (by decide) rfl (fun ls hl => ?_)
      refine lv_goto (tgt := 2172) C.1 C.2.1 dL_law_797 (by decide) ?_
      exact kk _ _ _ _ _ _ _ _ _ _ _ _ G (by omega) (by omega) (lv_sub hl [2, 3, 4, 5, 6] rfl)
    · skip
      refine lv_aload_n C.1 C.2.1 dL_law_748 rfl (lv_at hl 1 rfl) ?_
      refine lv_aload_n C.1 C.2.1 dL_law_749 rfl (lv_at hl 0 rfl) ?_
      refine lv_iload C.1 C.2.1 dL_law_750 (lv_at hl 4 rfl) ?_
      refine z_iconst C dL_law_752 ?_
      refine z_iadd C dL_law_753 ?_
      refine zd_ld C Z G q1 (x.toNat + 1) e1 (by omega) (by omega) dL_law_754 ?_
      refine lv_aload_n C.1 C.2.1 dL_law_755 rfl (lv_at hl 0 rfl) ?_
      refine lv_iload C.1 C.2.1 dL_law_756 (lv_at hl 4 rfl) ?_
      refine z_iconst C dL_law_758 ?_
      refine z_iadd C dL_law_759 ?_
      refine zd_ld C Z G q2 (x.toNat + 2) e2 (by omega) (by omega) dL_law_760 ?_
      refine lv_aload_n C.1 C.2.1 dL_law_761 rfl (lv_at hl 0 rfl) ?_
      refine lv_iload C.1 C.2.1 dL_law_762 (lv_at hl 4 rfl) ?_
      refine z_iconst C dL_law_764 ?_
      refine z_iadd C dL_law_765 ?_
      refine zd_ld C Z G q3 (x.toNat + 3) e3 (by omega) (by omega) dL_law_766 ?_
      refine lv_aload_n C.1 C.2.1 dL_law_767 rfl (lv_at hl 3 rfl) ?_
      refine zd_W (as := [.ref o, .int (iZ (q1)), .int (iZ (q2)), .int (iZ (q3)), .ref w]) C Z Y G (c_L_shift_badr l hlq D cJ o a _ _ _ _ (q1) (q2) (q3) (by first | assumption | omega) (by first | assumption | omega) (by first | assumption | omega) (by first | assumption | omega) (by first | assumption | omega) (by first | assumption | omega) w _ _) ml_L_208 ⟨Nat.le_of_ble_eq_true rfl, Nat.le_of_ble_eq_true rfl⟩ ⟨by show cells + 0 + 1 ≤ 665281; omega, by show slots + 0 + 6 ≤ 7105636; omega⟩ hl (Nat.le_of_ble_eq_true rfl) rfl dL_law_768 (fun H locs G => ?_)
      refine lv_istore (lv' := [(5, .int (iZ (2))), (0, .ref t), (1, .ref o), (2, .ref u), (3, .ref w), (4, .int (iZ (x)))]) C.1 C.2.1 dL_law_771 hl (by decide) rfl (fun ls hl => ?_)
      refine lv_aload_n C.1 C.2.1 dL_law_773 rfl (lv_at hl 3 rfl) ?_
      refine lv_aload_n C.1 C.2.1 dL_law_774 rfl (lv_at hl 1 rfl) ?_
      refine lv_iload C.1 C.2.1 dL_law_775 (lv_at hl 5 rfl) ?_
      refine z_iconst C dL_law_777 ?_
      refine z_iadd C dL_law_778 ?_
      refine zd_ld C Z G q1 (x.toNat + 1) e1 (by omega) (by omega) dL_law_779 ?_
      refine lv_aload_n C.1 C.2.1 dL_law_780 rfl (lv_at hl 1 rfl) ?_
      refine lv_iload C.1 C.2.1 dL_law_781 (lv_at hl 5 rfl) ?_
      refine z_iconst C dL_law_783 ?_
      refine z_iadd C dL_law_784 ?_
      refine zd_ld C Z G q2 (x.toNat + 2) e2 (by omega) (by omega) dL_law_785 ?_
      refine lv_aload_n C.1 C.2.1 dL_law_786 rfl (lv_at hl 1 rfl) ?_
      refine lv_iload C.1 C.2.1 dL_law_787 (lv_at hl 5 rfl) ?_
      refine z_iconst C dL_law_789 ?_
      refine z_iadd C dL_law_790 ?_
      refine zd_ld C Z G q3 (x.toNat + 3) e3 (by omega) (by omega) dL_law_791 ?_
      refine zd_M (as := [.int (iZ (q1)), .int (iZ (q2)), .int (iZ (q3))]) C Y G (c_X5_shift_bad2 l D cJ u v _ _ _ _ _ (q1) (q2) (q3) (by first | assumption | omega) (by first | assumption | omega) (by first | assumption | omega) (by first | assumption | omega) (by first | assumption | omega)) ml_L_210 rfl ⟨Nat.le_of_ble_eq_true rfl, Nat.le_of_ble_eq_true rfl⟩ ⟨by show cells + 1 + 0 ≤ 665281; omega, by show slots + 6 + 0 ≤ 7105636; omega⟩ hl (Nat.le_of_ble_eq_true rfl) rfl dL_law_792 (fun y9 H locs hy9 G => ?_)
      subst hy9
      refine lv_istore (lv' := [(6, _), (5, .int (iZ (2))), (0, .ref t), (1, .ref o), (2, .ref u), (3, .ref w), (4, .int (iZ (x)))]) C.1 C.2.1 dL_law_795 hl (by decide) rfl (fun ls hl => ?_)
      refine lv_goto (tgt := 2172) C.1 C.2.1 dL_law_797 (by decide) ?_
      exact kk _ _ _ _ _ _ _ _ _ _ _ _ G (by omega) (by omega) (lv_sub hl [2, 3, 4, 5, 6] rfl)
  · skip
    refine lv_aload_n C.1 C.2.1 dL_law_748 rfl (lv_at hl 1 rfl) ?_
    refine lv_aload_n C.1 C.2.1 dL_law_749 rfl (lv_at hl 0 rfl) ?_
    refine lv_iload C.1 C.2.1 dL_law_750 (lv_at hl 4 rfl) ?_
    refine z_iconst C dL_law_752 ?_
    refine z_iadd C dL_law_753 ?_
    refine zd_ld C Z G q1 (x.toNat + 1) e1 (by omega) (by omega) dL_law_754 ?_
    refine lv_aload_n C.1 C.2.1 dL_law_755 rfl (lv_at hl 0 rfl) ?_
    refine lv_iload C.1 C.2.1 dL_law_756 (lv_at hl 4 rfl) ?_
    refine z_iconst C dL_law_758 ?_
    refine z_iadd C dL_law_759 ?_
    refine zd_ld C Z G q2 (x.toNat + 2) e2 (by omega) (by omega) dL_law_760 ?_
    refine lv_aload_n C.1 C.2.1 dL_law_761 rfl (lv_at hl 0 rfl) ?_
    refine lv_iload C.1 C.2.1 dL_law_762 (lv_at hl 4 rfl) ?_
    refine z_iconst C dL_law_764 ?_
    refine z_iadd C dL_law_765 ?_
    refine zd_ld C Z G q3 (x.toNat + 3) e3 (by omega) (by omega) dL_law_766 ?_
    refine lv_aload_n C.1 C.2.1 dL_law_767 rfl (lv_at hl 3 rfl) ?_
    refine zd_W (as := [.ref o, .int (iZ (q1)), .int (iZ (q2)), .int (iZ (q3)), .ref w]) C Z Y G (c_L_shift_badc l hlq D cJ o a _ _ _ _ (q1) (q2) (q3) (by first | assumption | omega) (by first | assumption | omega) (by first | assumption | omega) (by first | assumption | omega) w _ _) ml_L_208 ⟨Nat.le_of_ble_eq_true rfl, Nat.le_of_ble_eq_true rfl⟩ ⟨by show cells + 0 + 1 ≤ 665281; omega, by show slots + 0 + 6 ≤ 7105636; omega⟩ hl (Nat.le_of_ble_eq_true rfl) rfl dL_law_768 (fun H locs G => ?_)
    refine lv_istore (lv' := [(5, .int (iZ (1))), (0, .ref t), (1, .ref o), (2, .ref u), (3, .ref w), (4, .int (iZ (x)))]) C.1 C.2.1 dL_law_771 hl (by decide) rfl (fun ls hl => ?_)
    refine lv_aload_n C.1 C.2.1 dL_law_773 rfl (lv_at hl 3 rfl) ?_
    refine lv_aload_n C.1 C.2.1 dL_law_774 rfl (lv_at hl 1 rfl) ?_
    refine lv_iload C.1 C.2.1 dL_law_775 (lv_at hl 5 rfl) ?_
    refine z_iconst C dL_law_777 ?_
    refine z_iadd C dL_law_778 ?_
    refine zd_ld C Z G q1 (x.toNat + 1) e1 (by omega) (by omega) dL_law_779 ?_
    refine lv_aload_n C.1 C.2.1 dL_law_780 rfl (lv_at hl 1 rfl) ?_
    refine lv_iload C.1 C.2.1 dL_law_781 (lv_at hl 5 rfl) ?_
    refine z_iconst C dL_law_783 ?_
    refine z_iadd C dL_law_784 ?_
    refine zd_ld C Z G q2 (x.toNat + 2) e2 (by omega) (by omega) dL_law_785 ?_
    refine lv_aload_n C.1 C.2.1 dL_law_786 rfl (lv_at hl 1 rfl) ?_
    refine lv_iload C.1 C.2.1 dL_law_787 (lv_at hl 5 rfl) ?_
    refine z_iconst C dL_law_789 ?_
    refine z_iadd C dL_law_790 ?_
    refine zd_ld C Z G q3 (x.toNat + 3) e3 (by omega) (by omega) dL_law_791 ?_
    refine zd_M (as := [.int (iZ (q1)), .int (iZ (q2)), .int (iZ (q3))]) C Y G (c_X5_shift_bad1 l D cJ u v _ _ _ _ _ (q1) (q2) (q3) (by first | assumption | omega) (by first | assumption | omega) (by first | assumption | omega) (by first | assumption | omega)) ml_L_210 rfl ⟨Nat.le_of_ble_eq_true rfl, Nat.le_of_ble_eq_true rfl⟩ ⟨by show cells + 1 + 0 ≤ 665281; omega, by show slots + 6 + 0 ≤ 7105636; omega⟩ hl (Nat.le_of_ble_eq_true rfl) rfl dL_law_792 (fun y9 H locs hy9 G => ?_)
    subst hy9
    refine lv_istore (lv' := [(6, _), (5, .int (iZ (1))), (0, .ref t), (1, .ref o), (2, .ref u), (3, .ref w), (4, .int (iZ (x)))]) C.1 C.2.1 dL_law_795 hl (by decide) rfl (fun ls hl => ?_)
    refine lv_goto (tgt := 2172) C.1 C.2.1 dL_law_797 (by decide) ?_
    exact kk _ _ _ _ _ _ _ _ _ _ _ _ G (by omega) (by omega) (lv_sub hl [2, 3, 4, 5, 6] rfl)
set_option maxHeartbeats 4000000 in
set_option maxRecDepth 100000 in
theorem lk_11 (hlq : l.stackTraces = false) (C : CallFix p m c0 cL_law 7 s args T0 RL) (Z : zLw D cB t N g s) (Y : zAd o a u v w s) {c : Nat → Nat} {ac re kn : Int32} {th : Int} {n : Int64} {sv : Value} {H : Heap} {locs : List Loc} {ls : Array Slot} {cells slots : Nat} (G : zG D cJ o a u v w c [.int ac, .int re, .int kn] c [.int (iZ th), .int ac, .int re, .int kn] n sv s H locs) (x : Int) (hx : 0 ≤ x ∧ x + 5 ≤ (N : Int)) (hf : cells + 150 ≤ 665281 ∧ slots + 75000 ≤ 7105636) (hl : lv_has ls 7 [(0, .ref t), (1, .ref o), (2, .ref u), (3, .ref w), (4, .int (iZ (x)))])
    (kk : zNx p l e s m args below meth c0 D cJ t o a u v w x cells slots Qw 2172) : W p l e room_1 s m args below meth c0 H locs cells slots Qw (F0 m 800 ls []) := by
  have hc := G.1.2.2.2
  obtain ⟨q1, e1⟩ : ∃ z, g (x.toNat + 1) = z := ⟨_, rfl⟩
  have r1 : -2147483648 ≤ q1 ∧ q1 ≤ 2147483647 := e1 ▸ Z.2.2.2.2.2.1 _
  obtain ⟨q2, e2⟩ : ∃ z, g (x.toNat + 2) = z := ⟨_, rfl⟩
  have r2 : -2147483648 ≤ q2 ∧ q2 ≤ 2147483647 := e2 ▸ Z.2.2.2.2.2.1 _
  obtain ⟨q3, e3⟩ : ∃ z, g (x.toNat + 3) = z := ⟨_, rfl⟩
  have r3 : -2147483648 ≤ q3 ∧ q3 ≤ 2147483647 := e3 ▸ Z.2.2.2.2.2.1 _
  by_cases hcel : (0 ≤ q1 ∧ q1 ≤ 5) ∧ (0 ≤ q2 ∧ q2 ≤ 5) ∧ (0 ≤ q3 ∧ q3 ≤ 5)
  · skip
    refine lv_aload_n C.1 C.2.1 dL_law_800 rfl (lv_at hl 1 rfl) ?_
    refine lv_aload_n C.1 C.2.1 dL_law_801 rfl (lv_at hl 0 rfl) ?_
    refine lv_iload C.1 C.2.1 dL_law_802 (lv_at hl 4 rfl) ?_
    refine z_iconst C dL_law_804 ?_
    refine z_iadd C dL_law_805 ?_
    refine zd_ld C Z G q1 (x.toNat + 1) e1 (by omega) (by omega) dL_law_806 ?_
    refine lv_aload_n C.1 C.2.1 dL_law_807 rfl (lv_at hl 0 rfl) ?_
    refine lv_iload C.1 C.2.1 dL_law_808 (lv_at hl 4 rfl) ?_
    refine z_iconst C dL_law_810 ?_
    refine z_iadd C dL_law_811 ?_
    refine zd_ld C Z G q2 (x.toNat + 2) e2 (by omega) (by omega) dL_law_812 ?_
    refine lv_aload_n C.1 C.2.1 dL_law_813 rfl (lv_at hl 0 rfl) ?_
    refine lv_iload C.1 C.2.1 dL_law_814 (lv_at hl 4 rfl) ?_
    refine z_iconst C dL_law_816 ?_
    refine z_iadd C dL_law_817 ?_
    refine zd_ld C Z G q3 (x.toNat + 3) e3 (by omega) (by omega) dL_law_818 ?_
    refine lv_aload_n C.1 C.2.1 dL_law_819 rfl (lv_at hl 3 rfl) ?_
    refine zd_W (as := [.ref o, .int (iZ (q1)), .int (iZ (q2)), .int (iZ (q3)), .ref w]) C Z Y G (c_L_quotient l D cJ o a _ _ _ _ (q1) (q2) (q3) (by first | assumption | omega) (by first | assumption | omega) (by first | assumption | omega) w _ _) ml_L_211 ⟨Nat.le_of_ble_eq_true rfl, Nat.le_of_ble_eq_true rfl⟩ ⟨by show cells + 0 + 0 ≤ 665281; omega, by show slots + 0 + 0 ≤ 7105636; omega⟩ hl (Nat.le_of_ble_eq_true rfl) rfl dL_law_820 (fun H locs G => ?_)
    refine lv_istore (lv' := [(5, .int (iZ (0))), (0, .ref t), (1, .ref o), (2, .ref u), (3, .ref w), (4, .int (iZ (x)))]) C.1 C.2.1 dL_law_823 hl (by decide) rfl (fun ls hl => ?_)
    refine lv_aload_n C.1 C.2.1 dL_law_825 rfl (lv_at hl 3 rfl) ?_
    refine lv_aload_n C.1 C.2.1 dL_law_826 rfl (lv_at hl 1 rfl) ?_
    refine lv_iload C.1 C.2.1 dL_law_827 (lv_at hl 5 rfl) ?_
    refine z_iconst C dL_law_829 ?_
    refine z_iadd C dL_law_830 ?_
    refine zd_ld C Z G q1 (x.toNat + 1) e1 (by omega) (by omega) dL_law_831 ?_
    refine lv_aload_n C.1 C.2.1 dL_law_832 rfl (lv_at hl 1 rfl) ?_
    refine lv_iload C.1 C.2.1 dL_law_833 (lv_at hl 5 rfl) ?_
    refine z_iconst C dL_law_835 ?_
    refine z_iadd C dL_law_836 ?_
    refine zd_ld C Z G q2 (x.toNat + 2) e2 (by omega) (by omega) dL_law_837 ?_
    refine lv_aload_n C.1 C.2.1 dL_law_838 rfl (lv_at hl 1 rfl) ?_
    refine lv_iload C.1 C.2.1 dL_law_839 (lv_at hl 5 rfl) ?_
    refine z_iconst C dL_law_841 ?_
    refine z_iadd C dL_law_842 ?_
    refine zd_ld C Z G q3 (x.toNat + 3) e3 (by omega) (by omega) dL_law_843 ?_
    refine zd_M (as := [.int (iZ (q1)), .int (iZ (q2)), .int (iZ (q3))]) C Y G (c_X5_quotient l D cJ u v _ _ _ _ _ (q1) (q2) (q3) (by first | assumption | omega) (by first | assumption | omega) (by first | assumption | omega)) ml_L_213 rfl ⟨Nat.le_of_ble_eq_true rfl, Nat.le_of_ble_eq_true rfl⟩ ⟨by show cells + 0 + 0 ≤ 665281; omega, by show slots + 0 + 0 ≤ 7105636; omega⟩ hl (Nat.le_of_ble_eq_true rfl) rfl dL_law_844 (fun y9 H locs hy9 G => ?_)
    subst hy9
    refine lv_istore (lv' := [(6, _), (5, .int (iZ (0))), (0, .ref t), (1, .ref o), (2, .ref u), (3, .ref w), (4, .int (iZ (x)))]) C.1 C.2.1 dL_law_847 hl (by decide) rfl (fun ls hl => ?_)
    refine lv_goto (tgt := 2172) C.1 C.2.1 dL_law_849 (by decide) ?_
    exact kk _ _ _ _ _ _ _ _ _ _ _ _ G (by omega) (by omega) (lv_sub hl [2, 3, 4, 5, 6] rfl)
  · skip
    refine lv_aload_n C.1 C.2.1 dL_law_800 rfl (lv_at hl 1 rfl) ?_
    refine lv_aload_n C.1 C.2.1 dL_law_801 rfl (lv_at hl 0 rfl) ?_
    refine lv_iload C.1 C.2.1 dL_law_802 (lv_at hl 4 rfl) ?_
    refine z_iconst C dL_law_804 ?_
    refine z_iadd C dL_law_805 ?_
    refine zd_ld C Z G q1 (x.toNat + 1) e1 (by omega) (by omega) dL_law_806 ?_
    refine lv_aload_n C.1 C.2.1 dL_law_807 rfl (lv_at hl 0 rfl) ?_
    refine lv_iload C.1 C.2.1 dL_law_808 (lv_at hl 4 rfl) ?_
    refine z_iconst C dL_law_810 ?_
    refine z_iadd C dL_law_811 ?_
    refine zd_ld C Z G q2 (x.toNat + 2) e2 (by omega) (by omega) dL_law_812 ?_
    refine lv_aload_n C.1 C.2.1 dL_law_813 rfl (lv_at hl 0 rfl) ?_
    refine lv_iload C.1 C.2.1 dL_law_814 (lv_at hl 4 rfl) ?_
    refine z_iconst C dL_law_816 ?_
    refine z_iadd C dL_law_817 ?_
    refine zd_ld C Z G q3 (x.toNat + 3) e3 (by omega) (by omega) dL_law_818 ?_
    refine lv_aload_n C.1 C.2.1 dL_law_819 rfl (lv_at hl 3 rfl) ?_
    refine zd_W (as := [.ref o, .int (iZ (q1)), .int (iZ (q2)), .int (iZ (q3)), .ref w]) C Z Y G (c_L_quotient_badc l hlq D cJ o a _ _ _ _ (q1) (q2) (q3) (by first | assumption | omega) (by first | assumption | omega) (by first | assumption | omega) (by first | assumption | omega) w _ _) ml_L_211 ⟨Nat.le_of_ble_eq_true rfl, Nat.le_of_ble_eq_true rfl⟩ ⟨by show cells + 0 + 1 ≤ 665281; omega, by show slots + 0 + 6 ≤ 7105636; omega⟩ hl (Nat.le_of_ble_eq_true rfl) rfl dL_law_820 (fun H locs G => ?_)
    refine lv_istore (lv' := [(5, .int (iZ (1))), (0, .ref t), (1, .ref o), (2, .ref u), (3, .ref w), (4, .int (iZ (x)))]) C.1 C.2.1 dL_law_823 hl (by decide) rfl (fun ls hl => ?_)
    refine lv_aload_n C.1 C.2.1 dL_law_825 rfl (lv_at hl 3 rfl) ?_
    refine lv_aload_n C.1 C.2.1 dL_law_826 rfl (lv_at hl 1 rfl) ?_
    refine lv_iload C.1 C.2.1 dL_law_827 (lv_at hl 5 rfl) ?_
    refine z_iconst C dL_law_829 ?_
    refine z_iadd C dL_law_830 ?_
    refine zd_ld C Z G q1 (x.toNat + 1) e1 (by omega) (by omega) dL_law_831 ?_
    refine lv_aload_n C.1 C.2.1 dL_law_832 rfl (lv_at hl 1 rfl) ?_
    refine lv_iload C.1 C.2.1 dL_law_833 (lv_at hl 5 rfl) ?_
    refine z_iconst C dL_law_835 ?_
    refine z_iadd C dL_law_836 ?_
    refine zd_ld C Z G q2 (x.toNat + 2) e2 (by omega) (by omega) dL_law_837 ?_
    refine lv_aload_n C.1 C.2.1 dL_law_838 rfl (lv_at hl 1 rfl) ?_
    refine lv_iload C.1 C.2.1 dL_law_839 (lv_at hl 5 rfl) ?_
    refine z_iconst C dL_law_841 ?_
    refine z_iadd C dL_law_842 ?_
    refine zd_ld C Z G q3 (x.toNat + 3) e3 (by omega) (by omega) dL_law_843 ?_
    refine zd_M (as := [.int (iZ (q1)), .int (iZ (q2)), .int (iZ (q3))]) C Y G (c_X5_quotient_bad1 l D cJ u v _ _ _ _ _ (q1) (q2) (q3) (by first | assumption | omega) (by first | assumption | omega) (by first | assumption | omega) (by first | assumption | omega)) ml_L_213 rfl ⟨Nat.le_of_ble_eq_true rfl, Nat.le_of_ble_eq_true rfl⟩ ⟨by show cells + 1 + 0 ≤ 665281; omega, by show slots + 6 + 0 ≤ 7105636; omega⟩ hl (Nat.le_of_ble_eq_true rfl) rfl dL_law_844 (fun y9 H locs hy9 G => ?_)
    subst hy9
    refine lv_istore (lv' := [(6, _), (5, .int (iZ (1))), (0, .ref t), (1, .ref o), (2, .ref u), (3, .ref w), (4, .int (iZ (x)))]) C.1 C.2.1 dL_law_847 hl (by decide) rfl (fun ls hl => ?_)
    refine lv_goto (tgt := 2172) C.1 C.2.1 dL_law_849 (by decide) ?_
    exact kk _ _ _ _ _ _ _ _ _ _ _ _ G (by omega) (by omega) (lv_sub hl [2, 3, 4, 5, 6] rfl)
set_option maxHeartbeats 4000000 in
set_option maxRecDepth 100000 in
theorem lk_12 (hlq : l.stackTraces = false) (C : CallFix p m c0 cL_law 7 s args T0 RL) (Z : zLw D cB t N g s) (Y : zAd o a u v w s) {c : Nat → Nat} {ac re kn : Int32} {th : Int} {n : Int64} {sv : Value} {H : Heap} {locs : List Loc} {ls : Array Slot} {cells slots : Nat} (G : zG D cJ o a u v w c [.int ac, .int re, .int kn] c [.int (iZ th), .int ac, .int re, .int kn] n sv s H locs) (x : Int) (hx : 0 ≤ x ∧ x + 5 ≤ (N : Int)) (hf : cells + 150 ≤ 665281 ∧ slots + 75000 ≤ 7105636) (hl : lv_has ls 7 [(0, .ref t), (1, .ref o), (2, .ref u), (3, .ref w), (4, .int (iZ (x)))])
    (kk : zNx p l e s m args below meth c0 D cJ t o a u v w x cells slots Qw 2172) : W p l e room_1 s m args below meth c0 H locs cells slots Qw (F0 m 852 ls []) := by
  have hc := G.1.2.2.2
  obtain ⟨q1, e1⟩ : ∃ z, g (x.toNat + 1) = z := ⟨_, rfl⟩
  have r1 : -2147483648 ≤ q1 ∧ q1 ≤ 2147483647 := e1 ▸ Z.2.2.2.2.2.1 _
  obtain ⟨q2, e2⟩ : ∃ z, g (x.toNat + 2) = z := ⟨_, rfl⟩
  have r2 : -2147483648 ≤ q2 ∧ q2 ≤ 2147483647 := e2 ▸ Z.2.2.2.2.2.1 _
  obtain ⟨q3, e3⟩ : ∃ z, g (x.toNat + 3) = z := ⟨_, rfl⟩
  have r3 : -2147483648 ≤ q3 ∧ q3 ≤ 2147483647 := e3 ▸ Z.2.2.2.2.2.1 _
  by_cases hcel : (0 ≤ q1 ∧ q1 ≤ 5) ∧ (0 ≤ q2 ∧ q2 ≤ 5) ∧ (0 ≤ q3 ∧ q3 ≤ 5)
  · skip
    refine lv_aload_n C.1 C.2.1 dL_law_852 rfl (lv_at hl 1 rfl) ?_
    refine lv_aload_n C.1 C.2.1 dL_law_853 rfl (lv_at hl 0 rfl) ?_
    refine lv_iload C.1 C.2.1 dL_law_854 (lv_at hl 4 rfl) ?_
    refine z_iconst C dL_law_856 ?_
    refine z_iadd C dL_law_857 ?_
    refine zd_ld C Z G q1 (x.toNat + 1) e1 (by omega) (by omega) dL_law_858 ?_
    refine lv_aload_n C.1 C.2.1 dL_law_859 rfl (lv_at hl 0 rfl) ?_
    refine lv_iload C.1 C.2.1 dL_law_860 (lv_at hl 4 rfl) ?_
    refine z_iconst C dL_law_862 ?_
    refine z_iadd C dL_law_863 ?_
    refine zd_ld C Z G q2 (x.toNat + 2) e2 (by omega) (by omega) dL_law_864 ?_
    refine lv_aload_n C.1 C.2.1 dL_law_865 rfl (lv_at hl 0 rfl) ?_
    refine lv_iload C.1 C.2.1 dL_law_866 (lv_at hl 4 rfl) ?_
    refine z_iconst C dL_law_868 ?_
    refine z_iadd C dL_law_869 ?_
    refine zd_ld C Z G q3 (x.toNat + 3) e3 (by omega) (by omega) dL_law_870 ?_
    refine lv_aload_n C.1 C.2.1 dL_law_871 rfl (lv_at hl 3 rfl) ?_
    refine zd_W (as := [.ref o, .int (iZ (q1)), .int (iZ (q2)), .int (iZ (q3)), .ref w]) C Z Y G (c_L_rest l D cJ o a _ _ _ _ (q1) (q2) (q3) (by first | assumption | omega) (by first | assumption | omega) (by first | assumption | omega) w _ _) ml_L_214 ⟨Nat.le_of_ble_eq_true rfl, Nat.le_of_ble_eq_true rfl⟩ ⟨by show cells + 0 + 0 ≤ 665281; omega, by show slots + 0 + 0 ≤ 7105636; omega⟩ hl (Nat.le_of_ble_eq_true rfl) rfl dL_law_872 (fun H locs G => ?_)
    refine lv_istore (lv' := [(5, .int (iZ (0))), (0, .ref t), (1, .ref o), (2, .ref u), (3, .ref w), (4, .int (iZ (x)))]) C.1 C.2.1 dL_law_875 hl (by decide) rfl (fun ls hl => ?_)
    refine lv_aload_n C.1 C.2.1 dL_law_877 rfl (lv_at hl 3 rfl) ?_
    refine lv_aload_n C.1 C.2.1 dL_law_878 rfl (lv_at hl 1 rfl) ?_
    refine lv_iload C.1 C.2.1 dL_law_879 (lv_at hl 5 rfl) ?_
    refine z_iconst C dL_law_881 ?_
    refine z_iadd C dL_law_882 ?_
    refine zd_ld C Z G q1 (x.toNat + 1) e1 (by omega) (by omega) dL_law_883 ?_
    refine lv_aload_n C.1 C.2.1 dL_law_884 rfl (lv_at hl 1 rfl) ?_
    refine lv_iload C.1 C.2.1 dL_law_885 (lv_at hl 5 rfl) ?_
    refine z_iconst C dL_law_887 ?_
    refine z_iadd C dL_law_888 ?_
    refine zd_ld C Z G q2 (x.toNat + 2) e2 (by omega) (by omega) dL_law_889 ?_
    refine lv_aload_n C.1 C.2.1 dL_law_890 rfl (lv_at hl 1 rfl) ?_
    refine lv_iload C.1 C.2.1 dL_law_891 (lv_at hl 5 rfl) ?_
    refine z_iconst C dL_law_893 ?_
    refine z_iadd C dL_law_894 ?_
    refine zd_ld C Z G q3 (x.toNat + 3) e3 (by omega) (by omega) dL_law_895 ?_
    refine zd_M (as := [.int (iZ (q1)), .int (iZ (q2)), .int (iZ (q3))]) C Y G (c_X5_rest l D cJ u v _ _ _ _ _ (q1) (q2) (q3) (by first | assumption | omega) (by first | assumption | omega) (by first | assumption | omega)) ml_L_216 rfl ⟨Nat.le_of_ble_eq_true rfl, Nat.le_of_ble_eq_true rfl⟩ ⟨by show cells + 0 + 0 ≤ 665281; omega, by show slots + 0 + 0 ≤ 7105636; omega⟩ hl (Nat.le_of_ble_eq_true rfl) rfl dL_law_896 (fun y9 H locs hy9 G => ?_)
    subst hy9
    refine lv_istore (lv' := [(6, _), (5, .int (iZ (0))), (0, .ref t), (1, .ref o), (2, .ref u), (3, .ref w), (4, .int (iZ (x)))]) C.1 C.2.1 dL_law_899 hl (by decide) rfl (fun ls hl => ?_)
    refine lv_goto (tgt := 2172) C.1 C.2.1 dL_law_901 (by decide) ?_
    exact kk _ _ _ _ _ _ _ _ _ _ _ _ G (by omega) (by omega) (lv_sub hl [2, 3, 4, 5, 6] rfl)
  · skip
    refine lv_aload_n C.1 C.2.1 dL_law_852 rfl (lv_at hl 1 rfl) ?_
    refine lv_aload_n C.1 C.2.1 dL_law_853 rfl (lv_at hl 0 rfl) ?_
    refine lv_iload C.1 C.2.1 dL_law_854 (lv_at hl 4 rfl) ?_
    refine z_iconst C dL_law_856 ?_
    refine z_iadd C dL_law_857 ?_
    refine zd_ld C Z G q1 (x.toNat + 1) e1 (by omega) (by omega) dL_law_858 ?_
    refine lv_aload_n C.1 C.2.1 dL_law_859 rfl (lv_at hl 0 rfl) ?_
    refine lv_iload C.1 C.2.1 dL_law_860 (lv_at hl 4 rfl) ?_
    refine z_iconst C dL_law_862 ?_
    refine z_iadd C dL_law_863 ?_
    refine zd_ld C Z G q2 (x.toNat + 2) e2 (by omega) (by omega) dL_law_864 ?_
    refine lv_aload_n C.1 C.2.1 dL_law_865 rfl (lv_at hl 0 rfl) ?_
    refine lv_iload C.1 C.2.1 dL_law_866 (lv_at hl 4 rfl) ?_
    refine z_iconst C dL_law_868 ?_
    refine z_iadd C dL_law_869 ?_
    refine zd_ld C Z G q3 (x.toNat + 3) e3 (by omega) (by omega) dL_law_870 ?_
    refine lv_aload_n C.1 C.2.1 dL_law_871 rfl (lv_at hl 3 rfl) ?_
    refine zd_W (as := [.ref o, .int (iZ (q1)), .int (iZ (q2)), .int (iZ (q3)), .ref w]) C Z Y G (c_L_rest_badc l hlq D cJ o a _ _ _ _ (q1) (q2) (q3) (by first | assumption | omega) (by first | assumption | omega) (by first | assumption | omega) (by first | assumption | omega) w _ _) ml_L_214 ⟨Nat.le_of_ble_eq_true rfl, Nat.le_of_ble_eq_true rfl⟩ ⟨by show cells + 0 + 1 ≤ 665281; omega, by show slots + 0 + 6 ≤ 7105636; omega⟩ hl (Nat.le_of_ble_eq_true rfl) rfl dL_law_872 (fun H locs G => ?_)
    refine lv_istore (lv' := [(5, .int (iZ (1))), (0, .ref t), (1, .ref o), (2, .ref u), (3, .ref w), (4, .int (iZ (x)))]) C.1 C.2.1 dL_law_875 hl (by decide) rfl (fun ls hl => ?_)
    refine lv_aload_n C.1 C.2.1 dL_law_877 rfl (lv_at hl 3 rfl) ?_
    refine lv_aload_n C.1 C.2.1 dL_law_878 rfl (lv_at hl 1 rfl) ?_
    refine lv_iload C.1 C.2.1 dL_law_879 (lv_at hl 5 rfl) ?_
    refine z_iconst C dL_law_881 ?_
    refine z_iadd C dL_law_882 ?_
    refine zd_ld C Z G q1 (x.toNat + 1) e1 (by omega) (by omega) dL_law_883 ?_
    refine lv_aload_n C.1 C.2.1 dL_law_884 rfl (lv_at hl 1 rfl) ?_
    refine lv_iload C.1 C.2.1 dL_law_885 (lv_at hl 5 rfl) ?_
    refine z_iconst C dL_law_887 ?_
    refine z_iadd C dL_law_888 ?_
    refine zd_ld C Z G q2 (x.toNat + 2) e2 (by omega) (by omega) dL_law_889 ?_
    refine lv_aload_n C.1 C.2.1 dL_law_890 rfl (lv_at hl 1 rfl) ?_
    refine lv_iload C.1 C.2.1 dL_law_891 (lv_at hl 5 rfl) ?_
    refine z_iconst C dL_law_893 ?_
    refine z_iadd C dL_law_894 ?_
    refine zd_ld C Z G q3 (x.toNat + 3) e3 (by omega) (by omega) dL_law_895 ?_
    refine zd_M (as := [.int (iZ (q1)), .int (iZ (q2)), .int (iZ (q3))]) C Y G (c_X5_rest_bad1 l D cJ u v _ _ _ _ _ (q1) (q2) (q3) (by first | assumption | omega) (by first | assumption | omega) (by first | assumption | omega) (by first | assumption | omega)) ml_L_216 rfl ⟨Nat.le_of_ble_eq_true rfl, Nat.le_of_ble_eq_true rfl⟩ ⟨by show cells + 1 + 0 ≤ 665281; omega, by show slots + 6 + 0 ≤ 7105636; omega⟩ hl (Nat.le_of_ble_eq_true rfl) rfl dL_law_896 (fun y9 H locs hy9 G => ?_)
    subst hy9
    refine lv_istore (lv' := [(6, _), (5, .int (iZ (1))), (0, .ref t), (1, .ref o), (2, .ref u), (3, .ref w), (4, .int (iZ (x)))]) C.1 C.2.1 dL_law_899 hl (by decide) rfl (fun ls hl => ?_)
    refine lv_goto (tgt := 2172) C.1 C.2.1 dL_law_901 (by decide) ?_
    exact kk _ _ _ _ _ _ _ _ _ _ _ _ G (by omega) (by omega) (lv_sub hl [2, 3, 4, 5, 6] rfl)
set_option maxHeartbeats 4000000 in
set_option maxRecDepth 100000 in
theorem lk_13 (hlq : l.stackTraces = false) (C : CallFix p m c0 cL_law 7 s args T0 RL) (Z : zLw D cB t N g s) (Y : zAd o a u v w s) {c : Nat → Nat} {ac re kn : Int32} {th : Int} {n : Int64} {sv : Value} {H : Heap} {locs : List Loc} {ls : Array Slot} {cells slots : Nat} (G : zG D cJ o a u v w c [.int ac, .int re, .int kn] c [.int (iZ th), .int ac, .int re, .int kn] n sv s H locs) (x : Int) (hx : 0 ≤ x ∧ x + 5 ≤ (N : Int)) (hf : cells + 150 ≤ 665281 ∧ slots + 75000 ≤ 7105636) (hl : lv_has ls 7 [(0, .ref t), (1, .ref o), (2, .ref u), (3, .ref w), (4, .int (iZ (x)))])
    (kk : zNx p l e s m args below meth c0 D cJ t o a u v w x cells slots Qw 2172) : W p l e room_1 s m args below meth c0 H locs cells slots Qw (F0 m 904 ls []) := by
  have hc := G.1.2.2.2
  obtain ⟨q1, e1⟩ : ∃ z, g (x.toNat + 1) = z := ⟨_, rfl⟩
  have r1 : -2147483648 ≤ q1 ∧ q1 ≤ 2147483647 := e1 ▸ Z.2.2.2.2.2.1 _
  obtain ⟨q2, e2⟩ : ∃ z, g (x.toNat + 2) = z := ⟨_, rfl⟩
  have r2 : -2147483648 ≤ q2 ∧ q2 ≤ 2147483647 := e2 ▸ Z.2.2.2.2.2.1 _
  obtain ⟨q3, e3⟩ : ∃ z, g (x.toNat + 3) = z := ⟨_, rfl⟩
  have r3 : -2147483648 ≤ q3 ∧ q3 ≤ 2147483647 := e3 ▸ Z.2.2.2.2.2.1 _
  by_cases hcel : (0 ≤ q1 ∧ q1 ≤ 5) ∧ (0 ≤ q2 ∧ q2 ≤ 5) ∧ (0 ≤ q3 ∧ q3 ≤ 5)
  · skip
    refine lv_aload_n C.1 C.2.1 dL_law_904 rfl (lv_at hl 1 rfl) ?_
    refine lv_aload_n C.1 C.2.1 dL_law_905 rfl (lv_at hl 0 rfl) ?_
    refine lv_iload C.1 C.2.1 dL_law_906 (lv_at hl 4 rfl) ?_
    refine z_iconst C dL_law_908 ?_
    refine z_iadd C dL_law_909 ?_
    refine zd_ld C Z G q1 (x.toNat + 1) e1 (by omega) (by omega) dL_law_910 ?_
    refine lv_aload_n C.1 C.2.1 dL_law_911 rfl (lv_at hl 0 rfl) ?_
    refine lv_iload C.1 C.2.1 dL_law_912 (lv_at hl 4 rfl) ?_
    refine z_iconst C dL_law_914 ?_
    refine z_iadd C dL_law_915 ?_
    refine zd_ld C Z G q2 (x.toNat + 2) e2 (by omega) (by omega) dL_law_916 ?_
    refine lv_aload_n C.1 C.2.1 dL_law_917 rfl (lv_at hl 0 rfl) ?_
    refine lv_iload C.1 C.2.1 dL_law_918 (lv_at hl 4 rfl) ?_
    refine z_iconst C dL_law_920 ?_
    refine z_iadd C dL_law_921 ?_
    refine zd_ld C Z G q3 (x.toNat + 3) e3 (by omega) (by omega) dL_law_922 ?_
    refine lv_aload_n C.1 C.2.1 dL_law_923 rfl (lv_at hl 3 rfl) ?_
    refine zd_W (as := [.ref o, .int (iZ (q1)), .int (iZ (q2)), .int (iZ (q3)), .ref w]) C Z Y G (c_L_gcd l D cJ o a _ _ _ _ (q1) (q2) (q3) (by first | assumption | omega) (by first | assumption | omega) (by first | assumption | omega) w _ _) ml_L_217 ⟨Nat.le_of_ble_eq_true rfl, Nat.le_of_ble_eq_true rfl⟩ ⟨by show cells + 0 + 0 ≤ 665281; omega, by show slots + 0 + 0 ≤ 7105636; omega⟩ hl (Nat.le_of_ble_eq_true rfl) rfl dL_law_924 (fun H locs G => ?_)
    refine lv_istore (lv' := [(5, .int (iZ (0))), (0, .ref t), (1, .ref o), (2, .ref u), (3, .ref w), (4, .int (iZ (x)))]) C.1 C.2.1 dL_law_927 hl (by decide) rfl (fun ls hl => ?_)
    refine lv_aload_n C.1 C.2.1 dL_law_929 rfl (lv_at hl 3 rfl) ?_
    refine lv_aload_n C.1 C.2.1 dL_law_930 rfl (lv_at hl 1 rfl) ?_
    refine lv_iload C.1 C.2.1 dL_law_931 (lv_at hl 5 rfl) ?_
    refine z_iconst C dL_law_933 ?_
    refine z_iadd C dL_law_934 ?_
    refine zd_ld C Z G q1 (x.toNat + 1) e1 (by omega) (by omega) dL_law_935 ?_
    refine lv_aload_n C.1 C.2.1 dL_law_936 rfl (lv_at hl 1 rfl) ?_
    refine lv_iload C.1 C.2.1 dL_law_937 (lv_at hl 5 rfl) ?_
    refine z_iconst C dL_law_939 ?_
    refine z_iadd C dL_law_940 ?_
    refine zd_ld C Z G q2 (x.toNat + 2) e2 (by omega) (by omega) dL_law_941 ?_
    refine lv_aload_n C.1 C.2.1 dL_law_942 rfl (lv_at hl 1 rfl) ?_
    refine lv_iload C.1 C.2.1 dL_law_943 (lv_at hl 5 rfl) ?_
    refine z_iconst C dL_law_945 ?_
    refine z_iadd C dL_law_946 ?_
    refine zd_ld C Z G q3 (x.toNat + 3) e3 (by omega) (by omega) dL_law_947 ?_
    refine zd_M (as := [.int (iZ (q1)), .int (iZ (q2)), .int (iZ (q3))]) C Y G (c_X5_gcd l D cJ u v _ _ _ _ _ (q1) (q2) (q3) (by first | assumption | omega) (by first | assumption | omega) (by first | assumption | omega)) ml_L_219 rfl ⟨Nat.le_of_ble_eq_true rfl, Nat.le_of_ble_eq_true rfl⟩ ⟨by show cells + 0 + 0 ≤ 665281; omega, by show slots + 0 + 0 ≤ 7105636; omega⟩ hl (Nat.le_of_ble_eq_true rfl) rfl dL_law_948 (fun y9 H locs hy9 G => ?_)
    subst hy9
    refine lv_istore (lv' := [(6, _), (5, .int (iZ (0))), (0, .ref t), (1, .ref o), (2, .ref u), (3, .ref w), (4, .int (iZ (x)))]) C.1 C.2.1 dL_law_951 hl (by decide) rfl (fun ls hl => ?_)
    refine lv_goto (tgt := 2172) C.1 C.2.1 dL_law_953 (by decide) ?_
    exact kk _ _ _ _ _ _ _ _ _ _ _ _ G (by omega) (by omega) (lv_sub hl [2, 3, 4, 5, 6] rfl)
  · skip
    refine lv_aload_n C.1 C.2.1 dL_law_904 rfl (lv_at hl 1 rfl) ?_
    refine lv_aload_n C.1 C.2.1 dL_law_905 rfl (lv_at hl 0 rfl) ?_
    refine lv_iload C.1 C.2.1 dL_law_906 (lv_at hl 4 rfl) ?_
    refine z_iconst C dL_law_908 ?_
    refine z_iadd C dL_law_909 ?_
    refine zd_ld C Z G q1 (x.toNat + 1) e1 (by omega) (by omega) dL_law_910 ?_
    refine lv_aload_n C.1 C.2.1 dL_law_911 rfl (lv_at hl 0 rfl) ?_
    refine lv_iload C.1 C.2.1 dL_law_912 (lv_at hl 4 rfl) ?_
    refine z_iconst C dL_law_914 ?_
    refine z_iadd C dL_law_915 ?_
    refine zd_ld C Z G q2 (x.toNat + 2) e2 (by omega) (by omega) dL_law_916 ?_
    refine lv_aload_n C.1 C.2.1 dL_law_917 rfl (lv_at hl 0 rfl) ?_
    refine lv_iload C.1 C.2.1 dL_law_918 (lv_at hl 4 rfl) ?_
    refine z_iconst C dL_law_920 ?_
    refine z_iadd C dL_law_921 ?_
    refine zd_ld C Z G q3 (x.toNat + 3) e3 (by omega) (by omega) dL_law_922 ?_
    refine lv_aload_n C.1 C.2.1 dL_law_923 rfl (lv_at hl 3 rfl) ?_
    refine zd_W (as := [.ref o, .int (iZ (q1)), .int (iZ (q2)), .int (iZ (q3)), .ref w]) C Z Y G (c_L_gcd_badc l hlq D cJ o a _ _ _ _ (q1) (q2) (q3) (by first | assumption | omega) (by first | assumption | omega) (by first | assumption | omega) (by first | assumption | omega) w _ _) ml_L_217 ⟨Nat.le_of_ble_eq_true rfl, Nat.le_of_ble_eq_true rfl⟩ ⟨by show cells + 0 + 1 ≤ 665281; omega, by show slots + 0 + 6 ≤ 7105636; omega⟩ hl (Nat.le_of_ble_eq_true rfl) rfl dL_law_924 (fun H locs G => ?_)
    refine lv_istore (lv' := [(5, .int (iZ (1))), (0, .ref t), (1, .ref o), (2, .ref u), (3, .ref w), (4, .int (iZ (x)))]) C.1 C.2.1 dL_law_927 hl (by decide) rfl (fun ls hl => ?_)
    refine lv_aload_n C.1 C.2.1 dL_law_929 rfl (lv_at hl 3 rfl) ?_
    refine lv_aload_n C.1 C.2.1 dL_law_930 rfl (lv_at hl 1 rfl) ?_
    refine lv_iload C.1 C.2.1 dL_law_931 (lv_at hl 5 rfl) ?_
    refine z_iconst C dL_law_933 ?_
    refine z_iadd C dL_law_934 ?_
    refine zd_ld C Z G q1 (x.toNat + 1) e1 (by omega) (by omega) dL_law_935 ?_
    refine lv_aload_n C.1 C.2.1 dL_law_936 rfl (lv_at hl 1 rfl) ?_
    refine lv_iload C.1 C.2.1 dL_law_937 (lv_at hl 5 rfl) ?_
    refine z_iconst C dL_law_939 ?_
    refine z_iadd C dL_law_940 ?_
    refine zd_ld C Z G q2 (x.toNat + 2) e2 (by omega) (by omega) dL_law_941 ?_
    refine lv_aload_n C.1 C.2.1 dL_law_942 rfl (lv_at hl 1 rfl) ?_
    refine lv_iload C.1 C.2.1 dL_law_943 (lv_at hl 5 rfl) ?_
    refine z_iconst C dL_law_945 ?_
    refine z_iadd C dL_law_946 ?_
    refine zd_ld C Z G q3 (x.toNat + 3) e3 (by omega) (by omega) dL_law_947 ?_
    refine zd_M (as := [.int (iZ (q1)), .int (iZ (q2)), .int (iZ (q3))]) C Y G (c_X5_gcd_bad1 l D cJ u v _ _ _ _ _ (q1) (q2) (q3) (by first | assumption | omega) (by first | assumption | omega) (by first | assumption | omega) (by first | assumption | omega)) ml_L_219 rfl ⟨Nat.le_of_ble_eq_true rfl, Nat.le_of_ble_eq_true rfl⟩ ⟨by show cells + 1 + 0 ≤ 665281; omega, by show slots + 6 + 0 ≤ 7105636; omega⟩ hl (Nat.le_of_ble_eq_true rfl) rfl dL_law_948 (fun y9 H locs hy9 G => ?_)
    subst hy9
    refine lv_istore (lv' := [(6, _), (5, .int (iZ (1))), (0, .ref t), (1, .ref o), (2, .ref u), (3, .ref w), (4, .int (iZ (x)))]) C.1 C.2.1 dL_law_951 hl (by decide) rfl (fun ls hl => ?_)
    refine lv_goto (tgt := 2172) C.1 C.2.1 dL_law_953 (by decide) ?_
    exact kk _ _ _ _ _ _ _ _ _ _ _ _ G (by omega) (by omega) (lv_sub hl [2, 3, 4, 5, 6] rfl)
set_option maxHeartbeats 4000000 in
set_option maxRecDepth 100000 in
theorem lk_14 (hlq : l.stackTraces = false) (C : CallFix p m c0 cL_law 7 s args T0 RL) (Z : zLw D cB t N g s) (Y : zAd o a u v w s) {c : Nat → Nat} {ac re kn : Int32} {th : Int} {n : Int64} {sv : Value} {H : Heap} {locs : List Loc} {ls : Array Slot} {cells slots : Nat} (G : zG D cJ o a u v w c [.int ac, .int re, .int kn] c [.int (iZ th), .int ac, .int re, .int kn] n sv s H locs) (x : Int) (hx : 0 ≤ x ∧ x + 5 ≤ (N : Int)) (hf : cells + 150 ≤ 665281 ∧ slots + 75000 ≤ 7105636) (hl : lv_has ls 7 [(0, .ref t), (1, .ref o), (2, .ref u), (3, .ref w), (4, .int (iZ (x)))])
    (kk : zNx p l e s m args below meth c0 D cJ t o a u v w x cells slots Qw 2172) : W p l e room_1 s m args below meth c0 H locs cells slots Qw (F0 m 956 ls []) := by
  have hc := G.1.2.2.2
  obtain ⟨q1, e1⟩ : ∃ z, g (x.toNat + 1) = z := ⟨_, rfl⟩
  have r1 : -2147483648 ≤ q1 ∧ q1 ≤ 2147483647 := e1 ▸ Z.2.2.2.2.2.1 _
  obtain ⟨q2, e2⟩ : ∃ z, g (x.toNat + 2) = z := ⟨_, rfl⟩
  have r2 : -2147483648 ≤ q2 ∧ q2 ≤ 2147483647 := e2 ▸ Z.2.2.2.2.2.1 _
  obtain ⟨q3, e3⟩ : ∃ z, g (x.toNat + 3) = z := ⟨_, rfl⟩
  have r3 : -2147483648 ≤ q3 ∧ q3 ≤ 2147483647 := e3 ▸ Z.2.2.2.2.2.1 _
  by_cases hcel : (0 ≤ q1 ∧ q1 ≤ 5) ∧ (0 ≤ q2 ∧ q2 ≤ 5) ∧ (0 ≤ q3 ∧ q3 ≤ 5)
  · skip
    refine lv_aload_n C.1 C.2.1 dL_law_956 rfl (lv_at hl 1 rfl) ?_
    refine lv_aload_n C.1 C.2.1 dL_law_957 rfl (lv_at hl 0 rfl) ?_
    refine lv_iload C.1 C.2.1 dL_law_958 (lv_at hl 4 rfl) ?_
    refine z_iconst C dL_law_960 ?_
    refine z_iadd C dL_law_961 ?_
    refine zd_ld C Z G q1 (x.toNat + 1) e1 (by omega) (by omega) dL_law_962 ?_
    refine lv_aload_n C.1 C.2.1 dL_law_963 rfl (lv_at hl 0 rfl) ?_
    refine lv_iload C.1 C.2.1 dL_law_964 (lv_at hl 4 rfl) ?_
    refine z_iconst C dL_law_966 ?_
    refine z_iadd C dL_law_967 ?_
    refine zd_ld C Z G q2 (x.toNat + 2) e2 (by omega) (by omega) dL_law_968 ?_
    refine lv_aload_n C.1 C.2.1 dL_law_969 rfl (lv_at hl 0 rfl) ?_
    refine lv_iload C.1 C.2.1 dL_law_970 (lv_at hl 4 rfl) ?_
    refine z_iconst C dL_law_972 ?_
    refine z_iadd C dL_law_973 ?_
    refine zd_ld C Z G q3 (x.toNat + 3) e3 (by omega) (by omega) dL_law_974 ?_
    refine lv_aload_n C.1 C.2.1 dL_law_975 rfl (lv_at hl 3 rfl) ?_
    refine zd_W (as := [.ref o, .int (iZ (q1)), .int (iZ (q2)), .int (iZ (q3)), .ref w]) C Z Y G (c_L_lcm l D cJ o a _ _ _ _ (q1) (q2) (q3) (by first | assumption | omega) (by first | assumption | omega) (by first | assumption | omega) w _ _) ml_L_220 ⟨Nat.le_of_ble_eq_true rfl, Nat.le_of_ble_eq_true rfl⟩ ⟨by show cells + 0 + 0 ≤ 665281; omega, by show slots + 0 + 0 ≤ 7105636; omega⟩ hl (Nat.le_of_ble_eq_true rfl) rfl dL_law_976 (fun H locs G => ?_)
    refine lv_istore (lv' := [(5, .int (iZ (0))), (0, .ref t), (1, .ref o), (2, .ref u), (3, .ref w), (4, .int (iZ (x)))]) C.1 C.2.1 dL_law_979 hl (by decide) rfl (fun ls hl => ?_)
    refine lv_aload_n C.1 C.2.1 dL_law_981 rfl (lv_at hl 3 rfl) ?_
    refine lv_aload_n C.1 C.2.1 dL_law_982 rfl (lv_at hl 1 rfl) ?_
    refine lv_iload C.1 C.2.1 dL_law_983 (lv_at hl 5 rfl) ?_
    refine z_iconst C dL_law_985 ?_
    refine z_iadd C dL_law_986 ?_
    refine zd_ld C Z G q1 (x.toNat + 1) e1 (by omega) (by omega) dL_law_987 ?_
    refine lv_aload_n C.1 C.2.1 dL_law_988 rfl (lv_at hl 1 rfl) ?_
    refine lv_iload C.1 C.2.1 dL_law_989 (lv_at hl 5 rfl) ?_
    refine z_iconst C dL_law_991 ?_
    refine z_iadd C dL_law_992 ?_
    refine zd_ld C Z G q2 (x.toNat + 2) e2 (by omega) (by omega) dL_law_993 ?_
    refine lv_aload_n C.1 C.2.1 dL_law_994 rfl (lv_at hl 1 rfl) ?_
    refine lv_iload C.1 C.2.1 dL_law_995 (lv_at hl 5 rfl) ?_
    refine z_iconst C dL_law_997 ?_
    refine z_iadd C dL_law_998 ?_
    refine zd_ld C Z G q3 (x.toNat + 3) e3 (by omega) (by omega) dL_law_999 ?_
    refine zd_M (as := [.int (iZ (q1)), .int (iZ (q2)), .int (iZ (q3))]) C Y G (c_X5_lcm l D cJ u v _ _ _ _ _ (q1) (q2) (q3) (by first | assumption | omega) (by first | assumption | omega) (by first | assumption | omega)) ml_L_222 rfl ⟨Nat.le_of_ble_eq_true rfl, Nat.le_of_ble_eq_true rfl⟩ ⟨by show cells + 0 + 0 ≤ 665281; omega, by show slots + 0 + 0 ≤ 7105636; omega⟩ hl (Nat.le_of_ble_eq_true rfl) rfl dL_law_1000 (fun y9 H locs hy9 G => ?_)
    subst hy9
    refine lv_istore (lv' := [(6, _), (5, .int (iZ (0))), (0, .ref t), (1, .ref o), (2, .ref u), (3, .ref w), (4, .int (iZ (x)))]) C.1 C.2.1 dL_law_1003 hl (by decide) rfl (fun ls hl => ?_)
    refine lv_goto (tgt := 2172) C.1 C.2.1 dL_law_1005 (by decide) ?_
    rw [lcm_eq (hc _) (hc _)] at G
    exact kk _ _ _ _ _ _ _ _ _ _ _ _ G (by omega) (by omega) (lv_sub hl [2, 3, 4, 5, 6] rfl)
  · skip
    refine lv_aload_n C.1 C.2.1 dL_law_956 rfl (lv_at hl 1 rfl) ?_
    refine lv_aload_n C.1 C.2.1 dL_law_957 rfl (lv_at hl 0 rfl) ?_
    refine lv_iload C.1 C.2.1 dL_law_958 (lv_at hl 4 rfl) ?_
    refine z_iconst C dL_law_960 ?_
    refine z_iadd C dL_law_961 ?_
    refine zd_ld C Z G q1 (x.toNat + 1) e1 (by omega) (by omega) dL_law_962 ?_
    refine lv_aload_n C.1 C.2.1 dL_law_963 rfl (lv_at hl 0 rfl) ?_
    refine lv_iload C.1 C.2.1 dL_law_964 (lv_at hl 4 rfl) ?_
    refine z_iconst C dL_law_966 ?_
    refine z_iadd C dL_law_967 ?_
    refine zd_ld C Z G q2 (x.toNat + 2) e2 (by omega) (by omega) dL_law_968 ?_
    refine lv_aload_n C.1 C.2.1 dL_law_969 rfl (lv_at hl 0 rfl) ?_
    refine lv_iload C.1 C.2.1 dL_law_970 (lv_at hl 4 rfl) ?_
    refine z_iconst C dL_law_972 ?_
    refine z_iadd C dL_law_973 ?_
    refine zd_ld C Z G q3 (x.toNat + 3) e3 (by omega) (by omega) dL_law_974 ?_
    refine lv_aload_n C.1 C.2.1 dL_law_975 rfl (lv_at hl 3 rfl) ?_
    refine zd_W (as := [.ref o, .int (iZ (q1)), .int (iZ (q2)), .int (iZ (q3)), .ref w]) C Z Y G (c_L_lcm_badc l hlq D cJ o a _ _ _ _ (q1) (q2) (q3) (by first | assumption | omega) (by first | assumption | omega) (by first | assumption | omega) (by first | assumption | omega) w _ _) ml_L_220 ⟨Nat.le_of_ble_eq_true rfl, Nat.le_of_ble_eq_true rfl⟩ ⟨by show cells + 0 + 1 ≤ 665281; omega, by show slots + 0 + 6 ≤ 7105636; omega⟩ hl (Nat.le_of_ble_eq_true rfl) rfl dL_law_976 (fun H locs G => ?_)
    refine lv_istore (lv' := [(5, .int (iZ (1))), (0, .ref t), (1, .ref o), (2, .ref u), (3, .ref w), (4, .int (iZ (x)))]) C.1 C.2.1 dL_law_979 hl (by decide) rfl (fun ls hl => ?_)
    refine lv_aload_n C.1 C.2.1 dL_law_981 rfl (lv_at hl 3 rfl) ?_
    refine lv_aload_n C.1 C.2.1 dL_law_982 rfl (lv_at hl 1 rfl) ?_
    refine lv_iload C.1 C.2.1 dL_law_983 (lv_at hl 5 rfl) ?_
    refine z_iconst C dL_law_985 ?_
    refine z_iadd C dL_law_986 ?_
    refine zd_ld C Z G q1 (x.toNat + 1) e1 (by omega) (by omega) dL_law_987 ?_
    refine lv_aload_n C.1 C.2.1 dL_law_988 rfl (lv_at hl 1 rfl) ?_
    refine lv_iload C.1 C.2.1 dL_law_989 (lv_at hl 5 rfl) ?_
    refine z_iconst C dL_law_991 ?_
    refine z_iadd C dL_law_992 ?_
    refine zd_ld C Z G q2 (x.toNat + 2) e2 (by omega) (by omega) dL_law_993 ?_
    refine lv_aload_n C.1 C.2.1 dL_law_994 rfl (lv_at hl 1 rfl) ?_
    refine lv_iload C.1 C.2.1 dL_law_995 (lv_at hl 5 rfl) ?_
    refine z_iconst C dL_law_997 ?_
    refine z_iadd C dL_law_998 ?_
    refine zd_ld C Z G q3 (x.toNat + 3) e3 (by omega) (by omega) dL_law_999 ?_
    refine zd_M (as := [.int (iZ (q1)), .int (iZ (q2)), .int (iZ (q3))]) C Y G (c_X5_lcm_bad1 l D cJ u v _ _ _ _ _ (q1) (q2) (q3) (by first | assumption | omega) (by first | assumption | omega) (by first | assumption | omega) (by first | assumption | omega)) ml_L_222 rfl ⟨Nat.le_of_ble_eq_true rfl, Nat.le_of_ble_eq_true rfl⟩ ⟨by show cells + 1 + 0 ≤ 665281; omega, by show slots + 6 + 0 ≤ 7105636; omega⟩ hl (Nat.le_of_ble_eq_true rfl) rfl dL_law_1000 (fun y9 H locs hy9 G => ?_)
    subst hy9
    refine lv_istore (lv' := [(6, _), (5, .int (iZ (1))), (0, .ref t), (1, .ref o), (2, .ref u), (3, .ref w), (4, .int (iZ (x)))]) C.1 C.2.1 dL_law_1003 hl (by decide) rfl (fun ls hl => ?_)
    refine lv_goto (tgt := 2172) C.1 C.2.1 dL_law_1005 (by decide) ?_
    exact kk _ _ _ _ _ _ _ _ _ _ _ _ G (by omega) (by omega) (lv_sub hl [2, 3, 4, 5, 6] rfl)
set_option maxHeartbeats 4000000 in
set_option maxRecDepth 100000 in
theorem lk_15 (hlq : l.stackTraces = false) (C : CallFix p m c0 cL_law 7 s args T0 RL) (Z : zLw D cB t N g s) (Y : zAd o a u v w s) {c : Nat → Nat} {ac re kn : Int32} {th : Int} {n : Int64} {sv : Value} {H : Heap} {locs : List Loc} {ls : Array Slot} {cells slots : Nat} (G : zG D cJ o a u v w c [.int ac, .int re, .int kn] c [.int (iZ th), .int ac, .int re, .int kn] n sv s H locs) (x : Int) (hx : 0 ≤ x ∧ x + 5 ≤ (N : Int)) (hf : cells + 150 ≤ 665281 ∧ slots + 75000 ≤ 7105636) (hl : lv_has ls 7 [(0, .ref t), (1, .ref o), (2, .ref u), (3, .ref w), (4, .int (iZ (x)))])
    (kk : zNx p l e s m args below meth c0 D cJ t o a u v w x cells slots Qw 2172) : W p l e room_1 s m args below meth c0 H locs cells slots Qw (F0 m 1008 ls []) := by
  have hc := G.1.2.2.2
  obtain ⟨q1, e1⟩ : ∃ z, g (x.toNat + 1) = z := ⟨_, rfl⟩
  have r1 : -2147483648 ≤ q1 ∧ q1 ≤ 2147483647 := e1 ▸ Z.2.2.2.2.2.1 _
  obtain ⟨q2, e2⟩ : ∃ z, g (x.toNat + 2) = z := ⟨_, rfl⟩
  have r2 : -2147483648 ≤ q2 ∧ q2 ≤ 2147483647 := e2 ▸ Z.2.2.2.2.2.1 _
  obtain ⟨q3, e3⟩ : ∃ z, g (x.toNat + 3) = z := ⟨_, rfl⟩
  have r3 : -2147483648 ≤ q3 ∧ q3 ≤ 2147483647 := e3 ▸ Z.2.2.2.2.2.1 _
  obtain ⟨q4, e4⟩ : ∃ z, g (x.toNat + 4) = z := ⟨_, rfl⟩
  have r4 : -2147483648 ≤ q4 ∧ q4 ≤ 2147483647 := e4 ▸ Z.2.2.2.2.2.1 _
  by_cases hcel : (0 ≤ q1 ∧ q1 ≤ 5) ∧ (0 ≤ q2 ∧ q2 ≤ 5) ∧ (0 ≤ q4 ∧ q4 ≤ 5)
  · skip
    refine lv_aload_n C.1 C.2.1 dL_law_1008 rfl (lv_at hl 1 rfl) ?_
    refine lv_aload_n C.1 C.2.1 dL_law_1009 rfl (lv_at hl 0 rfl) ?_
    refine lv_iload C.1 C.2.1 dL_law_1010 (lv_at hl 4 rfl) ?_
    refine z_iconst C dL_law_1012 ?_
    refine z_iadd C dL_law_1013 ?_
    refine zd_ld C Z G q1 (x.toNat + 1) e1 (by omega) (by omega) dL_law_1014 ?_
    refine lv_aload_n C.1 C.2.1 dL_law_1015 rfl (lv_at hl 0 rfl) ?_
    refine lv_iload C.1 C.2.1 dL_law_1016 (lv_at hl 4 rfl) ?_
    refine z_iconst C dL_law_1018 ?_
    refine z_iadd C dL_law_1019 ?_
    refine zd_ld C Z G q2 (x.toNat + 2) e2 (by omega) (by omega) dL_law_1020 ?_
    refine lv_aload_n C.1 C.2.1 dL_law_1021 rfl (lv_at hl 0 rfl) ?_
    refine lv_iload C.1 C.2.1 dL_law_1022 (lv_at hl 4 rfl) ?_
    refine z_iconst C dL_law_1024 ?_
    refine z_iadd C dL_law_1025 ?_
    refine zd_ld C Z G q3 (x.toNat + 3) e3 (by omega) (by omega) dL_law_1026 ?_
    refine zd_nz C (by omega) dL_law_1027 dL_law_1030 dL_law_1031 dL_law_1034 ?_
    refine lv_aload_n C.1 C.2.1 dL_law_1035 rfl (lv_at hl 0 rfl) ?_
    refine lv_iload C.1 C.2.1 dL_law_1036 (lv_at hl 4 rfl) ?_
    refine z_iconst C dL_law_1038 ?_
    refine z_iadd C dL_law_1039 ?_
    refine zd_ld C Z G q4 (x.toNat + 4) e4 (by omega) (by omega) dL_law_1040 ?_
    refine lv_aload_n C.1 C.2.1 dL_law_1041 rfl (lv_at hl 3 rfl) ?_
    refine zd_W (as := [.ref o, .int (iZ (q1)), .int (iZ (q2)), .int (iZ (zB (decide (q3 ≠ 0)))), .int (iZ (q4)), .ref w]) C Z Y G (c_L_bezout l D cJ o a _ _ _ _ (q1) (q2) (decide (q3 ≠ 0)) (q4) (by first | assumption | omega) (by first | assumption | omega) (by first | assumption | omega) w _ _) ml_L_223 ⟨Nat.le_of_ble_eq_true rfl, Nat.le_of_ble_eq_true rfl⟩ ⟨by show cells + 0 + 0 ≤ 665281; omega, by show slots + 0 + 0 ≤ 7105636; omega⟩ hl (Nat.le_of_ble_eq_true rfl) rfl dL_law_1042 (fun H locs G => ?_)
    refine lv_istore (lv' := [(5, .int (iZ (0))), (0, .ref t), (1, .ref o), (2, .ref u), (3, .ref w), (4, .int (iZ (x)))]) C.1 C.2.1 dL_law_1045 hl (by decide) rfl (fun ls hl => ?_)
    refine lv_aload_n C.1 C.2.1 dL_law_1047 rfl (lv_at hl 3 rfl) ?_
    refine lv_aload_n C.1 C.2.1 dL_law_1048 rfl (lv_at hl 1 rfl) ?_
    refine lv_iload C.1 C.2.1 dL_law_1049 (lv_at hl 5 rfl) ?_
    refine z_iconst C dL_law_1051 ?_
    refine z_iadd C dL_law_1052 ?_
    refine zd_ld C Z G q1 (x.toNat + 1) e1 (by omega) (by omega) dL_law_1053 ?_
    refine lv_aload_n C.1 C.2.1 dL_law_1054 rfl (lv_at hl 1 rfl) ?_
    refine lv_iload C.1 C.2.1 dL_law_1055 (lv_at hl 5 rfl) ?_
    refine z_iconst C dL_law_1057 ?_
    refine z_iadd C dL_law_1058 ?_
    refine zd_ld C Z G q2 (x.toNat + 2) e2 (by omega) (by omega) dL_law_1059 ?_
    refine lv_aload_n C.1 C.2.1 dL_law_1060 rfl (lv_at hl 1 rfl) ?_
    refine lv_iload C.1 C.2.1 dL_law_1061 (lv_at hl 5 rfl) ?_
    refine z_iconst C dL_law_1063 ?_
    refine z_iadd C dL_law_1064 ?_
    refine zd_ld C Z G q3 (x.toNat + 3) e3 (by omega) (by omega) dL_law_1065 ?_
    refine zd_nz C (by omega) dL_law_1066 dL_law_1069 dL_law_1070 dL_law_1073 ?_
    refine lv_aload_n C.1 C.2.1 dL_law_1074 rfl (lv_at hl 1 rfl) ?_
    refine lv_iload C.1 C.2.1 dL_law_1075 (lv_at hl 5 rfl) ?_
    refine z_iconst C dL_law_1077 ?_
    refine z_iadd C dL_law_1078 ?_
    refine zd_ld C Z G q4 (x.toNat + 4) e4 (by omega) (by omega) dL_law_1079 ?_
    refine zd_M (as := [.int (iZ (q1)), .int (iZ (q2)), .int (iZ (zB (decide (q3 ≠ 0)))), .int (iZ (q4))]) C Y G (c_X5_bezout l D cJ u v _ _ _ _ _ (q1) (q2) (decide (q3 ≠ 0)) (q4) (by first | assumption | omega) (by first | assumption | omega) (by first | assumption | omega)) ml_L_225 rfl ⟨Nat.le_of_ble_eq_true rfl, Nat.le_of_ble_eq_true rfl⟩ ⟨by show cells + 0 + 0 ≤ 665281; omega, by show slots + 0 + 0 ≤ 7105636; omega⟩ hl (Nat.le_of_ble_eq_true rfl) rfl dL_law_1080 (fun y9 H locs hy9 G => ?_)
    subst hy9
    refine lv_istore (lv' := [(6, _), (5, .int (iZ (0))), (0, .ref t), (1, .ref o), (2, .ref u), (3, .ref w), (4, .int (iZ (x)))]) C.1 C.2.1 dL_law_1083 hl (by decide) rfl (fun ls hl => ?_)
    refine lv_goto (tgt := 2172) C.1 C.2.1 dL_law_1085 (by decide) ?_
    exact kk _ _ _ _ _ _ _ _ _ _ _ _ G (by omega) (by omega) (lv_sub hl [2, 3, 4, 5, 6] rfl)
  · skip
    refine lv_aload_n C.1 C.2.1 dL_law_1008 rfl (lv_at hl 1 rfl) ?_
    refine lv_aload_n C.1 C.2.1 dL_law_1009 rfl (lv_at hl 0 rfl) ?_
    refine lv_iload C.1 C.2.1 dL_law_1010 (lv_at hl 4 rfl) ?_
    refine z_iconst C dL_law_1012 ?_
    refine z_iadd C dL_law_1013 ?_
    refine zd_ld C Z G q1 (x.toNat + 1) e1 (by omega) (by omega) dL_law_1014 ?_
    refine lv_aload_n C.1 C.2.1 dL_law_1015 rfl (lv_at hl 0 rfl) ?_
    refine lv_iload C.1 C.2.1 dL_law_1016 (lv_at hl 4 rfl) ?_
    refine z_iconst C dL_law_1018 ?_
    refine z_iadd C dL_law_1019 ?_
    refine zd_ld C Z G q2 (x.toNat + 2) e2 (by omega) (by omega) dL_law_1020 ?_
    refine lv_aload_n C.1 C.2.1 dL_law_1021 rfl (lv_at hl 0 rfl) ?_
    refine lv_iload C.1 C.2.1 dL_law_1022 (lv_at hl 4 rfl) ?_
    refine z_iconst C dL_law_1024 ?_
    refine z_iadd C dL_law_1025 ?_
    refine zd_ld C Z G q3 (x.toNat + 3) e3 (by omega) (by omega) dL_law_1026 ?_
    refine zd_nz C (by omega) dL_law_1027 dL_law_1030 dL_law_1031 dL_law_1034 ?_
    refine lv_aload_n C.1 C.2.1 dL_law_1035 rfl (lv_at hl 0 rfl) ?_
    refine lv_iload C.1 C.2.1 dL_law_1036 (lv_at hl 4 rfl) ?_
    refine z_iconst C dL_law_1038 ?_
    refine z_iadd C dL_law_1039 ?_
    refine zd_ld C Z G q4 (x.toNat + 4) e4 (by omega) (by omega) dL_law_1040 ?_
    refine lv_aload_n C.1 C.2.1 dL_law_1041 rfl (lv_at hl 3 rfl) ?_
    refine zd_W (as := [.ref o, .int (iZ (q1)), .int (iZ (q2)), .int (iZ (zB (decide (q3 ≠ 0)))), .int (iZ (q4)), .ref w]) C Z Y G (c_L_bezout_badc l hlq D cJ o a _ _ _ _ (q1) (q2) (decide (q3 ≠ 0)) (q4) (by first | assumption | omega) (by first | assumption | omega) (by first | assumption | omega) (by first | assumption | omega) w _ _) ml_L_223 ⟨Nat.le_of_ble_eq_true rfl, Nat.le_of_ble_eq_true rfl⟩ ⟨by show cells + 0 + 1 ≤ 665281; omega, by show slots + 0 + 6 ≤ 7105636; omega⟩ hl (Nat.le_of_ble_eq_true rfl) rfl dL_law_1042 (fun H locs G => ?_)
    refine lv_istore (lv' := [(5, .int (iZ (1))), (0, .ref t), (1, .ref o), (2, .ref u), (3, .ref w), (4, .int (iZ (x)))]) C.1 C.2.1 dL_law_1045 hl (by decide) rfl (fun ls hl => ?_)
    refine lv_aload_n C.1 C.2.1 dL_law_1047 rfl (lv_at hl 3 rfl) ?_
    refine lv_aload_n C.1 C.2.1 dL_law_1048 rfl (lv_at hl 1 rfl) ?_
    refine lv_iload C.1 C.2.1 dL_law_1049 (lv_at hl 5 rfl) ?_
    refine z_iconst C dL_law_1051 ?_
    refine z_iadd C dL_law_1052 ?_
    refine zd_ld C Z G q1 (x.toNat + 1) e1 (by omega) (by omega) dL_law_1053 ?_
    refine lv_aload_n C.1 C.2.1 dL_law_1054 rfl (lv_at hl 1 rfl) ?_
    refine lv_iload C.1 C.2.1 dL_law_1055 (lv_at hl 5 rfl) ?_
    refine z_iconst C dL_law_1057 ?_
    refine z_iadd C dL_law_1058 ?_
    refine zd_ld C Z G q2 (x.toNat + 2) e2 (by omega) (by omega) dL_law_1059 ?_
    refine lv_aload_n C.1 C.2.1 dL_law_1060 rfl (lv_at hl 1 rfl) ?_
    refine lv_iload C.1 C.2.1 dL_law_1061 (lv_at hl 5 rfl) ?_
    refine z_iconst C dL_law_1063 ?_
    refine z_iadd C dL_law_1064 ?_
    refine zd_ld C Z G q3 (x.toNat + 3) e3 (by omega) (by omega) dL_law_1065 ?_
    refine zd_nz C (by omega) dL_law_1066 dL_law_1069 dL_law_1070 dL_law_1073 ?_
    refine lv_aload_n C.1 C.2.1 dL_law_1074 rfl (lv_at hl 1 rfl) ?_
    refine lv_iload C.1 C.2.1 dL_law_1075 (lv_at hl 5 rfl) ?_
    refine z_iconst C dL_law_1077 ?_
    refine z_iadd C dL_law_1078 ?_
    refine zd_ld C Z G q4 (x.toNat + 4) e4 (by omega) (by omega) dL_law_1079 ?_
    refine zd_M (as := [.int (iZ (q1)), .int (iZ (q2)), .int (iZ (zB (decide (q3 ≠ 0)))), .int (iZ (q4))]) C Y G (c_X5_bezout_bad1 l D cJ u v _ _ _ _ _ (q1) (q2) (decide (q3 ≠ 0)) (q4) (by first | assumption | omega) (by first | assumption | omega) (by first | assumption | omega) (by first | assumption | omega)) ml_L_225 rfl ⟨Nat.le_of_ble_eq_true rfl, Nat.le_of_ble_eq_true rfl⟩ ⟨by show cells + 1 + 0 ≤ 665281; omega, by show slots + 6 + 0 ≤ 7105636; omega⟩ hl (Nat.le_of_ble_eq_true rfl) rfl dL_law_1080 (fun y9 H locs hy9 G => ?_)
    subst hy9
    refine lv_istore (lv' := [(6, _), (5, .int (iZ (1))), (0, .ref t), (1, .ref o), (2, .ref u), (3, .ref w), (4, .int (iZ (x)))]) C.1 C.2.1 dL_law_1083 hl (by decide) rfl (fun ls hl => ?_)
    refine lv_goto (tgt := 2172) C.1 C.2.1 dL_law_1085 (by decide) ?_
    exact kk _ _ _ _ _ _ _ _ _ _ _ _ G (by omega) (by omega) (lv_sub hl [2, 3, 4, 5, 6] rfl)
set_option maxHeartbeats 4000000 in
set_option maxRecDepth 100000 in
theorem lk_16 (hlq : l.stackTraces = false) (C : CallFix p m c0 cL_law 7 s args T0 RL) (Z : zLw D cB t N g s) (Y : zAd o a u v w s) {c : Nat → Nat} {ac re kn : Int32} {th : Int} {n : Int64} {sv : Value} {H : Heap} {locs : List Loc} {ls : Array Slot} {cells slots : Nat} (G : zG D cJ o a u v w c [.int ac, .int re, .int kn] c [.int (iZ th), .int ac, .int re, .int kn] n sv s H locs) (x : Int) (hx : 0 ≤ x ∧ x + 5 ≤ (N : Int)) (hf : cells + 150 ≤ 665281 ∧ slots + 75000 ≤ 7105636) (hl : lv_has ls 7 [(0, .ref t), (1, .ref o), (2, .ref u), (3, .ref w), (4, .int (iZ (x)))])
    (kk : zNx p l e s m args below meth c0 D cJ t o a u v w x cells slots Qw 2172) : W p l e room_1 s m args below meth c0 H locs cells slots Qw (F0 m 1088 ls []) := by
  have hc := G.1.2.2.2
  obtain ⟨q1, e1⟩ : ∃ z, g (x.toNat + 1) = z := ⟨_, rfl⟩
  have r1 : -2147483648 ≤ q1 ∧ q1 ≤ 2147483647 := e1 ▸ Z.2.2.2.2.2.1 _
  obtain ⟨q2, e2⟩ : ∃ z, g (x.toNat + 2) = z := ⟨_, rfl⟩
  have r2 : -2147483648 ≤ q2 ∧ q2 ≤ 2147483647 := e2 ▸ Z.2.2.2.2.2.1 _
  by_cases hcel : (0 ≤ q1 ∧ q1 ≤ 5) ∧ (0 ≤ q2 ∧ q2 ≤ 5)
  · skip
    refine lv_aload_n C.1 C.2.1 dL_law_1088 rfl (lv_at hl 1 rfl) ?_
    refine lv_aload_n C.1 C.2.1 dL_law_1089 rfl (lv_at hl 0 rfl) ?_
    refine lv_iload C.1 C.2.1 dL_law_1090 (lv_at hl 4 rfl) ?_
    refine z_iconst C dL_law_1092 ?_
    refine z_iadd C dL_law_1093 ?_
    refine zd_ld C Z G q1 (x.toNat + 1) e1 (by omega) (by omega) dL_law_1094 ?_
    refine lv_aload_n C.1 C.2.1 dL_law_1095 rfl (lv_at hl 0 rfl) ?_
    refine lv_iload C.1 C.2.1 dL_law_1096 (lv_at hl 4 rfl) ?_
    refine z_iconst C dL_law_1098 ?_
    refine z_iadd C dL_law_1099 ?_
    refine zd_ld C Z G q2 (x.toNat + 2) e2 (by omega) (by omega) dL_law_1100 ?_
    refine lv_aload_n C.1 C.2.1 dL_law_1101 rfl (lv_at hl 3 rfl) ?_
    refine zd_W (as := [.ref o, .int (iZ (q1)), .int (iZ (q2)), .ref w]) C Z Y G (c_L_derive l D cJ o a _ _ _ _ (q1) (q2) (by first | assumption | omega) (by first | assumption | omega) w _ _) ml_L_226 ⟨Nat.le_of_ble_eq_true rfl, Nat.le_of_ble_eq_true rfl⟩ ⟨by show cells + 0 + 0 ≤ 665281; omega, by show slots + 0 + 0 ≤ 7105636; omega⟩ hl (Nat.le_of_ble_eq_true rfl) rfl dL_law_1102 (fun H locs G => ?_)
    refine lv_istore (lv' := [(5, .int (iZ (0))), (0, .ref t), (1, .ref o), (2, .ref u), (3, .ref w), (4, .int (iZ (x)))]) C.1 C.2.1 dL_law_1105 hl (by decide) rfl (fun ls hl => ?_)
    refine lv_aload_n C.1 C.2.1 dL_law_1107 rfl (lv_at hl 3 rfl) ?_
    refine lv_aload_n C.1 C.2.1 dL_law_1108 rfl (lv_at hl 1 rfl) ?_
    refine lv_iload C.1 C.2.1 dL_law_1109 (lv_at hl 5 rfl) ?_
    refine z_iconst C dL_law_1111 ?_
    refine z_iadd C dL_law_1112 ?_
    refine zd_ld C Z G q1 (x.toNat + 1) e1 (by omega) (by omega) dL_law_1113 ?_
    refine lv_aload_n C.1 C.2.1 dL_law_1114 rfl (lv_at hl 1 rfl) ?_
    refine lv_iload C.1 C.2.1 dL_law_1115 (lv_at hl 5 rfl) ?_
    refine z_iconst C dL_law_1117 ?_
    refine z_iadd C dL_law_1118 ?_
    refine zd_ld C Z G q2 (x.toNat + 2) e2 (by omega) (by omega) dL_law_1119 ?_
    refine zd_M (as := [.int (iZ (q1)), .int (iZ (q2))]) C Y G (c_X5_derive l D cJ u v _ _ _ _ _ (q1) (q2) (by first | assumption | omega) (by first | assumption | omega)) ml_L_228 rfl ⟨Nat.le_of_ble_eq_true rfl, Nat.le_of_ble_eq_true rfl⟩ ⟨by show cells + 0 + 0 ≤ 665281; omega, by show slots + 0 + 0 ≤ 7105636; omega⟩ hl (Nat.le_of_ble_eq_true rfl) rfl dL_law_1120 (fun y9 H locs hy9 G => ?_)
    subst hy9
    refine lv_istore (lv' := [(6, _), (5, .int (iZ (0))), (0, .ref t), (1, .ref o), (2, .ref u), (3, .ref w), (4, .int (iZ (x)))]) C.1 C.2.1 dL_law_1123 hl (by decide) rfl (fun ls hl => ?_)
    refine lv_goto (tgt := 2172) C.1 C.2.1 dL_law_1125 (by decide) ?_
    rw [dv_eq (hc _)] at G
    exact kk _ _ _ _ _ _ _ _ _ _ _ _ G (by omega) (by omega) (lv_sub hl [2, 3, 4, 5, 6] rfl)
  · skip
    refine lv_aload_n C.1 C.2.1 dL_law_1088 rfl (lv_at hl 1 rfl) ?_
    refine lv_aload_n C.1 C.2.1 dL_law_1089 rfl (lv_at hl 0 rfl) ?_
    refine lv_iload C.1 C.2.1 dL_law_1090 (lv_at hl 4 rfl) ?_
    refine z_iconst C dL_law_1092 ?_
    refine z_iadd C dL_law_1093 ?_
    refine zd_ld C Z G q1 (x.toNat + 1) e1 (by omega) (by omega) dL_law_1094 ?_
    refine lv_aload_n C.1 C.2.1 dL_law_1095 rfl (lv_at hl 0 rfl) ?_
    refine lv_iload C.1 C.2.1 dL_law_1096 (lv_at hl 4 rfl) ?_
    refine z_iconst C dL_law_1098 ?_
    refine z_iadd C dL_law_1099 ?_
    refine zd_ld C Z G q2 (x.toNat + 2) e2 (by omega) (by omega) dL_law_1100 ?_
    refine lv_aload_n C.1 C.2.1 dL_law_1101 rfl (lv_at hl 3 rfl) ?_
    refine zd_W (as := [.ref o, .int (iZ (q1)), .int (iZ (q2)), .ref w]) C Z Y G (c_L_derive_badc l hlq D cJ o a _ _ _ _ (q1) (q2) (by first | assumption | omega) (by first | assumption | omega) (by first | assumption | omega) w _ _) ml_L_226 ⟨Nat.le_of_ble_eq_true rfl, Nat.le_of_ble_eq_true rfl⟩ ⟨by show cells + 0 + 1 ≤ 665281; omega, by show slots + 0 + 6 ≤ 7105636; omega⟩ hl (Nat.le_of_ble_eq_true rfl) rfl dL_law_1102 (fun H locs G => ?_)
    refine lv_istore (lv' := [(5, .int (iZ (1))), (0, .ref t), (1, .ref o), (2, .ref u), (3, .ref w), (4, .int (iZ (x)))]) C.1 C.2.1 dL_law_1105 hl (by decide) rfl (fun ls hl => ?_)
    refine lv_aload_n C.1 C.2.1 dL_law_1107 rfl (lv_at hl 3 rfl) ?_
    refine lv_aload_n C.1 C.2.1 dL_law_1108 rfl (lv_at hl 1 rfl) ?_
    refine lv_iload C.1 C.2.1 dL_law_1109 (lv_at hl 5 rfl) ?_
    refine z_iconst C dL_law_1111 ?_
    refine z_iadd C dL_law_1112 ?_
    refine zd_ld C Z G q1 (x.toNat + 1) e1 (by omega) (by omega) dL_law_1113 ?_
    refine lv_aload_n C.1 C.2.1 dL_law_1114 rfl (lv_at hl 1 rfl) ?_
    refine lv_iload C.1 C.2.1 dL_law_1115 (lv_at hl 5 rfl) ?_
    refine z_iconst C dL_law_1117 ?_
    refine z_iadd C dL_law_1118 ?_
    refine zd_ld C Z G q2 (x.toNat + 2) e2 (by omega) (by omega) dL_law_1119 ?_
    refine zd_M (as := [.int (iZ (q1)), .int (iZ (q2))]) C Y G (c_X5_derive_bad1 l D cJ u v _ _ _ _ _ (q1) (q2) (by first | assumption | omega) (by first | assumption | omega) (by first | assumption | omega)) ml_L_228 rfl ⟨Nat.le_of_ble_eq_true rfl, Nat.le_of_ble_eq_true rfl⟩ ⟨by show cells + 1 + 0 ≤ 665281; omega, by show slots + 6 + 0 ≤ 7105636; omega⟩ hl (Nat.le_of_ble_eq_true rfl) rfl dL_law_1120 (fun y9 H locs hy9 G => ?_)
    subst hy9
    refine lv_istore (lv' := [(6, _), (5, .int (iZ (1))), (0, .ref t), (1, .ref o), (2, .ref u), (3, .ref w), (4, .int (iZ (x)))]) C.1 C.2.1 dL_law_1123 hl (by decide) rfl (fun ls hl => ?_)
    refine lv_goto (tgt := 2172) C.1 C.2.1 dL_law_1125 (by decide) ?_
    exact kk _ _ _ _ _ _ _ _ _ _ _ _ G (by omega) (by omega) (lv_sub hl [2, 3, 4, 5, 6] rfl)
set_option maxHeartbeats 4000000 in
set_option maxRecDepth 100000 in
theorem lk_17 (hlq : l.stackTraces = false) (C : CallFix p m c0 cL_law 7 s args T0 RL) (Z : zLw D cB t N g s) (Y : zAd o a u v w s) {c : Nat → Nat} {ac re kn : Int32} {th : Int} {n : Int64} {sv : Value} {H : Heap} {locs : List Loc} {ls : Array Slot} {cells slots : Nat} (G : zG D cJ o a u v w c [.int ac, .int re, .int kn] c [.int (iZ th), .int ac, .int re, .int kn] n sv s H locs) (x : Int) (hx : 0 ≤ x ∧ x + 5 ≤ (N : Int)) (hf : cells + 150 ≤ 665281 ∧ slots + 75000 ≤ 7105636) (hl : lv_has ls 7 [(0, .ref t), (1, .ref o), (2, .ref u), (3, .ref w), (4, .int (iZ (x)))])
    (kk : zNx p l e s m args below meth c0 D cJ t o a u v w x cells slots Qw 2172) : W p l e room_1 s m args below meth c0 H locs cells slots Qw (F0 m 1128 ls []) := by
  have hc := G.1.2.2.2
  obtain ⟨q1, e1⟩ : ∃ z, g (x.toNat + 1) = z := ⟨_, rfl⟩
  have r1 : -2147483648 ≤ q1 ∧ q1 ≤ 2147483647 := e1 ▸ Z.2.2.2.2.2.1 _
  obtain ⟨q2, e2⟩ : ∃ z, g (x.toNat + 2) = z := ⟨_, rfl⟩
  have r2 : -2147483648 ≤ q2 ∧ q2 ≤ 2147483647 := e2 ▸ Z.2.2.2.2.2.1 _
  by_cases hcel : (0 ≤ q1 ∧ q1 ≤ 5) ∧ (0 ≤ q2 ∧ q2 ≤ 5)
  · skip
    refine lv_aload_n C.1 C.2.1 dL_law_1128 rfl (lv_at hl 1 rfl) ?_
    refine lv_aload_n C.1 C.2.1 dL_law_1129 rfl (lv_at hl 0 rfl) ?_
    refine lv_iload C.1 C.2.1 dL_law_1130 (lv_at hl 4 rfl) ?_
    refine z_iconst C dL_law_1132 ?_
    refine z_iadd C dL_law_1133 ?_
    refine zd_ld C Z G q1 (x.toNat + 1) e1 (by omega) (by omega) dL_law_1134 ?_
    refine lv_aload_n C.1 C.2.1 dL_law_1135 rfl (lv_at hl 0 rfl) ?_
    refine lv_iload C.1 C.2.1 dL_law_1136 (lv_at hl 4 rfl) ?_
    refine z_iconst C dL_law_1138 ?_
    refine z_iadd C dL_law_1139 ?_
    refine zd_ld C Z G q2 (x.toNat + 2) e2 (by omega) (by omega) dL_law_1140 ?_
    refine lv_aload_n C.1 C.2.1 dL_law_1141 rfl (lv_at hl 3 rfl) ?_
    refine zd_W (as := [.ref o, .int (iZ (q1)), .int (iZ (q2)), .ref w]) C Z Y G (c_L_root l D cJ o a _ _ _ _ (q1) (q2) (by first | assumption | omega) (by first | assumption | omega) w _ _) ml_L_229 ⟨Nat.le_of_ble_eq_true rfl, Nat.le_of_ble_eq_true rfl⟩ ⟨by show cells + 0 + 0 ≤ 665281; omega, by show slots + 0 + 0 ≤ 7105636; omega⟩ hl (Nat.le_of_ble_eq_true rfl) rfl dL_law_1142 (fun H locs G => ?_)
    refine lv_istore (lv' := [(5, .int (iZ (0))), (0, .ref t), (1, .ref o), (2, .ref u), (3, .ref w), (4, .int (iZ (x)))]) C.1 C.2.1 dL_law_1145 hl (by decide) rfl (fun ls hl => ?_)
    refine lv_aload_n C.1 C.2.1 dL_law_1147 rfl (lv_at hl 3 rfl) ?_
    refine lv_aload_n C.1 C.2.1 dL_law_1148 rfl (lv_at hl 1 rfl) ?_
    refine lv_iload C.1 C.2.1 dL_law_1149 (lv_at hl 5 rfl) ?_
    refine z_iconst C dL_law_1151 ?_
    refine z_iadd C dL_law_1152 ?_
    refine zd_ld C Z G q1 (x.toNat + 1) e1 (by omega) (by omega) dL_law_1153 ?_
    refine lv_aload_n C.1 C.2.1 dL_law_1154 rfl (lv_at hl 1 rfl) ?_
    refine lv_iload C.1 C.2.1 dL_law_1155 (lv_at hl 5 rfl) ?_
    refine z_iconst C dL_law_1157 ?_
    refine z_iadd C dL_law_1158 ?_
    refine zd_ld C Z G q2 (x.toNat + 2) e2 (by omega) (by omega) dL_law_1159 ?_
    refine zd_M (as := [.int (iZ (q1)), .int (iZ (q2))]) C Y G (c_X5_root l D cJ u v _ _ _ _ _ (q1) (q2) (by first | assumption | omega) (by first | assumption | omega)) ml_L_231 rfl ⟨Nat.le_of_ble_eq_true rfl, Nat.le_of_ble_eq_true rfl⟩ ⟨by show cells + 0 + 0 ≤ 665281; omega, by show slots + 0 + 0 ≤ 7105636; omega⟩ hl (Nat.le_of_ble_eq_true rfl) rfl dL_law_1160 (fun y9 H locs hy9 G => ?_)
    subst hy9
    refine lv_istore (lv' := [(6, _), (5, .int (iZ (0))), (0, .ref t), (1, .ref o), (2, .ref u), (3, .ref w), (4, .int (iZ (x)))]) C.1 C.2.1 dL_law_1163 hl (by decide) rfl (fun ls hl => ?_)
    refine lv_goto (tgt := 2172) C.1 C.2.1 dL_law_1165 (by decide) ?_
    rw [wE_eq (hc _)] at G
    exact kk _ _ _ _ _ _ _ _ _ _ _ _ G (by omega) (by omega) (lv_sub hl [2, 3, 4, 5, 6] rfl)
  · skip
    refine lv_aload_n C.1 C.2.1 dL_law_1128 rfl (lv_at hl 1 rfl) ?_
    refine lv_aload_n C.1 C.2.1 dL_law_1129 rfl (lv_at hl 0 rfl) ?_
    refine lv_iload C.1 C.2.1 dL_law_1130 (lv_at hl 4 rfl) ?_
    refine z_iconst C dL_law_1132 ?_
    refine z_iadd C dL_law_1133 ?_
    refine zd_ld C Z G q1 (x.toNat + 1) e1 (by omega) (by omega) dL_law_1134 ?_
    refine lv_aload_n C.1 C.2.1 dL_law_1135 rfl (lv_at hl 0 rfl) ?_
    refine lv_iload C.1 C.2.1 dL_law_1136 (lv_at hl 4 rfl) ?_
    refine z_iconst C dL_law_1138 ?_
    refine z_iadd C dL_law_1139 ?_
    refine zd_ld C Z G q2 (x.toNat + 2) e2 (by omega) (by omega) dL_law_1140 ?_
    refine lv_aload_n C.1 C.2.1 dL_law_1141 rfl (lv_at hl 3 rfl) ?_
    refine zd_W (as := [.ref o, .int (iZ (q1)), .int (iZ (q2)), .ref w]) C Z Y G (c_L_root_badc l hlq D cJ o a _ _ _ _ (q1) (q2) (by first | assumption | omega) (by first | assumption | omega) (by first | assumption | omega) w _ _) ml_L_229 ⟨Nat.le_of_ble_eq_true rfl, Nat.le_of_ble_eq_true rfl⟩ ⟨by show cells + 0 + 1 ≤ 665281; omega, by show slots + 0 + 6 ≤ 7105636; omega⟩ hl (Nat.le_of_ble_eq_true rfl) rfl dL_law_1142 (fun H locs G => ?_)
    refine lv_istore (lv' := [(5, .int (iZ (1))), (0, .ref t), (1, .ref o), (2, .ref u), (3, .ref w), (4, .int (iZ (x)))]) C.1 C.2.1 dL_law_1145 hl (by decide) rfl (fun ls hl => ?_)
    refine lv_aload_n C.1 C.2.1 dL_law_1147 rfl (lv_at hl 3 rfl) ?_
    refine lv_aload_n C.1 C.2.1 dL_law_1148 rfl (lv_at hl 1 rfl) ?_
    refine lv_iload C.1 C.2.1 dL_law_1149 (lv_at hl 5 rfl) ?_
    refine z_iconst C dL_law_1151 ?_
    refine z_iadd C dL_law_1152 ?_
    refine zd_ld C Z G q1 (x.toNat + 1) e1 (by omega) (by omega) dL_law_1153 ?_
    refine lv_aload_n C.1 C.2.1 dL_law_1154 rfl (lv_at hl 1 rfl) ?_
    refine lv_iload C.1 C.2.1 dL_law_1155 (lv_at hl 5 rfl) ?_
    refine z_iconst C dL_law_1157 ?_
    refine z_iadd C dL_law_1158 ?_
    refine zd_ld C Z G q2 (x.toNat + 2) e2 (by omega) (by omega) dL_law_1159 ?_
    refine zd_M (as := [.int (iZ (q1)), .int (iZ (q2))]) C Y G (c_X5_root_bad1 l D cJ u v _ _ _ _ _ (q1) (q2) (by first | assumption | omega) (by first | assumption | omega) (by first | assumption | omega)) ml_L_231 rfl ⟨Nat.le_of_ble_eq_true rfl, Nat.le_of_ble_eq_true rfl⟩ ⟨by show cells + 1 + 0 ≤ 665281; omega, by show slots + 6 + 0 ≤ 7105636; omega⟩ hl (Nat.le_of_ble_eq_true rfl) rfl dL_law_1160 (fun y9 H locs hy9 G => ?_)
    subst hy9
    refine lv_istore (lv' := [(6, _), (5, .int (iZ (1))), (0, .ref t), (1, .ref o), (2, .ref u), (3, .ref w), (4, .int (iZ (x)))]) C.1 C.2.1 dL_law_1163 hl (by decide) rfl (fun ls hl => ?_)
    refine lv_goto (tgt := 2172) C.1 C.2.1 dL_law_1165 (by decide) ?_
    exact kk _ _ _ _ _ _ _ _ _ _ _ _ G (by omega) (by omega) (lv_sub hl [2, 3, 4, 5, 6] rfl)
set_option maxHeartbeats 4000000 in
set_option maxRecDepth 100000 in
theorem lk_18 (hlq : l.stackTraces = false) (C : CallFix p m c0 cL_law 7 s args T0 RL) (Z : zLw D cB t N g s) (Y : zAd o a u v w s) {c : Nat → Nat} {ac re kn : Int32} {th : Int} {n : Int64} {sv : Value} {H : Heap} {locs : List Loc} {ls : Array Slot} {cells slots : Nat} (G : zG D cJ o a u v w c [.int ac, .int re, .int kn] c [.int (iZ th), .int ac, .int re, .int kn] n sv s H locs) (x : Int) (hx : 0 ≤ x ∧ x + 5 ≤ (N : Int)) (hf : cells + 150 ≤ 665281 ∧ slots + 75000 ≤ 7105636) (hl : lv_has ls 7 [(0, .ref t), (1, .ref o), (2, .ref u), (3, .ref w), (4, .int (iZ (x)))])
    (kk : zNx p l e s m args below meth c0 D cJ t o a u v w x cells slots Qw 2172) : W p l e room_1 s m args below meth c0 H locs cells slots Qw (F0 m 1168 ls []) := by
  have hc := G.1.2.2.2
  obtain ⟨q1, e1⟩ : ∃ z, g (x.toNat + 1) = z := ⟨_, rfl⟩
  have r1 : -2147483648 ≤ q1 ∧ q1 ≤ 2147483647 := e1 ▸ Z.2.2.2.2.2.1 _
  obtain ⟨q2, e2⟩ : ∃ z, g (x.toNat + 2) = z := ⟨_, rfl⟩
  have r2 : -2147483648 ≤ q2 ∧ q2 ≤ 2147483647 := e2 ▸ Z.2.2.2.2.2.1 _
  by_cases hcel : (0 ≤ q1 ∧ q1 ≤ 5) ∧ (0 ≤ q2 ∧ q2 ≤ 5)
  · skip
    refine lv_aload_n C.1 C.2.1 dL_law_1168 rfl (lv_at hl 1 rfl) ?_
    refine lv_aload_n C.1 C.2.1 dL_law_1169 rfl (lv_at hl 0 rfl) ?_
    refine lv_iload C.1 C.2.1 dL_law_1170 (lv_at hl 4 rfl) ?_
    refine z_iconst C dL_law_1172 ?_
    refine z_iadd C dL_law_1173 ?_
    refine zd_ld C Z G q1 (x.toNat + 1) e1 (by omega) (by omega) dL_law_1174 ?_
    refine lv_aload_n C.1 C.2.1 dL_law_1175 rfl (lv_at hl 0 rfl) ?_
    refine lv_iload C.1 C.2.1 dL_law_1176 (lv_at hl 4 rfl) ?_
    refine z_iconst C dL_law_1178 ?_
    refine z_iadd C dL_law_1179 ?_
    refine zd_ld C Z G q2 (x.toNat + 2) e2 (by omega) (by omega) dL_law_1180 ?_
    refine lv_aload_n C.1 C.2.1 dL_law_1181 rfl (lv_at hl 3 rfl) ?_
    refine zd_W (as := [.ref o, .int (iZ (q1)), .int (iZ (q2)), .ref w]) C Z Y G (c_L_turn l D cJ o a _ _ _ _ (q1) (q2) (by first | assumption | omega) (by first | assumption | omega) w _ _) ml_L_232 ⟨Nat.le_of_ble_eq_true rfl, Nat.le_of_ble_eq_true rfl⟩ ⟨by show cells + 0 + 0 ≤ 665281; omega, by show slots + 0 + 0 ≤ 7105636; omega⟩ hl (Nat.le_of_ble_eq_true rfl) rfl dL_law_1182 (fun H locs G => ?_)
    refine lv_istore (lv' := [(5, .int (iZ (0))), (0, .ref t), (1, .ref o), (2, .ref u), (3, .ref w), (4, .int (iZ (x)))]) C.1 C.2.1 dL_law_1185 hl (by decide) rfl (fun ls hl => ?_)
    refine lv_aload_n C.1 C.2.1 dL_law_1187 rfl (lv_at hl 3 rfl) ?_
    refine lv_aload_n C.1 C.2.1 dL_law_1188 rfl (lv_at hl 1 rfl) ?_
    refine lv_iload C.1 C.2.1 dL_law_1189 (lv_at hl 5 rfl) ?_
    refine z_iconst C dL_law_1191 ?_
    refine z_iadd C dL_law_1192 ?_
    refine zd_ld C Z G q1 (x.toNat + 1) e1 (by omega) (by omega) dL_law_1193 ?_
    refine lv_aload_n C.1 C.2.1 dL_law_1194 rfl (lv_at hl 1 rfl) ?_
    refine lv_iload C.1 C.2.1 dL_law_1195 (lv_at hl 5 rfl) ?_
    refine z_iconst C dL_law_1197 ?_
    refine z_iadd C dL_law_1198 ?_
    refine zd_ld C Z G q2 (x.toNat + 2) e2 (by omega) (by omega) dL_law_1199 ?_
    refine zd_M (as := [.int (iZ (q1)), .int (iZ (q2))]) C Y G (c_X5_turn l D cJ u v _ _ _ _ _ (q1) (q2) (by first | assumption | omega) (by first | assumption | omega)) ml_L_234 rfl ⟨Nat.le_of_ble_eq_true rfl, Nat.le_of_ble_eq_true rfl⟩ ⟨by show cells + 0 + 0 ≤ 665281; omega, by show slots + 0 + 0 ≤ 7105636; omega⟩ hl (Nat.le_of_ble_eq_true rfl) rfl dL_law_1200 (fun y9 H locs hy9 G => ?_)
    subst hy9
    refine lv_istore (lv' := [(6, _), (5, .int (iZ (0))), (0, .ref t), (1, .ref o), (2, .ref u), (3, .ref w), (4, .int (iZ (x)))]) C.1 C.2.1 dL_law_1203 hl (by decide) rfl (fun ls hl => ?_)
    refine lv_goto (tgt := 2172) C.1 C.2.1 dL_law_1205 (by decide) ?_
    rw [tu_eq] at G
    exact kk _ _ _ _ _ _ _ _ _ _ _ _ G (by omega) (by omega) (lv_sub hl [2, 3, 4, 5, 6] rfl)
  · skip
    refine lv_aload_n C.1 C.2.1 dL_law_1168 rfl (lv_at hl 1 rfl) ?_
    refine lv_aload_n C.1 C.2.1 dL_law_1169 rfl (lv_at hl 0 rfl) ?_
    refine lv_iload C.1 C.2.1 dL_law_1170 (lv_at hl 4 rfl) ?_
    refine z_iconst C dL_law_1172 ?_
    refine z_iadd C dL_law_1173 ?_
    refine zd_ld C Z G q1 (x.toNat + 1) e1 (by omega) (by omega) dL_law_1174 ?_
    refine lv_aload_n C.1 C.2.1 dL_law_1175 rfl (lv_at hl 0 rfl) ?_
    refine lv_iload C.1 C.2.1 dL_law_1176 (lv_at hl 4 rfl) ?_
    refine z_iconst C dL_law_1178 ?_
    refine z_iadd C dL_law_1179 ?_
    refine zd_ld C Z G q2 (x.toNat + 2) e2 (by omega) (by omega) dL_law_1180 ?_
    refine lv_aload_n C.1 C.2.1 dL_law_1181 rfl (lv_at hl 3 rfl) ?_
    refine zd_W (as := [.ref o, .int (iZ (q1)), .int (iZ (q2)), .ref w]) C Z Y G (c_L_turn_badc l hlq D cJ o a _ _ _ _ (q1) (q2) (by first | assumption | omega) (by first | assumption | omega) (by first | assumption | omega) w _ _) ml_L_232 ⟨Nat.le_of_ble_eq_true rfl, Nat.le_of_ble_eq_true rfl⟩ ⟨by show cells + 0 + 1 ≤ 665281; omega, by show slots + 0 + 6 ≤ 7105636; omega⟩ hl (Nat.le_of_ble_eq_true rfl) rfl dL_law_1182 (fun H locs G => ?_)
    refine lv_istore (lv' := [(5, .int (iZ (1))), (0, .ref t), (1, .ref o), (2, .ref u), (3, .ref w), (4, .int (iZ (x)))]) C.1 C.2.1 dL_law_1185 hl (by decide) rfl (fun ls hl => ?_)
    refine lv_aload_n C.1 C.2.1 dL_law_1187 rfl (lv_at hl 3 rfl) ?_
    refine lv_aload_n C.1 C.2.1 dL_law_1188 rfl (lv_at hl 1 rfl) ?_
    refine lv_iload C.1 C.2.1 dL_law_1189 (lv_at hl 5 rfl) ?_
    refine z_iconst C dL_law_1191 ?_
    refine z_iadd C dL_law_1192 ?_
    refine zd_ld C Z G q1 (x.toNat + 1) e1 (by omega) (by omega) dL_law_1193 ?_
    refine lv_aload_n C.1 C.2.1 dL_law_1194 rfl (lv_at hl 1 rfl) ?_
    refine lv_iload C.1 C.2.1 dL_law_1195 (lv_at hl 5 rfl) ?_
    refine z_iconst C dL_law_1197 ?_
    refine z_iadd C dL_law_1198 ?_
    refine zd_ld C Z G q2 (x.toNat + 2) e2 (by omega) (by omega) dL_law_1199 ?_
    refine zd_M (as := [.int (iZ (q1)), .int (iZ (q2))]) C Y G (c_X5_turn_bad1 l D cJ u v _ _ _ _ _ (q1) (q2) (by first | assumption | omega) (by first | assumption | omega) (by first | assumption | omega)) ml_L_234 rfl ⟨Nat.le_of_ble_eq_true rfl, Nat.le_of_ble_eq_true rfl⟩ ⟨by show cells + 1 + 0 ≤ 665281; omega, by show slots + 6 + 0 ≤ 7105636; omega⟩ hl (Nat.le_of_ble_eq_true rfl) rfl dL_law_1200 (fun y9 H locs hy9 G => ?_)
    subst hy9
    refine lv_istore (lv' := [(6, _), (5, .int (iZ (1))), (0, .ref t), (1, .ref o), (2, .ref u), (3, .ref w), (4, .int (iZ (x)))]) C.1 C.2.1 dL_law_1203 hl (by decide) rfl (fun ls hl => ?_)
    refine lv_goto (tgt := 2172) C.1 C.2.1 dL_law_1205 (by decide) ?_
    exact kk _ _ _ _ _ _ _ _ _ _ _ _ G (by omega) (by omega) (lv_sub hl [2, 3, 4, 5, 6] rfl)
set_option maxHeartbeats 4000000 in
set_option maxRecDepth 100000 in
theorem lk_19 (hlq : l.stackTraces = false) (C : CallFix p m c0 cL_law 7 s args T0 RL) (Z : zLw D cB t N g s) (Y : zAd o a u v w s) {c : Nat → Nat} {ac re kn : Int32} {th : Int} {n : Int64} {sv : Value} {H : Heap} {locs : List Loc} {ls : Array Slot} {cells slots : Nat} (G : zG D cJ o a u v w c [.int ac, .int re, .int kn] c [.int (iZ th), .int ac, .int re, .int kn] n sv s H locs) (x : Int) (hx : 0 ≤ x ∧ x + 5 ≤ (N : Int)) (hf : cells + 150 ≤ 665281 ∧ slots + 75000 ≤ 7105636) (hl : lv_has ls 7 [(0, .ref t), (1, .ref o), (2, .ref u), (3, .ref w), (4, .int (iZ (x)))])
    (kk : zNx p l e s m args below meth c0 D cJ t o a u v w x cells slots Qw 2172) : W p l e room_1 s m args below meth c0 H locs cells slots Qw (F0 m 1208 ls []) := by
  have hc := G.1.2.2.2
  obtain ⟨q1, e1⟩ : ∃ z, g (x.toNat + 1) = z := ⟨_, rfl⟩
  have r1 : -2147483648 ≤ q1 ∧ q1 ≤ 2147483647 := e1 ▸ Z.2.2.2.2.2.1 _
  obtain ⟨q2, e2⟩ : ∃ z, g (x.toNat + 2) = z := ⟨_, rfl⟩
  have r2 : -2147483648 ≤ q2 ∧ q2 ≤ 2147483647 := e2 ▸ Z.2.2.2.2.2.1 _
  by_cases hcel : (0 ≤ q1 ∧ q1 ≤ 5) ∧ (0 ≤ q2 ∧ q2 ≤ 5)
  · skip
    refine lv_aload_n C.1 C.2.1 dL_law_1208 rfl (lv_at hl 1 rfl) ?_
    refine lv_aload_n C.1 C.2.1 dL_law_1209 rfl (lv_at hl 0 rfl) ?_
    refine lv_iload C.1 C.2.1 dL_law_1210 (lv_at hl 4 rfl) ?_
    refine z_iconst C dL_law_1212 ?_
    refine z_iadd C dL_law_1213 ?_
    refine zd_ld C Z G q1 (x.toNat + 1) e1 (by omega) (by omega) dL_law_1214 ?_
    refine lv_aload_n C.1 C.2.1 dL_law_1215 rfl (lv_at hl 0 rfl) ?_
    refine lv_iload C.1 C.2.1 dL_law_1216 (lv_at hl 4 rfl) ?_
    refine z_iconst C dL_law_1218 ?_
    refine z_iadd C dL_law_1219 ?_
    refine zd_ld C Z G q2 (x.toNat + 2) e2 (by omega) (by omega) dL_law_1220 ?_
    refine lv_aload_n C.1 C.2.1 dL_law_1221 rfl (lv_at hl 3 rfl) ?_
    refine zd_W (as := [.ref o, .int (iZ (q1)), .int (iZ (q2)), .ref w]) C Z Y G (c_L_move l D cJ o a _ _ _ _ (q1) (q2) (by first | assumption | omega) (by first | assumption | omega) w _ _) ml_L_235 ⟨Nat.le_of_ble_eq_true rfl, Nat.le_of_ble_eq_true rfl⟩ ⟨by show cells + 0 + 0 ≤ 665281; omega, by show slots + 0 + 0 ≤ 7105636; omega⟩ hl (Nat.le_of_ble_eq_true rfl) rfl dL_law_1222 (fun H locs G => ?_)
    refine lv_istore (lv' := [(5, .int (iZ (0))), (0, .ref t), (1, .ref o), (2, .ref u), (3, .ref w), (4, .int (iZ (x)))]) C.1 C.2.1 dL_law_1225 hl (by decide) rfl (fun ls hl => ?_)
    refine lv_aload_n C.1 C.2.1 dL_law_1227 rfl (lv_at hl 3 rfl) ?_
    refine lv_aload_n C.1 C.2.1 dL_law_1228 rfl (lv_at hl 1 rfl) ?_
    refine lv_iload C.1 C.2.1 dL_law_1229 (lv_at hl 5 rfl) ?_
    refine z_iconst C dL_law_1231 ?_
    refine z_iadd C dL_law_1232 ?_
    refine zd_ld C Z G q1 (x.toNat + 1) e1 (by omega) (by omega) dL_law_1233 ?_
    refine lv_aload_n C.1 C.2.1 dL_law_1234 rfl (lv_at hl 1 rfl) ?_
    refine lv_iload C.1 C.2.1 dL_law_1235 (lv_at hl 5 rfl) ?_
    refine z_iconst C dL_law_1237 ?_
    refine z_iadd C dL_law_1238 ?_
    refine zd_ld C Z G q2 (x.toNat + 2) e2 (by omega) (by omega) dL_law_1239 ?_
    refine zd_M (as := [.int (iZ (q1)), .int (iZ (q2))]) C Y G (c_X5_move l D cJ u v _ _ _ _ _ (q1) (q2) (by first | assumption | omega) (by first | assumption | omega)) ml_L_237 rfl ⟨Nat.le_of_ble_eq_true rfl, Nat.le_of_ble_eq_true rfl⟩ ⟨by show cells + 0 + 0 ≤ 665281; omega, by show slots + 0 + 0 ≤ 7105636; omega⟩ hl (Nat.le_of_ble_eq_true rfl) rfl dL_law_1240 (fun y9 H locs hy9 G => ?_)
    subst hy9
    refine lv_istore (lv' := [(6, _), (5, .int (iZ (0))), (0, .ref t), (1, .ref o), (2, .ref u), (3, .ref w), (4, .int (iZ (x)))]) C.1 C.2.1 dL_law_1243 hl (by decide) rfl (fun ls hl => ?_)
    refine lv_goto (tgt := 2172) C.1 C.2.1 dL_law_1245 (by decide) ?_
    rw [mv_eq (hc _)] at G
    exact kk _ _ _ _ _ _ _ _ _ _ _ _ G (by omega) (by omega) (lv_sub hl [2, 3, 4, 5, 6] rfl)
  · skip
    refine lv_aload_n C.1 C.2.1 dL_law_1208 rfl (lv_at hl 1 rfl) ?_
    refine lv_aload_n C.1 C.2.1 dL_law_1209 rfl (lv_at hl 0 rfl) ?_
    refine lv_iload C.1 C.2.1 dL_law_1210 (lv_at hl 4 rfl) ?_
    refine z_iconst C dL_law_1212 ?_
    refine z_iadd C dL_law_1213 ?_
    refine zd_ld C Z G q1 (x.toNat + 1) e1 (by omega) (by omega) dL_law_1214 ?_
    refine lv_aload_n C.1 C.2.1 dL_law_1215 rfl (lv_at hl 0 rfl) ?_
    refine lv_iload C.1 C.2.1 dL_law_1216 (lv_at hl 4 rfl) ?_
    refine z_iconst C dL_law_1218 ?_
    refine z_iadd C dL_law_1219 ?_
    refine zd_ld C Z G q2 (x.toNat + 2) e2 (by omega) (by omega) dL_law_1220 ?_
    refine lv_aload_n C.1 C.2.1 dL_law_1221 rfl (lv_at hl 3 rfl) ?_
    refine zd_W (as := [.ref o, .int (iZ (q1)), .int (iZ (q2)), .ref w]) C Z Y G (c_L_move_badc l hlq D cJ o a _ _ _ _ (q1) (q2) (by first | assumption | omega) (by first | assumption | omega) (by first | assumption | omega) w _ _) ml_L_235 ⟨Nat.le_of_ble_eq_true rfl, Nat.le_of_ble_eq_true rfl⟩ ⟨by show cells + 0 + 1 ≤ 665281; omega, by show slots + 0 + 6 ≤ 7105636; omega⟩ hl (Nat.le_of_ble_eq_true rfl) rfl dL_law_1222 (fun H locs G => ?_)
    refine lv_istore (lv' := [(5, .int (iZ (1))), (0, .ref t), (1, .ref o), (2, .ref u), (3, .ref w), (4, .int (iZ (x)))]) C.1 C.2.1 dL_law_1225 hl (by decide) rfl (fun ls hl => ?_)
    refine lv_aload_n C.1 C.2.1 dL_law_1227 rfl (lv_at hl 3 rfl) ?_
    refine lv_aload_n C.1 C.2.1 dL_law_1228 rfl (lv_at hl 1 rfl) ?_
    refine lv_iload C.1 C.2.1 dL_law_1229 (lv_at hl 5 rfl) ?_
    refine z_iconst C dL_law_1231 ?_
    refine z_iadd C dL_law_1232 ?_
    refine zd_ld C Z G q1 (x.toNat + 1) e1 (by omega) (by omega) dL_law_1233 ?_
    refine lv_aload_n C.1 C.2.1 dL_law_1234 rfl (lv_at hl 1 rfl) ?_
    refine lv_iload C.1 C.2.1 dL_law_1235 (lv_at hl 5 rfl) ?_
    refine z_iconst C dL_law_1237 ?_
    refine z_iadd C dL_law_1238 ?_
    refine zd_ld C Z G q2 (x.toNat + 2) e2 (by omega) (by omega) dL_law_1239 ?_
    refine zd_M (as := [.int (iZ (q1)), .int (iZ (q2))]) C Y G (c_X5_move_bad1 l D cJ u v _ _ _ _ _ (q1) (q2) (by first | assumption | omega) (by first | assumption | omega) (by first | assumption | omega)) ml_L_237 rfl ⟨Nat.le_of_ble_eq_true rfl, Nat.le_of_ble_eq_true rfl⟩ ⟨by show cells + 1 + 0 ≤ 665281; omega, by show slots + 6 + 0 ≤ 7105636; omega⟩ hl (Nat.le_of_ble_eq_true rfl) rfl dL_law_1240 (fun y9 H locs hy9 G => ?_)
    subst hy9
    refine lv_istore (lv' := [(6, _), (5, .int (iZ (1))), (0, .ref t), (1, .ref o), (2, .ref u), (3, .ref w), (4, .int (iZ (x)))]) C.1 C.2.1 dL_law_1243 hl (by decide) rfl (fun ls hl => ?_)
    refine lv_goto (tgt := 2172) C.1 C.2.1 dL_law_1245 (by decide) ?_
    exact kk _ _ _ _ _ _ _ _ _ _ _ _ G (by omega) (by omega) (lv_sub hl [2, 3, 4, 5, 6] rfl)
set_option maxHeartbeats 4000000 in
set_option maxRecDepth 100000 in
theorem lk_20 (hlq : l.stackTraces = false) (C : CallFix p m c0 cL_law 7 s args T0 RL) (Z : zLw D cB t N g s) (Y : zAd o a u v w s) {c : Nat → Nat} {ac re kn : Int32} {th : Int} {n : Int64} {sv : Value} {H : Heap} {locs : List Loc} {ls : Array Slot} {cells slots : Nat} (G : zG D cJ o a u v w c [.int ac, .int re, .int kn] c [.int (iZ th), .int ac, .int re, .int kn] n sv s H locs) (x : Int) (hx : 0 ≤ x ∧ x + 5 ≤ (N : Int)) (hf : cells + 150 ≤ 665281 ∧ slots + 75000 ≤ 7105636) (hl : lv_has ls 7 [(0, .ref t), (1, .ref o), (2, .ref u), (3, .ref w), (4, .int (iZ (x)))])
    (kk : zNx p l e s m args below meth c0 D cJ t o a u v w x cells slots Qw 2172) : W p l e room_1 s m args below meth c0 H locs cells slots Qw (F0 m 1248 ls []) := by
  have hc := G.1.2.2.2
  obtain ⟨q1, e1⟩ : ∃ z, g (x.toNat + 1) = z := ⟨_, rfl⟩
  have r1 : -2147483648 ≤ q1 ∧ q1 ≤ 2147483647 := e1 ▸ Z.2.2.2.2.2.1 _
  obtain ⟨q2, e2⟩ : ∃ z, g (x.toNat + 2) = z := ⟨_, rfl⟩
  have r2 : -2147483648 ≤ q2 ∧ q2 ≤ 2147483647 := e2 ▸ Z.2.2.2.2.2.1 _
  obtain ⟨q3, e3⟩ : ∃ z, g (x.toNat + 3) = z := ⟨_, rfl⟩
  have r3 : -2147483648 ≤ q3 ∧ q3 ≤ 2147483647 := e3 ▸ Z.2.2.2.2.2.1 _
  obtain ⟨q4, e4⟩ : ∃ z, g (x.toNat + 4) = z := ⟨_, rfl⟩
  have r4 : -2147483648 ≤ q4 ∧ q4 ≤ 2147483647 := e4 ▸ Z.2.2.2.2.2.1 _
  by_cases hcel : (0 ≤ q1 ∧ q1 ≤ 5) ∧ (0 ≤ q3 ∧ q3 ≤ 5) ∧ (0 ≤ q4 ∧ q4 ≤ 5)
  · skip
    by_cases hrng : (0 ≤ q2 ∧ q2 ≤ 255)
    · skip
      refine lv_aload_n C.1 C.2.1 dL_law_1248 rfl (lv_at hl 1 rfl) ?_
      refine lv_aload_n C.1 C.2.1 dL_law_1249 rfl (lv_at hl 0 rfl) ?_
      refine lv_iload C.1 C.2.1 dL_law_1250 (lv_at hl 4 rfl) ?_
      refine z_iconst C dL_law_1252 ?_
      refine z_iadd C dL_law_1253 ?_
      refine zd_ld C Z G q1 (x.toNat + 1) e1 (by omega) (by omega) dL_law_1254 ?_
      refine lv_aload_n C.1 C.2.1 dL_law_1255 rfl (lv_at hl 0 rfl) ?_
      refine lv_iload C.1 C.2.1 dL_law_1256 (lv_at hl 4 rfl) ?_
      refine z_iconst C dL_law_1258 ?_
      refine z_iadd C dL_law_1259 ?_
      refine zd_ld C Z G q2 (x.toNat + 2) e2 (by omega) (by omega) dL_law_1260 ?_
      refine lv_aload_n C.1 C.2.1 dL_law_1261 rfl (lv_at hl 0 rfl) ?_
      refine lv_iload C.1 C.2.1 dL_law_1262 (lv_at hl 4 rfl) ?_
      refine z_iconst C dL_law_1264 ?_
      refine z_iadd C dL_law_1265 ?_
      refine zd_ld C Z G q3 (x.toNat + 3) e3 (by omega) (by omega) dL_law_1266 ?_
      refine lv_aload_n C.1 C.2.1 dL_law_1267 rfl (lv_at hl 0 rfl) ?_
      refine lv_iload C.1 C.2.1 dL_law_1268 (lv_at hl 4 rfl) ?_
      refine z_iconst C dL_law_1270 ?_
      refine z_iadd C dL_law_1271 ?_
      refine zd_ld C Z G q4 (x.toNat + 4) e4 (by omega) (by omega) dL_law_1272 ?_
      refine lv_aload_n C.1 C.2.1 dL_law_1273 rfl (lv_at hl 3 rfl) ?_
      refine zd_W (as := [.ref o, .int (iZ (q1)), .int (iZ (q2)), .int (iZ (q3)), .int (iZ (q4)), .ref w]) C Z Y G (c_L_power l D cJ o a _ _ _ _ (q1) (q2) (q3) (q4) (by first | assumption | omega) (by first | assumption | omega) (by first | assumption | omega) (by first | assumption | omega) w _ _) ml_L_238 ⟨Nat.le_of_ble_eq_true rfl, Nat.le_of_ble_eq_true rfl⟩ ⟨by show cells + 0 + 0 ≤ 665281; omega, by show slots + 0 + 0 ≤ 7105636; omega⟩ hl (Nat.le_of_ble_eq_true rfl) rfl dL_law_1274 (fun H locs G => ?_)
      refine lv_istore (lv' := [(5, .int (iZ (0))), (0, .ref t), (1, .ref o), (2, .ref u), (3, .ref w), (4, .int (iZ (x)))]) C.1 C.2.1 dL_law_1277 hl (by decide) rfl (fun ls hl => ?_)
      refine lv_aload_n C.1 C.2.1 dL_law_1279 rfl (lv_at hl 3 rfl) ?_
      refine lv_aload_n C.1 C.2.1 dL_law_1280 rfl (lv_at hl 1 rfl) ?_
      refine lv_iload C.1 C.2.1 dL_law_1281 (lv_at hl 5 rfl) ?_
      refine z_iconst C dL_law_1283 ?_
      refine z_iadd C dL_law_1284 ?_
      refine zd_ld C Z G q1 (x.toNat + 1) e1 (by omega) (by omega) dL_law_1285 ?_
      refine lv_aload_n C.1 C.2.1 dL_law_1286 rfl (lv_at hl 1 rfl) ?_
      refine lv_iload C.1 C.2.1 dL_law_1287 (lv_at hl 5 rfl) ?_
      refine z_iconst C dL_law_1289 ?_
      refine z_iadd C dL_law_1290 ?_
      refine zd_ld C Z G q2 (x.toNat + 2) e2 (by omega) (by omega) dL_law_1291 ?_
      refine lv_aload_n C.1 C.2.1 dL_law_1292 rfl (lv_at hl 1 rfl) ?_
      refine lv_iload C.1 C.2.1 dL_law_1293 (lv_at hl 5 rfl) ?_
      refine z_iconst C dL_law_1295 ?_
      refine z_iadd C dL_law_1296 ?_
      refine zd_ld C Z G q3 (x.toNat + 3) e3 (by omega) (by omega) dL_law_1297 ?_
      refine lv_aload_n C.1 C.2.1 dL_law_1298 rfl (lv_at hl 1 rfl) ?_
      refine lv_iload C.1 C.2.1 dL_law_1299 (lv_at hl 5 rfl) ?_
      refine z_iconst C dL_law_1301 ?_
      refine z_iadd C dL_law_1302 ?_
      refine zd_ld C Z G q4 (x.toNat + 4) e4 (by omega) (by omega) dL_law_1303 ?_
      refine zd_M (as := [.int (iZ (q1)), .int (iZ (q2)), .int (iZ (q3)), .int (iZ (q4))]) C Y G (c_X5_power l D cJ u v _ _ _ _ _ (q1) (q2) (q3) (q4) (by first | assumption | omega) (by first | assumption | omega) (by first | assumption | omega) (by first | assumption | omega)) ml_L_240 rfl ⟨Nat.le_of_ble_eq_true rfl, Nat.le_of_ble_eq_true rfl⟩ ⟨by show cells + 0 + 0 ≤ 665281; omega, by show slots + 0 + 0 ≤ 7105636; omega⟩ hl (Nat.le_of_ble_eq_true rfl) rfl dL_law_1304 (fun y9 H locs hy9 G => ?_)
      subst hy9
      refine lv_istore (lv' := [(6, _), (5, .int (iZ (0))), (0, .ref t), (1, .ref o), (2, .ref u), (3, .ref w), (4, .int (iZ (x)))]) C.1 C.2.1 dL_law_1307 hl (by decide) rfl (fun ls hl => ?_)
      refine lv_goto (tgt := 2172) C.1 C.2.1 dL_law_1309 (by decide) ?_
      rw [wP_eq (hc _) (hc _) (by omega)] at G
      exact kk _ _ _ _ _ _ _ _ _ _ _ _ G (by omega) (by omega) (lv_sub hl [2, 3, 4, 5, 6] rfl)
    · skip
      refine lv_aload_n C.1 C.2.1 dL_law_1248 rfl (lv_at hl 1 rfl) ?_
      refine lv_aload_n C.1 C.2.1 dL_law_1249 rfl (lv_at hl 0 rfl) ?_
      refine lv_iload C.1 C.2.1 dL_law_1250 (lv_at hl 4 rfl) ?_
      refine z_iconst C dL_law_1252 ?_
      refine z_iadd C dL_law_1253 ?_
      refine zd_ld C Z G q1 (x.toNat + 1) e1 (by omega) (by omega) dL_law_1254 ?_
      refine lv_aload_n C.1 C.2.1 dL_law_1255 rfl (lv_at hl 0 rfl) ?_
      refine lv_iload C.1 C.2.1 dL_law_1256 (lv_at hl 4 rfl) ?_
      refine z_iconst C dL_law_1258 ?_
      refine z_iadd C dL_law_1259 ?_
      refine zd_ld C Z G q2 (x.toNat + 2) e2 (by omega) (by omega) dL_law_1260 ?_
      refine lv_aload_n C.1 C.2.1 dL_law_1261 rfl (lv_at hl 0 rfl) ?_
      refine lv_iload C.1 C.2.1 dL_law_1262 (lv_at hl 4 rfl) ?_
      refine z_iconst C dL_law_1264 ?_
      refine z_iadd C dL_law_1265 ?_
      refine zd_ld C Z G q3 (x.toNat + 3) e3 (by omega) (by omega) dL_law_1266 ?_
      refine lv_aload_n C.1 C.2.1 dL_law_1267 rfl (lv_at hl 0 rfl) ?_
      refine lv_iload C.1 C.2.1 dL_law_1268 (lv_at hl 4 rfl) ?_
      refine z_iconst C dL_law_1270 ?_
      refine z_iadd C dL_law_1271 ?_
      refine zd_ld C Z G q4 (x.toNat + 4) e4 (by omega) (by omega) dL_law_1272 ?_
      refine lv_aload_n C.1 C.2.1 dL_law_1273 rfl (lv_at hl 3 rfl) ?_
      refine zd_W (as := [.ref o, .int (iZ (q1)), .int (iZ (q2)), .int (iZ (q3)), .int (iZ (q4)), .ref w]) C Z Y G (c_L_power_badr l hlq D cJ o a _ _ _ _ (q1) (q2) (q3) (q4) (by first | assumption | omega) (by first | assumption | omega) (by first | assumption | omega) (by first | assumption | omega) (by first | assumption | omega) (by first | assumption | omega) (by first | assumption | omega) (by first | assumption | omega) w _ _) ml_L_238 ⟨Nat.le_of_ble_eq_true rfl, Nat.le_of_ble_eq_true rfl⟩ ⟨by show cells + 0 + 1 ≤ 665281; omega, by show slots + 0 + 6 ≤ 7105636; omega⟩ hl (Nat.le_of_ble_eq_true rfl) rfl dL_law_1274 (fun H locs G => ?_)
      refine lv_istore (lv' := [(5, .int (iZ (2))), (0, .ref t), (1, .ref o), (2, .ref u), (3, .ref w), (4, .int (iZ (x)))]) C.1 C.2.1 dL_law_1277 hl (by decide) rfl (fun ls hl => ?_)
      refine lv_aload_n C.1 C.2.1 dL_law_1279 rfl (lv_at hl 3 rfl) ?_
      refine lv_aload_n C.1 C.2.1 dL_law_1280 rfl (lv_at hl 1 rfl) ?_
      refine lv_iload C.1 C.2.1 dL_law_1281 (lv_at hl 5 rfl) ?_
      refine z_iconst C dL_law_1283 ?_
      refine z_iadd C dL_law_1284 ?_
      refine zd_ld C Z G q1 (x.toNat + 1) e1 (by omega) (by omega) dL_law_1285 ?_
      refine lv_aload_n C.1 C.2.1 dL_law_1286 rfl (lv_at hl 1 rfl) ?_
      refine lv_iload C.1 C.2.1 dL_law_1287 (lv_at hl 5 rfl) ?_
      refine z_iconst C dL_law_1289 ?_
      refine z_iadd C dL_law_1290 ?_
      refine zd_ld C Z G q2 (x.toNat + 2) e2 (by omega) (by omega) dL_law_1291 ?_
      refine lv_aload_n C.1 C.2.1 dL_law_1292 rfl (lv_at hl 1 rfl) ?_
      refine lv_iload C.1 C.2.1 dL_law_1293 (lv_at hl 5 rfl) ?_
      refine z_iconst C dL_law_1295 ?_
      refine z_iadd C dL_law_1296 ?_
      refine zd_ld C Z G q3 (x.toNat + 3) e3 (by omega) (by omega) dL_law_1297 ?_
      refine lv_aload_n C.1 C.2.1 dL_law_1298 rfl (lv_at hl 1 rfl) ?_
      refine lv_iload C.1 C.2.1 dL_law_1299 (lv_at hl 5 rfl) ?_
      refine z_iconst C dL_law_1301 ?_
      refine z_iadd C dL_law_1302 ?_
      refine zd_ld C Z G q4 (x.toNat + 4) e4 (by omega) (by omega) dL_law_1303 ?_
      refine zd_M (as := [.int (iZ (q1)), .int (iZ (q2)), .int (iZ (q3)), .int (iZ (q4))]) C Y G (c_X5_power_bad2 l D cJ u v _ _ _ _ _ (q1) (q2) (q3) (q4) (by first | assumption | omega) (by first | assumption | omega) (by first | assumption | omega) (by first | assumption | omega) (by first | assumption | omega) (by first | assumption | omega)) ml_L_240 rfl ⟨Nat.le_of_ble_eq_true rfl, Nat.le_of_ble_eq_true rfl⟩ ⟨by show cells + 1 + 0 ≤ 665281; omega, by show slots + 6 + 0 ≤ 7105636; omega⟩ hl (Nat.le_of_ble_eq_true rfl) rfl dL_law_1304 (fun y9 H locs hy9 G => ?_)
      subst hy9
      refine lv_istore (lv' := [(6, _), (5, .int (iZ (2))), (0, .ref t), (1, .ref o), (2, .ref u), (3, .ref w), (4, .int (iZ (x)))]) C.1 C.2.1 dL_law_1307 hl (by decide) rfl (fun ls hl => ?_)
      refine lv_goto (tgt := 2172) C.1 C.2.1 dL_law_1309 (by decide) ?_
      exact kk _ _ _ _ _ _ _ _ _ _ _ _ G (by omega) (by omega) (lv_sub hl [2, 3, 4, 5, 6] rfl)
  · skip
    refine lv_aload_n C.1 C.2.1 dL_law_1248 rfl (lv_at hl 1 rfl) ?_
    refine lv_aload_n C.1 C.2.1 dL_law_1249 rfl (lv_at hl 0 rfl) ?_
    refine lv_iload C.1 C.2.1 dL_law_1250 (lv_at hl 4 rfl) ?_
    refine z_iconst C dL_law_1252 ?_
    refine z_iadd C dL_law_1253 ?_
    refine zd_ld C Z G q1 (x.toNat + 1) e1 (by omega) (by omega) dL_law_1254 ?_
    refine lv_aload_n C.1 C.2.1 dL_law_1255 rfl (lv_at hl 0 rfl) ?_
    refine lv_iload C.1 C.2.1 dL_law_1256 (lv_at hl 4 rfl) ?_
    refine z_iconst C dL_law_1258 ?_
    refine z_iadd C dL_law_1259 ?_
    refine zd_ld C Z G q2 (x.toNat + 2) e2 (by omega) (by omega) dL_law_1260 ?_
    refine lv_aload_n C.1 C.2.1 dL_law_1261 rfl (lv_at hl 0 rfl) ?_
    refine lv_iload C.1 C.2.1 dL_law_1262 (lv_at hl 4 rfl) ?_
    refine z_iconst C dL_law_1264 ?_
    refine z_iadd C dL_law_1265 ?_
    refine zd_ld C Z G q3 (x.toNat + 3) e3 (by omega) (by omega) dL_law_1266 ?_
    refine lv_aload_n C.1 C.2.1 dL_law_1267 rfl (lv_at hl 0 rfl) ?_
    refine lv_iload C.1 C.2.1 dL_law_1268 (lv_at hl 4 rfl) ?_
    refine z_iconst C dL_law_1270 ?_
    refine z_iadd C dL_law_1271 ?_
    refine zd_ld C Z G q4 (x.toNat + 4) e4 (by omega) (by omega) dL_law_1272 ?_
    refine lv_aload_n C.1 C.2.1 dL_law_1273 rfl (lv_at hl 3 rfl) ?_
    refine zd_W (as := [.ref o, .int (iZ (q1)), .int (iZ (q2)), .int (iZ (q3)), .int (iZ (q4)), .ref w]) C Z Y G (c_L_power_badc l hlq D cJ o a _ _ _ _ (q1) (q2) (q3) (q4) (by first | assumption | omega) (by first | assumption | omega) (by first | assumption | omega) (by first | assumption | omega) (by first | assumption | omega) w _ _) ml_L_238 ⟨Nat.le_of_ble_eq_true rfl, Nat.le_of_ble_eq_true rfl⟩ ⟨by show cells + 0 + 1 ≤ 665281; omega, by show slots + 0 + 6 ≤ 7105636; omega⟩ hl (Nat.le_of_ble_eq_true rfl) rfl dL_law_1274 (fun H locs G => ?_)
    refine lv_istore (lv' := [(5, .int (iZ (1))), (0, .ref t), (1, .ref o), (2, .ref u), (3, .ref w), (4, .int (iZ (x)))]) C.1 C.2.1 dL_law_1277 hl (by decide) rfl (fun ls hl => ?_)
    refine lv_aload_n C.1 C.2.1 dL_law_1279 rfl (lv_at hl 3 rfl) ?_
    refine lv_aload_n C.1 C.2.1 dL_law_1280 rfl (lv_at hl 1 rfl) ?_
    refine lv_iload C.1 C.2.1 dL_law_1281 (lv_at hl 5 rfl) ?_
    refine z_iconst C dL_law_1283 ?_
    refine z_iadd C dL_law_1284 ?_
    refine zd_ld C Z G q1 (x.toNat + 1) e1 (by omega) (by omega) dL_law_1285 ?_
    refine lv_aload_n C.1 C.2.1 dL_law_1286 rfl (lv_at hl 1 rfl) ?_
    refine lv_iload C.1 C.2.1 dL_law_1287 (lv_at hl 5 rfl) ?_
    refine z_iconst C dL_law_1289 ?_
    refine z_iadd C dL_law_1290 ?_
    refine zd_ld C Z G q2 (x.toNat + 2) e2 (by omega) (by omega) dL_law_1291 ?_
    refine lv_aload_n C.1 C.2.1 dL_law_1292 rfl (lv_at hl 1 rfl) ?_
    refine lv_iload C.1 C.2.1 dL_law_1293 (lv_at hl 5 rfl) ?_
    refine z_iconst C dL_law_1295 ?_
    refine z_iadd C dL_law_1296 ?_
    refine zd_ld C Z G q3 (x.toNat + 3) e3 (by omega) (by omega) dL_law_1297 ?_
    refine lv_aload_n C.1 C.2.1 dL_law_1298 rfl (lv_at hl 1 rfl) ?_
    refine lv_iload C.1 C.2.1 dL_law_1299 (lv_at hl 5 rfl) ?_
    refine z_iconst C dL_law_1301 ?_
    refine z_iadd C dL_law_1302 ?_
    refine zd_ld C Z G q4 (x.toNat + 4) e4 (by omega) (by omega) dL_law_1303 ?_
    refine zd_M (as := [.int (iZ (q1)), .int (iZ (q2)), .int (iZ (q3)), .int (iZ (q4))]) C Y G (c_X5_power_bad1 l D cJ u v _ _ _ _ _ (q1) (q2) (q3) (q4) (by first | assumption | omega) (by first | assumption | omega) (by first | assumption | omega) (by first | assumption | omega) (by first | assumption | omega)) ml_L_240 rfl ⟨Nat.le_of_ble_eq_true rfl, Nat.le_of_ble_eq_true rfl⟩ ⟨by show cells + 1 + 0 ≤ 665281; omega, by show slots + 6 + 0 ≤ 7105636; omega⟩ hl (Nat.le_of_ble_eq_true rfl) rfl dL_law_1304 (fun y9 H locs hy9 G => ?_)
    subst hy9
    refine lv_istore (lv' := [(6, _), (5, .int (iZ (1))), (0, .ref t), (1, .ref o), (2, .ref u), (3, .ref w), (4, .int (iZ (x)))]) C.1 C.2.1 dL_law_1307 hl (by decide) rfl (fun ls hl => ?_)
    refine lv_goto (tgt := 2172) C.1 C.2.1 dL_law_1309 (by decide) ?_
    exact kk _ _ _ _ _ _ _ _ _ _ _ _ G (by omega) (by omega) (lv_sub hl [2, 3, 4, 5, 6] rfl)
set_option maxHeartbeats 4000000 in
set_option maxRecDepth 100000 in
theorem lk_21 (hlq : l.stackTraces = false) (C : CallFix p m c0 cL_law 7 s args T0 RL) (Z : zLw D cB t N g s) (Y : zAd o a u v w s) {c : Nat → Nat} {ac re kn : Int32} {th : Int} {n : Int64} {sv : Value} {H : Heap} {locs : List Loc} {ls : Array Slot} {cells slots : Nat} (G : zG D cJ o a u v w c [.int ac, .int re, .int kn] c [.int (iZ th), .int ac, .int re, .int kn] n sv s H locs) (x : Int) (hx : 0 ≤ x ∧ x + 5 ≤ (N : Int)) (hf : cells + 150 ≤ 665281 ∧ slots + 75000 ≤ 7105636) (hl : lv_has ls 7 [(0, .ref t), (1, .ref o), (2, .ref u), (3, .ref w), (4, .int (iZ (x)))])
    (kk : zNx p l e s m args below meth c0 D cJ t o a u v w x cells slots Qw 2172) : W p l e room_1 s m args below meth c0 H locs cells slots Qw (F0 m 1312 ls []) := by
  have hc := G.1.2.2.2
  obtain ⟨q1, e1⟩ : ∃ z, g (x.toNat + 1) = z := ⟨_, rfl⟩
  have r1 : -2147483648 ≤ q1 ∧ q1 ≤ 2147483647 := e1 ▸ Z.2.2.2.2.2.1 _
  obtain ⟨q2, e2⟩ : ∃ z, g (x.toNat + 2) = z := ⟨_, rfl⟩
  have r2 : -2147483648 ≤ q2 ∧ q2 ≤ 2147483647 := e2 ▸ Z.2.2.2.2.2.1 _
  obtain ⟨q3, e3⟩ : ∃ z, g (x.toNat + 3) = z := ⟨_, rfl⟩
  have r3 : -2147483648 ≤ q3 ∧ q3 ≤ 2147483647 := e3 ▸ Z.2.2.2.2.2.1 _
  by_cases hcel : (0 ≤ q3 ∧ q3 ≤ 5)
  · skip
    by_cases hrng : (1 ≤ q1 ∧ q1 ≤ 8) ∧ (0 ≤ q2 ∧ q2 ≤ 40)
    · skip
      refine lv_aload_n C.1 C.2.1 dL_law_1312 rfl (lv_at hl 1 rfl) ?_
      refine lv_aload_n C.1 C.2.1 dL_law_1313 rfl (lv_at hl 0 rfl) ?_
      refine lv_iload C.1 C.2.1 dL_law_1314 (lv_at hl 4 rfl) ?_
      refine z_iconst C dL_law_1316 ?_
      refine z_iadd C dL_law_1317 ?_
      refine zd_ld C Z G q1 (x.toNat + 1) e1 (by omega) (by omega) dL_law_1318 ?_
      refine lv_aload_n C.1 C.2.1 dL_law_1319 rfl (lv_at hl 0 rfl) ?_
      refine lv_iload C.1 C.2.1 dL_law_1320 (lv_at hl 4 rfl) ?_
      refine z_iconst C dL_law_1322 ?_
      refine z_iadd C dL_law_1323 ?_
      refine zd_ld C Z G q2 (x.toNat + 2) e2 (by omega) (by omega) dL_law_1324 ?_
      refine lv_aload_n C.1 C.2.1 dL_law_1325 rfl (lv_at hl 0 rfl) ?_
      refine lv_iload C.1 C.2.1 dL_law_1326 (lv_at hl 4 rfl) ?_
      refine z_iconst C dL_law_1328 ?_
      refine z_iadd C dL_law_1329 ?_
      refine zd_ld C Z G q3 (x.toNat + 3) e3 (by omega) (by omega) dL_law_1330 ?_
      refine lv_aload_n C.1 C.2.1 dL_law_1331 rfl (lv_at hl 3 rfl) ?_
      refine zd_W (as := [.ref o, .int (iZ (q1)), .int (iZ (q2)), .int (iZ (q3)), .ref w]) C Z Y G (c_L_nth l D cJ o a _ _ _ _ (q1) (q2) (q3) (by first | assumption | omega) (by first | assumption | omega) (by first | assumption | omega) w _ _) ml_L_241 ⟨Nat.le_of_ble_eq_true rfl, Nat.le_of_ble_eq_true rfl⟩ ⟨by show cells + 0 + 0 ≤ 665281; omega, by show slots + 0 + 0 ≤ 7105636; omega⟩ hl (Nat.le_of_ble_eq_true rfl) rfl dL_law_1332 (fun H locs G => ?_)
      refine lv_istore (lv' := [(5, .int (iZ (0))), (0, .ref t), (1, .ref o), (2, .ref u), (3, .ref w), (4, .int (iZ (x)))]) C.1 C.2.1 dL_law_1335 hl (by decide) rfl (fun ls hl => ?_)
      refine lv_aload_n C.1 C.2.1 dL_law_1337 rfl (lv_at hl 3 rfl) ?_
      refine lv_aload_n C.1 C.2.1 dL_law_1338 rfl (lv_at hl 1 rfl) ?_
      refine lv_iload C.1 C.2.1 dL_law_1339 (lv_at hl 5 rfl) ?_
      refine z_iconst C dL_law_1341 ?_
      refine z_iadd C dL_law_1342 ?_
      refine zd_ld C Z G q1 (x.toNat + 1) e1 (by omega) (by omega) dL_law_1343 ?_
      refine lv_aload_n C.1 C.2.1 dL_law_1344 rfl (lv_at hl 1 rfl) ?_
      refine lv_iload C.1 C.2.1 dL_law_1345 (lv_at hl 5 rfl) ?_
      refine z_iconst C dL_law_1347 ?_
      refine z_iadd C dL_law_1348 ?_
      refine zd_ld C Z G q2 (x.toNat + 2) e2 (by omega) (by omega) dL_law_1349 ?_
      refine lv_aload_n C.1 C.2.1 dL_law_1350 rfl (lv_at hl 1 rfl) ?_
      refine lv_iload C.1 C.2.1 dL_law_1351 (lv_at hl 5 rfl) ?_
      refine z_iconst C dL_law_1353 ?_
      refine z_iadd C dL_law_1354 ?_
      refine zd_ld C Z G q3 (x.toNat + 3) e3 (by omega) (by omega) dL_law_1355 ?_
      refine zd_M (as := [.int (iZ (q1)), .int (iZ (q2)), .int (iZ (q3))]) C Y G (c_X5_nth l D cJ u v _ _ _ _ _ (q1) (q2) (q3) (by first | assumption | omega) (by first | assumption | omega) (by first | assumption | omega)) ml_L_243 rfl ⟨Nat.le_of_ble_eq_true rfl, Nat.le_of_ble_eq_true rfl⟩ ⟨by show cells + 0 + 0 ≤ 665281; omega, by show slots + 0 + 0 ≤ 7105636; omega⟩ hl (Nat.le_of_ble_eq_true rfl) rfl dL_law_1356 (fun y9 H locs hy9 G => ?_)
      subst hy9
      refine lv_istore (lv' := [(6, _), (5, .int (iZ (0))), (0, .ref t), (1, .ref o), (2, .ref u), (3, .ref w), (4, .int (iZ (x)))]) C.1 C.2.1 dL_law_1359 hl (by decide) rfl (fun ls hl => ?_)
      refine lv_goto (tgt := 2172) C.1 C.2.1 dL_law_1361 (by decide) ?_
      exact kk _ _ _ _ _ _ _ _ _ _ _ _ G (by omega) (by omega) (lv_sub hl [2, 3, 4, 5, 6] rfl)
    · skip
      refine lv_aload_n C.1 C.2.1 dL_law_1312 rfl (lv_at hl 1 rfl) ?_
      refine lv_aload_n C.1 C.2.1 dL_law_1313 rfl (lv_at hl 0 rfl) ?_
      refine lv_iload C.1 C.2.1 dL_law_1314 (lv_at hl 4 rfl) ?_
      refine z_iconst C dL_law_1316 ?_
      refine z_iadd C dL_law_1317 ?_
      refine zd_ld C Z G q1 (x.toNat + 1) e1 (by omega) (by omega) dL_law_1318 ?_
      refine lv_aload_n C.1 C.2.1 dL_law_1319 rfl (lv_at hl 0 rfl) ?_
      refine lv_iload C.1 C.2.1 dL_law_1320 (lv_at hl 4 rfl) ?_
      refine z_iconst C dL_law_1322 ?_
      refine z_iadd C dL_law_1323 ?_
      refine zd_ld C Z G q2 (x.toNat + 2) e2 (by omega) (by omega) dL_law_1324 ?_
      refine lv_aload_n C.1 C.2.1 dL_law_1325 rfl (lv_at hl 0 rfl) ?_
      refine lv_iload C.1 C.2.1 dL_law_1326 (lv_at hl 4 rfl) ?_
      refine z_iconst C dL_law_1328 ?_
      refine z_iadd C dL_law_1329 ?_
      refine zd_ld C Z G q3 (x.toNat + 3) e3 (by omega) (by omega) dL_law_1330 ?_
      refine lv_aload_n C.1 C.2.1 dL_law_1331 rfl (lv_at hl 3 rfl) ?_
      refine zd_W (as := [.ref o, .int (iZ (q1)), .int (iZ (q2)), .int (iZ (q3)), .ref w]) C Z Y G (c_L_nth_badr l hlq D cJ o a _ _ _ _ (q1) (q2) (q3) (by first | assumption | omega) (by first | assumption | omega) (by first | assumption | omega) (by first | assumption | omega) (by first | assumption | omega) w _ _) ml_L_241 ⟨Nat.le_of_ble_eq_true rfl, Nat.le_of_ble_eq_true rfl⟩ ⟨by show cells + 0 + 1 ≤ 665281; omega, by show slots + 0 + 6 ≤ 7105636; omega⟩ hl (Nat.le_of_ble_eq_true rfl) rfl dL_law_1332 (fun H locs G => ?_)
      refine lv_istore (lv' := [(5, .int (iZ (2))), (0, .ref t), (1, .ref o), (2, .ref u), (3, .ref w), (4, .int (iZ (x)))]) C.1 C.2.1 dL_law_1335 hl (by decide) rfl (fun ls hl => ?_)
      refine lv_aload_n C.1 C.2.1 dL_law_1337 rfl (lv_at hl 3 rfl) ?_
      refine lv_aload_n C.1 C.2.1 dL_law_1338 rfl (lv_at hl 1 rfl) ?_
      refine lv_iload C.1 C.2.1 dL_law_1339 (lv_at hl 5 rfl) ?_
      refine z_iconst C dL_law_1341 ?_
      refine z_iadd C dL_law_1342 ?_
      refine zd_ld C Z G q1 (x.toNat + 1) e1 (by omega) (by omega) dL_law_1343 ?_
      refine lv_aload_n C.1 C.2.1 dL_law_1344 rfl (lv_at hl 1 rfl) ?_
      refine lv_iload C.1 C.2.1 dL_law_1345 (lv_at hl 5 rfl) ?_
      refine z_iconst C dL_law_1347 ?_
      refine z_iadd C dL_law_1348 ?_
      refine zd_ld C Z G q2 (x.toNat + 2) e2 (by omega) (by omega) dL_law_1349 ?_
      refine lv_aload_n C.1 C.2.1 dL_law_1350 rfl (lv_at hl 1 rfl) ?_
      refine lv_iload C.1 C.2.1 dL_law_1351 (lv_at hl 5 rfl) ?_
      refine z_iconst C dL_law_1353 ?_
      refine z_iadd C dL_law_1354 ?_
      refine zd_ld C Z G q3 (x.toNat + 3) e3 (by omega) (by omega) dL_law_1355 ?_
      refine zd_M (as := [.int (iZ (q1)), .int (iZ (q2)), .int (iZ (q3))]) C Y G (c_X5_nth_bad2 l D cJ u v _ _ _ _ _ (q1) (q2) (q3) (by first | assumption | omega) (by first | assumption | omega) (by first | assumption | omega) (by first | assumption | omega) (by first | assumption | omega)) ml_L_243 rfl ⟨Nat.le_of_ble_eq_true rfl, Nat.le_of_ble_eq_true rfl⟩ ⟨by show cells + 1 + 0 ≤ 665281; omega, by show slots + 6 + 0 ≤ 7105636; omega⟩ hl (Nat.le_of_ble_eq_true rfl) rfl dL_law_1356 (fun y9 H locs hy9 G => ?_)
      subst hy9
      refine lv_istore (lv' := [(6, _), (5, .int (iZ (2))), (0, .ref t), (1, .ref o), (2, .ref u), (3, .ref w), (4, .int (iZ (x)))]) C.1 C.2.1 dL_law_1359 hl (by decide) rfl (fun ls hl => ?_)
      refine lv_goto (tgt := 2172) C.1 C.2.1 dL_law_1361 (by decide) ?_
      exact kk _ _ _ _ _ _ _ _ _ _ _ _ G (by omega) (by omega) (lv_sub hl [2, 3, 4, 5, 6] rfl)
  · skip
    refine lv_aload_n C.1 C.2.1 dL_law_1312 rfl (lv_at hl 1 rfl) ?_
    refine lv_aload_n C.1 C.2.1 dL_law_1313 rfl (lv_at hl 0 rfl) ?_
    refine lv_iload C.1 C.2.1 dL_law_1314 (lv_at hl 4 rfl) ?_
    refine z_iconst C dL_law_1316 ?_
    refine z_iadd C dL_law_1317 ?_
    refine zd_ld C Z G q1 (x.toNat + 1) e1 (by omega) (by omega) dL_law_1318 ?_
    refine lv_aload_n C.1 C.2.1 dL_law_1319 rfl (lv_at hl 0 rfl) ?_
    refine lv_iload C.1 C.2.1 dL_law_1320 (lv_at hl 4 rfl) ?_
    refine z_iconst C dL_law_1322 ?_
    refine z_iadd C dL_law_1323 ?_
    refine zd_ld C Z G q2 (x.toNat + 2) e2 (by omega) (by omega) dL_law_1324 ?_
    refine lv_aload_n C.1 C.2.1 dL_law_1325 rfl (lv_at hl 0 rfl) ?_
    refine lv_iload C.1 C.2.1 dL_law_1326 (lv_at hl 4 rfl) ?_
    refine z_iconst C dL_law_1328 ?_
    refine z_iadd C dL_law_1329 ?_
    refine zd_ld C Z G q3 (x.toNat + 3) e3 (by omega) (by omega) dL_law_1330 ?_
    refine lv_aload_n C.1 C.2.1 dL_law_1331 rfl (lv_at hl 3 rfl) ?_
    refine zd_W (as := [.ref o, .int (iZ (q1)), .int (iZ (q2)), .int (iZ (q3)), .ref w]) C Z Y G (c_L_nth_badc l hlq D cJ o a _ _ _ _ (q1) (q2) (q3) (by first | assumption | omega) (by first | assumption | omega) (by first | assumption | omega) (by first | assumption | omega) w _ _) ml_L_241 ⟨Nat.le_of_ble_eq_true rfl, Nat.le_of_ble_eq_true rfl⟩ ⟨by show cells + 0 + 1 ≤ 665281; omega, by show slots + 0 + 6 ≤ 7105636; omega⟩ hl (Nat.le_of_ble_eq_true rfl) rfl dL_law_1332 (fun H locs G => ?_)
    refine lv_istore (lv' := [(5, .int (iZ (1))), (0, .ref t), (1, .ref o), (2, .ref u), (3, .ref w), (4, .int (iZ (x)))]) C.1 C.2.1 dL_law_1335 hl (by decide) rfl (fun ls hl => ?_)
    refine lv_aload_n C.1 C.2.1 dL_law_1337 rfl (lv_at hl 3 rfl) ?_
    refine lv_aload_n C.1 C.2.1 dL_law_1338 rfl (lv_at hl 1 rfl) ?_
    refine lv_iload C.1 C.2.1 dL_law_1339 (lv_at hl 5 rfl) ?_
    refine z_iconst C dL_law_1341 ?_
    refine z_iadd C dL_law_1342 ?_
    refine zd_ld C Z G q1 (x.toNat + 1) e1 (by omega) (by omega) dL_law_1343 ?_
    refine lv_aload_n C.1 C.2.1 dL_law_1344 rfl (lv_at hl 1 rfl) ?_
    refine lv_iload C.1 C.2.1 dL_law_1345 (lv_at hl 5 rfl) ?_
    refine z_iconst C dL_law_1347 ?_
    refine z_iadd C dL_law_1348 ?_
    refine zd_ld C Z G q2 (x.toNat + 2) e2 (by omega) (by omega) dL_law_1349 ?_
    refine lv_aload_n C.1 C.2.1 dL_law_1350 rfl (lv_at hl 1 rfl) ?_
    refine lv_iload C.1 C.2.1 dL_law_1351 (lv_at hl 5 rfl) ?_
    refine z_iconst C dL_law_1353 ?_
    refine z_iadd C dL_law_1354 ?_
    refine zd_ld C Z G q3 (x.toNat + 3) e3 (by omega) (by omega) dL_law_1355 ?_
    refine zd_M (as := [.int (iZ (q1)), .int (iZ (q2)), .int (iZ (q3))]) C Y G (c_X5_nth_bad1 l D cJ u v _ _ _ _ _ (q1) (q2) (q3) (by first | assumption | omega) (by first | assumption | omega) (by first | assumption | omega) (by first | assumption | omega)) ml_L_243 rfl ⟨Nat.le_of_ble_eq_true rfl, Nat.le_of_ble_eq_true rfl⟩ ⟨by show cells + 1 + 0 ≤ 665281; omega, by show slots + 6 + 0 ≤ 7105636; omega⟩ hl (Nat.le_of_ble_eq_true rfl) rfl dL_law_1356 (fun y9 H locs hy9 G => ?_)
    subst hy9
    refine lv_istore (lv' := [(6, _), (5, .int (iZ (1))), (0, .ref t), (1, .ref o), (2, .ref u), (3, .ref w), (4, .int (iZ (x)))]) C.1 C.2.1 dL_law_1359 hl (by decide) rfl (fun ls hl => ?_)
    refine lv_goto (tgt := 2172) C.1 C.2.1 dL_law_1361 (by decide) ?_
    exact kk _ _ _ _ _ _ _ _ _ _ _ _ G (by omega) (by omega) (lv_sub hl [2, 3, 4, 5, 6] rfl)
set_option maxHeartbeats 4000000 in
set_option maxRecDepth 100000 in
theorem lk_22 (hlq : l.stackTraces = false) (C : CallFix p m c0 cL_law 7 s args T0 RL) (Z : zLw D cB t N g s) (Y : zAd o a u v w s) {c : Nat → Nat} {ac re kn : Int32} {th : Int} {n : Int64} {sv : Value} {H : Heap} {locs : List Loc} {ls : Array Slot} {cells slots : Nat} (G : zG D cJ o a u v w c [.int ac, .int re, .int kn] c [.int (iZ th), .int ac, .int re, .int kn] n sv s H locs) (x : Int) (hx : 0 ≤ x ∧ x + 5 ≤ (N : Int)) (hf : cells + 150 ≤ 665281 ∧ slots + 75000 ≤ 7105636) (hl : lv_has ls 7 [(0, .ref t), (1, .ref o), (2, .ref u), (3, .ref w), (4, .int (iZ (x)))])
    (kk : zNx p l e s m args below meth c0 D cJ t o a u v w x cells slots Qw 2172) : W p l e room_1 s m args below meth c0 H locs cells slots Qw (F0 m 1364 ls []) := by
  have hc := G.1.2.2.2
  obtain ⟨q1, e1⟩ : ∃ z, g (x.toNat + 1) = z := ⟨_, rfl⟩
  have r1 : -2147483648 ≤ q1 ∧ q1 ≤ 2147483647 := e1 ▸ Z.2.2.2.2.2.1 _
  obtain ⟨q2, e2⟩ : ∃ z, g (x.toNat + 2) = z := ⟨_, rfl⟩
  have r2 : -2147483648 ≤ q2 ∧ q2 ≤ 2147483647 := e2 ▸ Z.2.2.2.2.2.1 _
  by_cases hcel : (0 ≤ q2 ∧ q2 ≤ 5)
  · skip
    by_cases hrng : (1 ≤ q1 ∧ q1 ≤ 5)
    · skip
      refine lv_aload_n C.1 C.2.1 dL_law_1364 rfl (lv_at hl 1 rfl) ?_
      refine lv_aload_n C.1 C.2.1 dL_law_1365 rfl (lv_at hl 0 rfl) ?_
      refine lv_iload C.1 C.2.1 dL_law_1366 (lv_at hl 4 rfl) ?_
      refine z_iconst C dL_law_1368 ?_
      refine z_iadd C dL_law_1369 ?_
      refine zd_ld C Z G q1 (x.toNat + 1) e1 (by omega) (by omega) dL_law_1370 ?_
      refine lv_aload_n C.1 C.2.1 dL_law_1371 rfl (lv_at hl 0 rfl) ?_
      refine lv_iload C.1 C.2.1 dL_law_1372 (lv_at hl 4 rfl) ?_
      refine z_iconst C dL_law_1374 ?_
      refine z_iadd C dL_law_1375 ?_
      refine zd_ld C Z G q2 (x.toNat + 2) e2 (by omega) (by omega) dL_law_1376 ?_
      refine lv_aload_n C.1 C.2.1 dL_law_1377 rfl (lv_at hl 3 rfl) ?_
      refine zd_W (as := [.ref o, .int (iZ (q1)), .int (iZ (q2)), .ref w]) C Z Y G (c_L_field l D cJ o a _ _ _ _ (q1) (q2) (by first | assumption | omega) (by first | assumption | omega) w _ _) ml_L_244 ⟨Nat.le_of_ble_eq_true rfl, Nat.le_of_ble_eq_true rfl⟩ ⟨by show cells + 0 + 0 ≤ 665281; omega, by show slots + 0 + 0 ≤ 7105636; omega⟩ hl (Nat.le_of_ble_eq_true rfl) rfl dL_law_1378 (fun H locs G => ?_)
      refine lv_istore (lv' := [(5, .int (iZ (0))), (0, .ref t), (1, .ref o), (2, .ref u), (3, .ref w), (4, .int (iZ (x)))]) C.1 C.2.1 dL_law_1381 hl (by decide) rfl (fun ls hl => ?_)
      refine lv_aload_n C.1 C.2.1 dL_law_1383 rfl (lv_at hl 3 rfl) ?_
      refine lv_aload_n C.1 C.2.1 dL_law_1384 rfl (lv_at hl 1 rfl) ?_
      refine lv_iload C.1 C.2.1 dL_law_1385 (lv_at hl 5 rfl) ?_
      refine z_iconst C dL_law_1387 ?_
      refine z_iadd C dL_law_1388 ?_
      refine zd_ld C Z G q1 (x.toNat + 1) e1 (by omega) (by omega) dL_law_1389 ?_
      refine lv_aload_n C.1 C.2.1 dL_law_1390 rfl (lv_at hl 1 rfl) ?_
      refine lv_iload C.1 C.2.1 dL_law_1391 (lv_at hl 5 rfl) ?_
      refine z_iconst C dL_law_1393 ?_
      refine z_iadd C dL_law_1394 ?_
      refine zd_ld C Z G q2 (x.toNat + 2) e2 (by omega) (by omega) dL_law_1395 ?_
      refine zd_M (as := [.int (iZ (q1)), .int (iZ (q2))]) C Y G (c_X5_field l D cJ u v _ _ _ _ _ (q1) (q2) (by first | assumption | omega) (by first | assumption | omega)) ml_L_246 rfl ⟨Nat.le_of_ble_eq_true rfl, Nat.le_of_ble_eq_true rfl⟩ ⟨by show cells + 0 + 0 ≤ 665281; omega, by show slots + 0 + 0 ≤ 7105636; omega⟩ hl (Nat.le_of_ble_eq_true rfl) rfl dL_law_1396 (fun y9 H locs hy9 G => ?_)
      subst hy9
      refine lv_istore (lv' := [(6, _), (5, .int (iZ (0))), (0, .ref t), (1, .ref o), (2, .ref u), (3, .ref w), (4, .int (iZ (x)))]) C.1 C.2.1 dL_law_1399 hl (by decide) rfl (fun ls hl => ?_)
      refine lv_goto (tgt := 2172) C.1 C.2.1 dL_law_1401 (by decide) ?_
      rw [pd_eq (by omega)] at G
      exact kk _ _ _ _ _ _ _ _ _ _ _ _ G (by omega) (by omega) (lv_sub hl [2, 3, 4, 5, 6] rfl)
    · skip
      refine lv_aload_n C.1 C.2.1 dL_law_1364 rfl (lv_at hl 1 rfl) ?_
      refine lv_aload_n C.1 C.2.1 dL_law_1365 rfl (lv_at hl 0 rfl) ?_
      refine lv_iload C.1 C.2.1 dL_law_1366 (lv_at hl 4 rfl) ?_
      refine z_iconst C dL_law_1368 ?_
      refine z_iadd C dL_law_1369 ?_
      refine zd_ld C Z G q1 (x.toNat + 1) e1 (by omega) (by omega) dL_law_1370 ?_
      refine lv_aload_n C.1 C.2.1 dL_law_1371 rfl (lv_at hl 0 rfl) ?_
      refine lv_iload C.1 C.2.1 dL_law_1372 (lv_at hl 4 rfl) ?_
      refine z_iconst C dL_law_1374 ?_
      refine z_iadd C dL_law_1375 ?_
      refine zd_ld C Z G q2 (x.toNat + 2) e2 (by omega) (by omega) dL_law_1376 ?_
      refine lv_aload_n C.1 C.2.1 dL_law_1377 rfl (lv_at hl 3 rfl) ?_
      refine zd_W (as := [.ref o, .int (iZ (q1)), .int (iZ (q2)), .ref w]) C Z Y G (c_L_field_badr l hlq D cJ o a _ _ _ _ (q1) (q2) (by first | assumption | omega) (by first | assumption | omega) (by first | assumption | omega) (by first | assumption | omega) w _ _) ml_L_244 ⟨Nat.le_of_ble_eq_true rfl, Nat.le_of_ble_eq_true rfl⟩ ⟨by show cells + 0 + 1 ≤ 665281; omega, by show slots + 0 + 6 ≤ 7105636; omega⟩ hl (Nat.le_of_ble_eq_true rfl) rfl dL_law_1378 (fun H locs G => ?_)
      refine lv_istore (lv' := [(5, .int (iZ (2))), (0, .ref t), (1, .ref o), (2, .ref u), (3, .ref w), (4, .int (iZ (x)))]) C.1 C.2.1 dL_law_1381 hl (by decide) rfl (fun ls hl => ?_)
      refine lv_aload_n C.1 C.2.1 dL_law_1383 rfl (lv_at hl 3 rfl) ?_
      refine lv_aload_n C.1 C.2.1 dL_law_1384 rfl (lv_at hl 1 rfl) ?_
      refine lv_iload C.1 C.2.1 dL_law_1385 (lv_at hl 5 rfl) ?_
      refine z_iconst C dL_law_1387 ?_
      refine z_iadd C dL_law_1388 ?_
      refine zd_ld C Z G q1 (x.toNat + 1) e1 (by omega) (by omega) dL_law_1389 ?_
      refine lv_aload_n C.1 C.2.1 dL_law_1390 rfl (lv_at hl 1 rfl) ?_
      refine lv_iload C.1 C.2.1 dL_law_1391 (lv_at hl 5 rfl) ?_
      refine z_iconst C dL_law_1393 ?_
      refine z_iadd C dL_law_1394 ?_
      refine zd_ld C Z G q2 (x.toNat + 2) e2 (by omega) (by omega) dL_law_1395 ?_
      refine zd_M (as := [.int (iZ (q1)), .int (iZ (q2))]) C Y G (c_X5_field_bad2 l D cJ u v _ _ _ _ _ (q1) (q2) (by first | assumption | omega) (by first | assumption | omega) (by first | assumption | omega) (by first | assumption | omega)) ml_L_246 rfl ⟨Nat.le_of_ble_eq_true rfl, Nat.le_of_ble_eq_true rfl⟩ ⟨by show cells + 1 + 0 ≤ 665281; omega, by show slots + 6 + 0 ≤ 7105636; omega⟩ hl (Nat.le_of_ble_eq_true rfl) rfl dL_law_1396 (fun y9 H locs hy9 G => ?_)
      subst hy9
      refine lv_istore (lv' := [(6, _), (5, .int (iZ (2))), (0, .ref t), (1, .ref o), (2, .ref u), (3, .ref w), (4, .int (iZ (x)))]) C.1 C.2.1 dL_law_1399 hl (by decide) rfl (fun ls hl => ?_)
      refine lv_goto (tgt := 2172) C.1 C.2.1 dL_law_1401 (by decide) ?_
      exact kk _ _ _ _ _ _ _ _ _ _ _ _ G (by omega) (by omega) (lv_sub hl [2, 3, 4, 5, 6] rfl)
  · skip
    refine lv_aload_n C.1 C.2.1 dL_law_1364 rfl (lv_at hl 1 rfl) ?_
    refine lv_aload_n C.1 C.2.1 dL_law_1365 rfl (lv_at hl 0 rfl) ?_
    refine lv_iload C.1 C.2.1 dL_law_1366 (lv_at hl 4 rfl) ?_
    refine z_iconst C dL_law_1368 ?_
    refine z_iadd C dL_law_1369 ?_
    refine zd_ld C Z G q1 (x.toNat + 1) e1 (by omega) (by omega) dL_law_1370 ?_
    refine lv_aload_n C.1 C.2.1 dL_law_1371 rfl (lv_at hl 0 rfl) ?_
    refine lv_iload C.1 C.2.1 dL_law_1372 (lv_at hl 4 rfl) ?_
    refine z_iconst C dL_law_1374 ?_
    refine z_iadd C dL_law_1375 ?_
    refine zd_ld C Z G q2 (x.toNat + 2) e2 (by omega) (by omega) dL_law_1376 ?_
    refine lv_aload_n C.1 C.2.1 dL_law_1377 rfl (lv_at hl 3 rfl) ?_
    refine zd_W (as := [.ref o, .int (iZ (q1)), .int (iZ (q2)), .ref w]) C Z Y G (c_L_field_badc l hlq D cJ o a _ _ _ _ (q1) (q2) (by first | assumption | omega) (by first | assumption | omega) (by first | assumption | omega) w _ _) ml_L_244 ⟨Nat.le_of_ble_eq_true rfl, Nat.le_of_ble_eq_true rfl⟩ ⟨by show cells + 0 + 1 ≤ 665281; omega, by show slots + 0 + 6 ≤ 7105636; omega⟩ hl (Nat.le_of_ble_eq_true rfl) rfl dL_law_1378 (fun H locs G => ?_)
    refine lv_istore (lv' := [(5, .int (iZ (1))), (0, .ref t), (1, .ref o), (2, .ref u), (3, .ref w), (4, .int (iZ (x)))]) C.1 C.2.1 dL_law_1381 hl (by decide) rfl (fun ls hl => ?_)
    refine lv_aload_n C.1 C.2.1 dL_law_1383 rfl (lv_at hl 3 rfl) ?_
    refine lv_aload_n C.1 C.2.1 dL_law_1384 rfl (lv_at hl 1 rfl) ?_
    refine lv_iload C.1 C.2.1 dL_law_1385 (lv_at hl 5 rfl) ?_
    refine z_iconst C dL_law_1387 ?_
    refine z_iadd C dL_law_1388 ?_
    refine zd_ld C Z G q1 (x.toNat + 1) e1 (by omega) (by omega) dL_law_1389 ?_
    refine lv_aload_n C.1 C.2.1 dL_law_1390 rfl (lv_at hl 1 rfl) ?_
    refine lv_iload C.1 C.2.1 dL_law_1391 (lv_at hl 5 rfl) ?_
    refine z_iconst C dL_law_1393 ?_
    refine z_iadd C dL_law_1394 ?_
    refine zd_ld C Z G q2 (x.toNat + 2) e2 (by omega) (by omega) dL_law_1395 ?_
    refine zd_M (as := [.int (iZ (q1)), .int (iZ (q2))]) C Y G (c_X5_field_bad1 l D cJ u v _ _ _ _ _ (q1) (q2) (by first | assumption | omega) (by first | assumption | omega) (by first | assumption | omega)) ml_L_246 rfl ⟨Nat.le_of_ble_eq_true rfl, Nat.le_of_ble_eq_true rfl⟩ ⟨by show cells + 1 + 0 ≤ 665281; omega, by show slots + 6 + 0 ≤ 7105636; omega⟩ hl (Nat.le_of_ble_eq_true rfl) rfl dL_law_1396 (fun y9 H locs hy9 G => ?_)
    subst hy9
    refine lv_istore (lv' := [(6, _), (5, .int (iZ (1))), (0, .ref t), (1, .ref o), (2, .ref u), (3, .ref w), (4, .int (iZ (x)))]) C.1 C.2.1 dL_law_1399 hl (by decide) rfl (fun ls hl => ?_)
    refine lv_goto (tgt := 2172) C.1 C.2.1 dL_law_1401 (by decide) ?_
    exact kk _ _ _ _ _ _ _ _ _ _ _ _ G (by omega) (by omega) (lv_sub hl [2, 3, 4, 5, 6] rfl)
set_option maxHeartbeats 4000000 in
set_option maxRecDepth 100000 in
theorem lk_23 (hlq : l.stackTraces = false) (C : CallFix p m c0 cL_law 7 s args T0 RL) (Z : zLw D cB t N g s) (Y : zAd o a u v w s) {c : Nat → Nat} {ac re kn : Int32} {th : Int} {n : Int64} {sv : Value} {H : Heap} {locs : List Loc} {ls : Array Slot} {cells slots : Nat} (G : zG D cJ o a u v w c [.int ac, .int re, .int kn] c [.int (iZ th), .int ac, .int re, .int kn] n sv s H locs) (x : Int) (hx : 0 ≤ x ∧ x + 5 ≤ (N : Int)) (hf : cells + 150 ≤ 665281 ∧ slots + 75000 ≤ 7105636) (hl : lv_has ls 7 [(0, .ref t), (1, .ref o), (2, .ref u), (3, .ref w), (4, .int (iZ (x)))])
    (kk : zNx p l e s m args below meth c0 D cJ t o a u v w x cells slots Qw 2172) : W p l e room_1 s m args below meth c0 H locs cells slots Qw (F0 m 1404 ls []) := by
  have hc := G.1.2.2.2
  obtain ⟨q1, e1⟩ : ∃ z, g (x.toNat + 1) = z := ⟨_, rfl⟩
  have r1 : -2147483648 ≤ q1 ∧ q1 ≤ 2147483647 := e1 ▸ Z.2.2.2.2.2.1 _
  obtain ⟨q2, e2⟩ : ∃ z, g (x.toNat + 2) = z := ⟨_, rfl⟩
  have r2 : -2147483648 ≤ q2 ∧ q2 ≤ 2147483647 := e2 ▸ Z.2.2.2.2.2.1 _
  obtain ⟨q3, e3⟩ : ∃ z, g (x.toNat + 3) = z := ⟨_, rfl⟩
  have r3 : -2147483648 ≤ q3 ∧ q3 ≤ 2147483647 := e3 ▸ Z.2.2.2.2.2.1 _
  by_cases hcel : (0 ≤ q1 ∧ q1 ≤ 5) ∧ (0 ≤ q3 ∧ q3 ≤ 5)
  · skip
    by_cases hrng : (2 ≤ q2 ∧ q2 ≤ 36)
    · skip
      refine lv_aload_n C.1 C.2.1 dL_law_1404 rfl (lv_at hl 1 rfl) ?_
      refine lv_aload_n C.1 C.2.1 dL_law_1405 rfl (lv_at hl 0 rfl) ?_
      refine lv_iload C.1 C.2.1 dL_law_1406 (lv_at hl 4 rfl) ?_
      refine z_iconst C dL_law_1408 ?_
      refine z_iadd C dL_law_1409 ?_
      refine zd_ld C Z G q1 (x.toNat + 1) e1 (by omega) (by omega) dL_law_1410 ?_
      refine lv_aload_n C.1 C.2.1 dL_law_1411 rfl (lv_at hl 0 rfl) ?_
      refine lv_iload C.1 C.2.1 dL_law_1412 (lv_at hl 4 rfl) ?_
      refine z_iconst C dL_law_1414 ?_
      refine z_iadd C dL_law_1415 ?_
      refine zd_ld C Z G q2 (x.toNat + 2) e2 (by omega) (by omega) dL_law_1416 ?_
      refine lv_aload_n C.1 C.2.1 dL_law_1417 rfl (lv_at hl 0 rfl) ?_
      refine lv_iload C.1 C.2.1 dL_law_1418 (lv_at hl 4 rfl) ?_
      refine z_iconst C dL_law_1420 ?_
      refine z_iadd C dL_law_1421 ?_
      refine zd_ld C Z G q3 (x.toNat + 3) e3 (by omega) (by omega) dL_law_1422 ?_
      refine lv_aload_n C.1 C.2.1 dL_law_1423 rfl (lv_at hl 3 rfl) ?_
      refine zd_W (as := [.ref o, .int (iZ (q1)), .int (iZ (q2)), .int (iZ (q3)), .ref w]) C Z Y G (c_L_again l D cJ o a _ _ _ _ (q1) (q2) (q3) (by first | assumption | omega) (by first | assumption | omega) (by first | assumption | omega) w _ _) ml_L_247 ⟨Nat.le_of_ble_eq_true rfl, Nat.le_of_ble_eq_true rfl⟩ ⟨by show cells + 0 + 0 ≤ 665281; omega, by show slots + 0 + 0 ≤ 7105636; omega⟩ hl (Nat.le_of_ble_eq_true rfl) rfl dL_law_1424 (fun H locs G => ?_)
      refine lv_istore (lv' := [(5, .int (iZ (0))), (0, .ref t), (1, .ref o), (2, .ref u), (3, .ref w), (4, .int (iZ (x)))]) C.1 C.2.1 dL_law_1427 hl (by decide) rfl (fun ls hl => ?_)
      refine lv_aload_n C.1 C.2.1 dL_law_1429 rfl (lv_at hl 3 rfl) ?_
      refine lv_aload_n C.1 C.2.1 dL_law_1430 rfl (lv_at hl 1 rfl) ?_
      refine lv_iload C.1 C.2.1 dL_law_1431 (lv_at hl 5 rfl) ?_
      refine z_iconst C dL_law_1433 ?_
      refine z_iadd C dL_law_1434 ?_
      refine zd_ld C Z G q1 (x.toNat + 1) e1 (by omega) (by omega) dL_law_1435 ?_
      refine lv_aload_n C.1 C.2.1 dL_law_1436 rfl (lv_at hl 1 rfl) ?_
      refine lv_iload C.1 C.2.1 dL_law_1437 (lv_at hl 5 rfl) ?_
      refine z_iconst C dL_law_1439 ?_
      refine z_iadd C dL_law_1440 ?_
      refine zd_ld C Z G q2 (x.toNat + 2) e2 (by omega) (by omega) dL_law_1441 ?_
      refine lv_aload_n C.1 C.2.1 dL_law_1442 rfl (lv_at hl 1 rfl) ?_
      refine lv_iload C.1 C.2.1 dL_law_1443 (lv_at hl 5 rfl) ?_
      refine z_iconst C dL_law_1445 ?_
      refine z_iadd C dL_law_1446 ?_
      refine zd_ld C Z G q3 (x.toNat + 3) e3 (by omega) (by omega) dL_law_1447 ?_
      refine zd_M (as := [.int (iZ (q1)), .int (iZ (q2)), .int (iZ (q3))]) C Y G (c_X5_again l D cJ u v _ _ _ _ _ (q1) (q2) (q3) (by first | assumption | omega) (by first | assumption | omega) (by first | assumption | omega)) ml_L_249 rfl ⟨Nat.le_of_ble_eq_true rfl, Nat.le_of_ble_eq_true rfl⟩ ⟨by show cells + 0 + 0 ≤ 665281; omega, by show slots + 0 + 0 ≤ 7105636; omega⟩ hl (Nat.le_of_ble_eq_true rfl) rfl dL_law_1448 (fun y9 H locs hy9 G => ?_)
      subst hy9
      refine lv_istore (lv' := [(6, _), (5, .int (iZ (0))), (0, .ref t), (1, .ref o), (2, .ref u), (3, .ref w), (4, .int (iZ (x)))]) C.1 C.2.1 dL_law_1451 hl (by decide) rfl (fun ls hl => ?_)
      refine lv_goto (tgt := 2172) C.1 C.2.1 dL_law_1453 (by decide) ?_
      exact kk _ _ _ _ _ _ _ _ _ _ _ _ G (by omega) (by omega) (lv_sub hl [2, 3, 4, 5, 6] rfl)
    · skip
      refine lv_aload_n C.1 C.2.1 dL_law_1404 rfl (lv_at hl 1 rfl) ?_
      refine lv_aload_n C.1 C.2.1 dL_law_1405 rfl (lv_at hl 0 rfl) ?_
      refine lv_iload C.1 C.2.1 dL_law_1406 (lv_at hl 4 rfl) ?_
      refine z_iconst C dL_law_1408 ?_
      refine z_iadd C dL_law_1409 ?_
      refine zd_ld C Z G q1 (x.toNat + 1) e1 (by omega) (by omega) dL_law_1410 ?_
      refine lv_aload_n C.1 C.2.1 dL_law_1411 rfl (lv_at hl 0 rfl) ?_
      refine lv_iload C.1 C.2.1 dL_law_1412 (lv_at hl 4 rfl) ?_
      refine z_iconst C dL_law_1414 ?_
      refine z_iadd C dL_law_1415 ?_
      refine zd_ld C Z G q2 (x.toNat + 2) e2 (by omega) (by omega) dL_law_1416 ?_
      refine lv_aload_n C.1 C.2.1 dL_law_1417 rfl (lv_at hl 0 rfl) ?_
      refine lv_iload C.1 C.2.1 dL_law_1418 (lv_at hl 4 rfl) ?_
      refine z_iconst C dL_law_1420 ?_
      refine z_iadd C dL_law_1421 ?_
      refine zd_ld C Z G q3 (x.toNat + 3) e3 (by omega) (by omega) dL_law_1422 ?_
      refine lv_aload_n C.1 C.2.1 dL_law_1423 rfl (lv_at hl 3 rfl) ?_
      refine zd_W (as := [.ref o, .int (iZ (q1)), .int (iZ (q2)), .int (iZ (q3)), .ref w]) C Z Y G (c_L_again_badr l hlq D cJ o a _ _ _ _ (q1) (q2) (q3) (by first | assumption | omega) (by first | assumption | omega) (by first | assumption | omega) (by first | assumption | omega) (by first | assumption | omega) (by first | assumption | omega) w _ _) ml_L_247 ⟨Nat.le_of_ble_eq_true rfl, Nat.le_of_ble_eq_true rfl⟩ ⟨by show cells + 0 + 1 ≤ 665281; omega, by show slots + 0 + 6 ≤ 7105636; omega⟩ hl (Nat.le_of_ble_eq_true rfl) rfl dL_law_1424 (fun H locs G => ?_)
      refine lv_istore (lv' := [(5, .int (iZ (2))), (0, .ref t), (1, .ref o), (2, .ref u), (3, .ref w), (4, .int (iZ (x)))]) C.1 C.2.1 dL_law_1427 hl (by decide) rfl (fun ls hl => ?_)
      refine lv_aload_n C.1 C.2.1 dL_law_1429 rfl (lv_at hl 3 rfl) ?_
      refine lv_aload_n C.1 C.2.1 dL_law_1430 rfl (lv_at hl 1 rfl) ?_
      refine lv_iload C.1 C.2.1 dL_law_1431 (lv_at hl 5 rfl) ?_
      refine z_iconst C dL_law_1433 ?_
      refine z_iadd C dL_law_1434 ?_
      refine zd_ld C Z G q1 (x.toNat + 1) e1 (by omega) (by omega) dL_law_1435 ?_
      refine lv_aload_n C.1 C.2.1 dL_law_1436 rfl (lv_at hl 1 rfl) ?_
      refine lv_iload C.1 C.2.1 dL_law_1437 (lv_at hl 5 rfl) ?_
      refine z_iconst C dL_law_1439 ?_
      refine z_iadd C dL_law_1440 ?_
      refine zd_ld C Z G q2 (x.toNat + 2) e2 (by omega) (by omega) dL_law_1441 ?_
      refine lv_aload_n C.1 C.2.1 dL_law_1442 rfl (lv_at hl 1 rfl) ?_
      refine lv_iload C.1 C.2.1 dL_law_1443 (lv_at hl 5 rfl) ?_
      refine z_iconst C dL_law_1445 ?_
      refine z_iadd C dL_law_1446 ?_
      refine zd_ld C Z G q3 (x.toNat + 3) e3 (by omega) (by omega) dL_law_1447 ?_
      refine zd_M (as := [.int (iZ (q1)), .int (iZ (q2)), .int (iZ (q3))]) C Y G (c_X5_again_bad2 l D cJ u v _ _ _ _ _ (q1) (q2) (q3) (by first | assumption | omega) (by first | assumption | omega) (by first | assumption | omega) (by first | assumption | omega) (by first | assumption | omega)) ml_L_249 rfl ⟨Nat.le_of_ble_eq_true rfl, Nat.le_of_ble_eq_true rfl⟩ ⟨by show cells + 1 + 0 ≤ 665281; omega, by show slots + 6 + 0 ≤ 7105636; omega⟩ hl (Nat.le_of_ble_eq_true rfl) rfl dL_law_1448 (fun y9 H locs hy9 G => ?_)
      subst hy9
      refine lv_istore (lv' := [(6, _), (5, .int (iZ (2))), (0, .ref t), (1, .ref o), (2, .ref u), (3, .ref w), (4, .int (iZ (x)))]) C.1 C.2.1 dL_law_1451 hl (by decide) rfl (fun ls hl => ?_)
      refine lv_goto (tgt := 2172) C.1 C.2.1 dL_law_1453 (by decide) ?_
      exact kk _ _ _ _ _ _ _ _ _ _ _ _ G (by omega) (by omega) (lv_sub hl [2, 3, 4, 5, 6] rfl)
  · skip
    refine lv_aload_n C.1 C.2.1 dL_law_1404 rfl (lv_at hl 1 rfl) ?_
    refine lv_aload_n C.1 C.2.1 dL_law_1405 rfl (lv_at hl 0 rfl) ?_
    refine lv_iload C.1 C.2.1 dL_law_1406 (lv_at hl 4 rfl) ?_
    refine z_iconst C dL_law_1408 ?_
    refine z_iadd C dL_law_1409 ?_
    refine zd_ld C Z G q1 (x.toNat + 1) e1 (by omega) (by omega) dL_law_1410 ?_
    refine lv_aload_n C.1 C.2.1 dL_law_1411 rfl (lv_at hl 0 rfl) ?_
    refine lv_iload C.1 C.2.1 dL_law_1412 (lv_at hl 4 rfl) ?_
    refine z_iconst C dL_law_1414 ?_
    refine z_iadd C dL_law_1415 ?_
    refine zd_ld C Z G q2 (x.toNat + 2) e2 (by omega) (by omega) dL_law_1416 ?_
    refine lv_aload_n C.1 C.2.1 dL_law_1417 rfl (lv_at hl 0 rfl) ?_
    refine lv_iload C.1 C.2.1 dL_law_1418 (lv_at hl 4 rfl) ?_
    refine z_iconst C dL_law_1420 ?_
    refine z_iadd C dL_law_1421 ?_
    refine zd_ld C Z G q3 (x.toNat + 3) e3 (by omega) (by omega) dL_law_1422 ?_
    refine lv_aload_n C.1 C.2.1 dL_law_1423 rfl (lv_at hl 3 rfl) ?_
    refine zd_W (as := [.ref o, .int (iZ (q1)), .int (iZ (q2)), .int (iZ (q3)), .ref w]) C Z Y G (c_L_again_badc l hlq D cJ o a _ _ _ _ (q1) (q2) (q3) (by first | assumption | omega) (by first | assumption | omega) (by first | assumption | omega) (by first | assumption | omega) w _ _) ml_L_247 ⟨Nat.le_of_ble_eq_true rfl, Nat.le_of_ble_eq_true rfl⟩ ⟨by show cells + 0 + 1 ≤ 665281; omega, by show slots + 0 + 6 ≤ 7105636; omega⟩ hl (Nat.le_of_ble_eq_true rfl) rfl dL_law_1424 (fun H locs G => ?_)
    refine lv_istore (lv' := [(5, .int (iZ (1))), (0, .ref t), (1, .ref o), (2, .ref u), (3, .ref w), (4, .int (iZ (x)))]) C.1 C.2.1 dL_law_1427 hl (by decide) rfl (fun ls hl => ?_)
    refine lv_aload_n C.1 C.2.1 dL_law_1429 rfl (lv_at hl 3 rfl) ?_
    refine lv_aload_n C.1 C.2.1 dL_law_1430 rfl (lv_at hl 1 rfl) ?_
    refine lv_iload C.1 C.2.1 dL_law_1431 (lv_at hl 5 rfl) ?_
    refine z_iconst C dL_law_1433 ?_
    refine z_iadd C dL_law_1434 ?_
    refine zd_ld C Z G q1 (x.toNat + 1) e1 (by omega) (by omega) dL_law_1435 ?_
    refine lv_aload_n C.1 C.2.1 dL_law_1436 rfl (lv_at hl 1 rfl) ?_
    refine lv_iload C.1 C.2.1 dL_law_1437 (lv_at hl 5 rfl) ?_
    refine z_iconst C dL_law_1439 ?_
    refine z_iadd C dL_law_1440 ?_
    refine zd_ld C Z G q2 (x.toNat + 2) e2 (by omega) (by omega) dL_law_1441 ?_
    refine lv_aload_n C.1 C.2.1 dL_law_1442 rfl (lv_at hl 1 rfl) ?_
    refine lv_iload C.1 C.2.1 dL_law_1443 (lv_at hl 5 rfl) ?_
    refine z_iconst C dL_law_1445 ?_
    refine z_iadd C dL_law_1446 ?_
    refine zd_ld C Z G q3 (x.toNat + 3) e3 (by omega) (by omega) dL_law_1447 ?_
    refine zd_M (as := [.int (iZ (q1)), .int (iZ (q2)), .int (iZ (q3))]) C Y G (c_X5_again_bad1 l D cJ u v _ _ _ _ _ (q1) (q2) (q3) (by first | assumption | omega) (by first | assumption | omega) (by first | assumption | omega) (by first | assumption | omega)) ml_L_249 rfl ⟨Nat.le_of_ble_eq_true rfl, Nat.le_of_ble_eq_true rfl⟩ ⟨by show cells + 1 + 0 ≤ 665281; omega, by show slots + 6 + 0 ≤ 7105636; omega⟩ hl (Nat.le_of_ble_eq_true rfl) rfl dL_law_1448 (fun y9 H locs hy9 G => ?_)
    subst hy9
    refine lv_istore (lv' := [(6, _), (5, .int (iZ (1))), (0, .ref t), (1, .ref o), (2, .ref u), (3, .ref w), (4, .int (iZ (x)))]) C.1 C.2.1 dL_law_1451 hl (by decide) rfl (fun ls hl => ?_)
    refine lv_goto (tgt := 2172) C.1 C.2.1 dL_law_1453 (by decide) ?_
    exact kk _ _ _ _ _ _ _ _ _ _ _ _ G (by omega) (by omega) (lv_sub hl [2, 3, 4, 5, 6] rfl)
set_option maxHeartbeats 4000000 in
set_option maxRecDepth 100000 in
theorem lk_24 (hlq : l.stackTraces = false) (C : CallFix p m c0 cL_law 7 s args T0 RL) (Z : zLw D cB t N g s) (Y : zAd o a u v w s) {c : Nat → Nat} {ac re kn : Int32} {th : Int} {n : Int64} {sv : Value} {H : Heap} {locs : List Loc} {ls : Array Slot} {cells slots : Nat} (G : zG D cJ o a u v w c [.int ac, .int re, .int kn] c [.int (iZ th), .int ac, .int re, .int kn] n sv s H locs) (x : Int) (hx : 0 ≤ x ∧ x + 5 ≤ (N : Int)) (hf : cells + 150 ≤ 665281 ∧ slots + 75000 ≤ 7105636) (hl : lv_has ls 7 [(0, .ref t), (1, .ref o), (2, .ref u), (3, .ref w), (4, .int (iZ (x)))])
    (kk : zNx p l e s m args below meth c0 D cJ t o a u v w x cells slots Qw 2172) : W p l e room_1 s m args below meth c0 H locs cells slots Qw (F0 m 1456 ls []) := by
  have hc := G.1.2.2.2
  obtain ⟨q1, e1⟩ : ∃ z, g (x.toNat + 1) = z := ⟨_, rfl⟩
  have r1 : -2147483648 ≤ q1 ∧ q1 ≤ 2147483647 := e1 ▸ Z.2.2.2.2.2.1 _
  by_cases hcel : (0 ≤ q1 ∧ q1 ≤ 5)
  · skip
    refine lv_aload_n C.1 C.2.1 dL_law_1456 rfl (lv_at hl 1 rfl) ?_
    refine lv_aload_n C.1 C.2.1 dL_law_1457 rfl (lv_at hl 0 rfl) ?_
    refine lv_iload C.1 C.2.1 dL_law_1458 (lv_at hl 4 rfl) ?_
    refine z_iconst C dL_law_1460 ?_
    refine z_iadd C dL_law_1461 ?_
    refine zd_ld C Z G q1 (x.toNat + 1) e1 (by omega) (by omega) dL_law_1462 ?_
    refine lv_aload_n C.1 C.2.1 dL_law_1463 rfl (lv_at hl 3 rfl) ?_
    refine zd_W (as := [.ref o, .int (iZ (q1)), .ref w]) C Z Y G (c_L_degree l D cJ o a _ _ _ _ (q1) (by first | assumption | omega) w _ _) ml_L_250 ⟨Nat.le_of_ble_eq_true rfl, Nat.le_of_ble_eq_true rfl⟩ ⟨by show cells + 0 + 0 ≤ 665281; omega, by show slots + 0 + 0 ≤ 7105636; omega⟩ hl (Nat.le_of_ble_eq_true rfl) rfl dL_law_1464 (fun H locs G => ?_)
    refine lv_istore (lv' := [(5, .int (iZ (0))), (0, .ref t), (1, .ref o), (2, .ref u), (3, .ref w), (4, .int (iZ (x)))]) C.1 C.2.1 dL_law_1467 hl (by decide) rfl (fun ls hl => ?_)
    refine lv_aload_n C.1 C.2.1 dL_law_1469 rfl (lv_at hl 3 rfl) ?_
    refine lv_aload_n C.1 C.2.1 dL_law_1470 rfl (lv_at hl 1 rfl) ?_
    refine lv_iload C.1 C.2.1 dL_law_1471 (lv_at hl 5 rfl) ?_
    refine z_iconst C dL_law_1473 ?_
    refine z_iadd C dL_law_1474 ?_
    refine zd_ld C Z G q1 (x.toNat + 1) e1 (by omega) (by omega) dL_law_1475 ?_
    refine zd_M (as := [.int (iZ (q1))]) C Y G (c_X5_degree l D cJ u v _ _ _ _ _ (q1) (by first | assumption | omega)) ml_L_253 rfl ⟨Nat.le_of_ble_eq_true rfl, Nat.le_of_ble_eq_true rfl⟩ ⟨by show cells + 0 + 0 ≤ 665281; omega, by show slots + 0 + 0 ≤ 7105636; omega⟩ hl (Nat.le_of_ble_eq_true rfl) rfl dL_law_1476 (fun y9 H locs hy9 G => ?_)
    subst hy9
    refine lv_istore (lv' := [(6, _), (5, .int (iZ (0))), (0, .ref t), (1, .ref o), (2, .ref u), (3, .ref w), (4, .int (iZ (x)))]) C.1 C.2.1 dL_law_1479 hl (by decide) rfl (fun ls hl => ?_)
    refine lv_goto (tgt := 2172) C.1 C.2.1 dL_law_1481 (by decide) ?_
    exact kk _ _ _ _ _ _ _ _ _ _ _ _ G (by omega) (by omega) (lv_sub hl [2, 3, 4, 5, 6] rfl)
  · skip
    refine lv_aload_n C.1 C.2.1 dL_law_1456 rfl (lv_at hl 1 rfl) ?_
    refine lv_aload_n C.1 C.2.1 dL_law_1457 rfl (lv_at hl 0 rfl) ?_
    refine lv_iload C.1 C.2.1 dL_law_1458 (lv_at hl 4 rfl) ?_
    refine z_iconst C dL_law_1460 ?_
    refine z_iadd C dL_law_1461 ?_
    refine zd_ld C Z G q1 (x.toNat + 1) e1 (by omega) (by omega) dL_law_1462 ?_
    refine lv_aload_n C.1 C.2.1 dL_law_1463 rfl (lv_at hl 3 rfl) ?_
    refine zd_W (as := [.ref o, .int (iZ (q1)), .ref w]) C Z Y G (c_L_degree_badc l hlq D cJ o a _ _ _ _ (q1) (by first | assumption | omega) (by first | assumption | omega) w _ _) ml_L_250 ⟨Nat.le_of_ble_eq_true rfl, Nat.le_of_ble_eq_true rfl⟩ ⟨by show cells + 0 + 1 ≤ 665281; omega, by show slots + 0 + 6 ≤ 7105636; omega⟩ hl (Nat.le_of_ble_eq_true rfl) rfl dL_law_1464 (fun H locs G => ?_)
    refine lv_istore (lv' := [(5, .int (iZ (1))), (0, .ref t), (1, .ref o), (2, .ref u), (3, .ref w), (4, .int (iZ (x)))]) C.1 C.2.1 dL_law_1467 hl (by decide) rfl (fun ls hl => ?_)
    refine lv_aload_n C.1 C.2.1 dL_law_1469 rfl (lv_at hl 3 rfl) ?_
    refine lv_aload_n C.1 C.2.1 dL_law_1470 rfl (lv_at hl 1 rfl) ?_
    refine lv_iload C.1 C.2.1 dL_law_1471 (lv_at hl 5 rfl) ?_
    refine z_iconst C dL_law_1473 ?_
    refine z_iadd C dL_law_1474 ?_
    refine zd_ld C Z G q1 (x.toNat + 1) e1 (by omega) (by omega) dL_law_1475 ?_
    refine zd_M (as := [.int (iZ (q1))]) C Y G (c_X5_degree_bad1 l D cJ u v _ _ _ _ _ (q1) (by first | assumption | omega) (by first | assumption | omega)) ml_L_253 rfl ⟨Nat.le_of_ble_eq_true rfl, Nat.le_of_ble_eq_true rfl⟩ ⟨by show cells + 1 + 0 ≤ 665281; omega, by show slots + 6 + 0 ≤ 7105636; omega⟩ hl (Nat.le_of_ble_eq_true rfl) rfl dL_law_1476 (fun y9 H locs hy9 G => ?_)
    subst hy9
    refine lv_istore (lv' := [(6, _), (5, .int (iZ (1))), (0, .ref t), (1, .ref o), (2, .ref u), (3, .ref w), (4, .int (iZ (x)))]) C.1 C.2.1 dL_law_1479 hl (by decide) rfl (fun ls hl => ?_)
    refine lv_goto (tgt := 2172) C.1 C.2.1 dL_law_1481 (by decide) ?_
    exact kk _ _ _ _ _ _ _ _ _ _ _ _ G (by omega) (by omega) (lv_sub hl [2, 3, 4, 5, 6] rfl)
set_option maxHeartbeats 4000000 in
set_option maxRecDepth 100000 in
theorem lk_25 (hlq : l.stackTraces = false) (C : CallFix p m c0 cL_law 7 s args T0 RL) (Z : zLw D cB t N g s) (Y : zAd o a u v w s) {c : Nat → Nat} {ac re kn : Int32} {th : Int} {n : Int64} {sv : Value} {H : Heap} {locs : List Loc} {ls : Array Slot} {cells slots : Nat} (G : zG D cJ o a u v w c [.int ac, .int re, .int kn] c [.int (iZ th), .int ac, .int re, .int kn] n sv s H locs) (x : Int) (hx : 0 ≤ x ∧ x + 5 ≤ (N : Int)) (hf : cells + 150 ≤ 665281 ∧ slots + 75000 ≤ 7105636) (hl : lv_has ls 7 [(0, .ref t), (1, .ref o), (2, .ref u), (3, .ref w), (4, .int (iZ (x)))])
    (kk : zNx p l e s m args below meth c0 D cJ t o a u v w x cells slots Qw 2172) : W p l e room_1 s m args below meth c0 H locs cells slots Qw (F0 m 1484 ls []) := by
  have hc := G.1.2.2.2
  obtain ⟨q1, e1⟩ : ∃ z, g (x.toNat + 1) = z := ⟨_, rfl⟩
  have r1 : -2147483648 ≤ q1 ∧ q1 ≤ 2147483647 := e1 ▸ Z.2.2.2.2.2.1 _
  by_cases hcel : (0 ≤ q1 ∧ q1 ≤ 5)
  · skip
    refine lv_aload_n C.1 C.2.1 dL_law_1484 rfl (lv_at hl 1 rfl) ?_
    refine lv_aload_n C.1 C.2.1 dL_law_1485 rfl (lv_at hl 0 rfl) ?_
    refine lv_iload C.1 C.2.1 dL_law_1486 (lv_at hl 4 rfl) ?_
    refine z_iconst C dL_law_1488 ?_
    refine z_iadd C dL_law_1489 ?_
    refine zd_ld C Z G q1 (x.toNat + 1) e1 (by omega) (by omega) dL_law_1490 ?_
    refine lv_aload_n C.1 C.2.1 dL_law_1491 rfl (lv_at hl 3 rfl) ?_
    refine zd_W (as := [.ref o, .int (iZ (q1)), .ref w]) C Z Y G (c_L_low l D cJ o a _ _ _ _ (q1) (by first | assumption | omega) w _ _) ml_L_254 ⟨Nat.le_of_ble_eq_true rfl, Nat.le_of_ble_eq_true rfl⟩ ⟨by show cells + 0 + 0 ≤ 665281; omega, by show slots + 0 + 0 ≤ 7105636; omega⟩ hl (Nat.le_of_ble_eq_true rfl) rfl dL_law_1492 (fun H locs G => ?_)
    refine lv_istore (lv' := [(5, .int (iZ (0))), (0, .ref t), (1, .ref o), (2, .ref u), (3, .ref w), (4, .int (iZ (x)))]) C.1 C.2.1 dL_law_1495 hl (by decide) rfl (fun ls hl => ?_)
    refine lv_aload_n C.1 C.2.1 dL_law_1497 rfl (lv_at hl 3 rfl) ?_
    refine lv_aload_n C.1 C.2.1 dL_law_1498 rfl (lv_at hl 1 rfl) ?_
    refine lv_iload C.1 C.2.1 dL_law_1499 (lv_at hl 5 rfl) ?_
    refine z_iconst C dL_law_1501 ?_
    refine z_iadd C dL_law_1502 ?_
    refine zd_ld C Z G q1 (x.toNat + 1) e1 (by omega) (by omega) dL_law_1503 ?_
    refine zd_M (as := [.int (iZ (q1))]) C Y G (c_X5_low l D cJ u v _ _ _ _ _ (q1) (by first | assumption | omega)) ml_L_256 rfl ⟨Nat.le_of_ble_eq_true rfl, Nat.le_of_ble_eq_true rfl⟩ ⟨by show cells + 0 + 0 ≤ 665281; omega, by show slots + 0 + 0 ≤ 7105636; omega⟩ hl (Nat.le_of_ble_eq_true rfl) rfl dL_law_1504 (fun y9 H locs hy9 G => ?_)
    subst hy9
    refine lv_istore (lv' := [(6, _), (5, .int (iZ (0))), (0, .ref t), (1, .ref o), (2, .ref u), (3, .ref w), (4, .int (iZ (x)))]) C.1 C.2.1 dL_law_1507 hl (by decide) rfl (fun ls hl => ?_)
    refine lv_goto (tgt := 2172) C.1 C.2.1 dL_law_1509 (by decide) ?_
    exact kk _ _ _ _ _ _ _ _ _ _ _ _ G (by omega) (by omega) (lv_sub hl [2, 3, 4, 5, 6] rfl)
  · skip
    refine lv_aload_n C.1 C.2.1 dL_law_1484 rfl (lv_at hl 1 rfl) ?_
    refine lv_aload_n C.1 C.2.1 dL_law_1485 rfl (lv_at hl 0 rfl) ?_
    refine lv_iload C.1 C.2.1 dL_law_1486 (lv_at hl 4 rfl) ?_
    refine z_iconst C dL_law_1488 ?_
    refine z_iadd C dL_law_1489 ?_
    refine zd_ld C Z G q1 (x.toNat + 1) e1 (by omega) (by omega) dL_law_1490 ?_
    refine lv_aload_n C.1 C.2.1 dL_law_1491 rfl (lv_at hl 3 rfl) ?_
    refine zd_W (as := [.ref o, .int (iZ (q1)), .ref w]) C Z Y G (c_L_low_badc l hlq D cJ o a _ _ _ _ (q1) (by first | assumption | omega) (by first | assumption | omega) w _ _) ml_L_254 ⟨Nat.le_of_ble_eq_true rfl, Nat.le_of_ble_eq_true rfl⟩ ⟨by show cells + 0 + 1 ≤ 665281; omega, by show slots + 0 + 6 ≤ 7105636; omega⟩ hl (Nat.le_of_ble_eq_true rfl) rfl dL_law_1492 (fun H locs G => ?_)
    refine lv_istore (lv' := [(5, .int (iZ (1))), (0, .ref t), (1, .ref o), (2, .ref u), (3, .ref w), (4, .int (iZ (x)))]) C.1 C.2.1 dL_law_1495 hl (by decide) rfl (fun ls hl => ?_)
    refine lv_aload_n C.1 C.2.1 dL_law_1497 rfl (lv_at hl 3 rfl) ?_
    refine lv_aload_n C.1 C.2.1 dL_law_1498 rfl (lv_at hl 1 rfl) ?_
    refine lv_iload C.1 C.2.1 dL_law_1499 (lv_at hl 5 rfl) ?_
    refine z_iconst C dL_law_1501 ?_
    refine z_iadd C dL_law_1502 ?_
    refine zd_ld C Z G q1 (x.toNat + 1) e1 (by omega) (by omega) dL_law_1503 ?_
    refine zd_M (as := [.int (iZ (q1))]) C Y G (c_X5_low_bad1 l D cJ u v _ _ _ _ _ (q1) (by first | assumption | omega) (by first | assumption | omega)) ml_L_256 rfl ⟨Nat.le_of_ble_eq_true rfl, Nat.le_of_ble_eq_true rfl⟩ ⟨by show cells + 1 + 0 ≤ 665281; omega, by show slots + 6 + 0 ≤ 7105636; omega⟩ hl (Nat.le_of_ble_eq_true rfl) rfl dL_law_1504 (fun y9 H locs hy9 G => ?_)
    subst hy9
    refine lv_istore (lv' := [(6, _), (5, .int (iZ (1))), (0, .ref t), (1, .ref o), (2, .ref u), (3, .ref w), (4, .int (iZ (x)))]) C.1 C.2.1 dL_law_1507 hl (by decide) rfl (fun ls hl => ?_)
    refine lv_goto (tgt := 2172) C.1 C.2.1 dL_law_1509 (by decide) ?_
    exact kk _ _ _ _ _ _ _ _ _ _ _ _ G (by omega) (by omega) (lv_sub hl [2, 3, 4, 5, 6] rfl)
set_option maxHeartbeats 4000000 in
set_option maxRecDepth 100000 in
theorem lk_26 (hlq : l.stackTraces = false) (C : CallFix p m c0 cL_law 7 s args T0 RL) (Z : zLw D cB t N g s) (Y : zAd o a u v w s) {c : Nat → Nat} {ac re kn : Int32} {th : Int} {n : Int64} {sv : Value} {H : Heap} {locs : List Loc} {ls : Array Slot} {cells slots : Nat} (G : zG D cJ o a u v w c [.int ac, .int re, .int kn] c [.int (iZ th), .int ac, .int re, .int kn] n sv s H locs) (x : Int) (hx : 0 ≤ x ∧ x + 5 ≤ (N : Int)) (hf : cells + 150 ≤ 665281 ∧ slots + 75000 ≤ 7105636) (hl : lv_has ls 7 [(0, .ref t), (1, .ref o), (2, .ref u), (3, .ref w), (4, .int (iZ (x)))])
    (kk : zNx p l e s m args below meth c0 D cJ t o a u v w x cells slots Qw 2172) : W p l e room_1 s m args below meth c0 H locs cells slots Qw (F0 m 1512 ls []) := by
  have hc := G.1.2.2.2
  obtain ⟨q1, e1⟩ : ∃ z, g (x.toNat + 1) = z := ⟨_, rfl⟩
  have r1 : -2147483648 ≤ q1 ∧ q1 ≤ 2147483647 := e1 ▸ Z.2.2.2.2.2.1 _
  by_cases hcel : (0 ≤ q1 ∧ q1 ≤ 5)
  · skip
    refine lv_aload_n C.1 C.2.1 dL_law_1512 rfl (lv_at hl 1 rfl) ?_
    refine lv_aload_n C.1 C.2.1 dL_law_1513 rfl (lv_at hl 0 rfl) ?_
    refine lv_iload C.1 C.2.1 dL_law_1514 (lv_at hl 4 rfl) ?_
    refine z_iconst C dL_law_1516 ?_
    refine z_iadd C dL_law_1517 ?_
    refine zd_ld C Z G q1 (x.toNat + 1) e1 (by omega) (by omega) dL_law_1518 ?_
    refine lv_aload_n C.1 C.2.1 dL_law_1519 rfl (lv_at hl 3 rfl) ?_
    refine zd_W (as := [.ref o, .int (iZ (q1)), .ref w]) C Z Y G (c_L_weight l D cJ o a _ _ _ _ (q1) (by first | assumption | omega) w _ _) ml_L_257 ⟨Nat.le_of_ble_eq_true rfl, Nat.le_of_ble_eq_true rfl⟩ ⟨by show cells + 0 + 0 ≤ 665281; omega, by show slots + 0 + 0 ≤ 7105636; omega⟩ hl (Nat.le_of_ble_eq_true rfl) rfl dL_law_1520 (fun H locs G => ?_)
    refine lv_istore (lv' := [(5, .int (iZ (0))), (0, .ref t), (1, .ref o), (2, .ref u), (3, .ref w), (4, .int (iZ (x)))]) C.1 C.2.1 dL_law_1523 hl (by decide) rfl (fun ls hl => ?_)
    refine lv_aload_n C.1 C.2.1 dL_law_1525 rfl (lv_at hl 3 rfl) ?_
    refine lv_aload_n C.1 C.2.1 dL_law_1526 rfl (lv_at hl 1 rfl) ?_
    refine lv_iload C.1 C.2.1 dL_law_1527 (lv_at hl 5 rfl) ?_
    refine z_iconst C dL_law_1529 ?_
    refine z_iadd C dL_law_1530 ?_
    refine zd_ld C Z G q1 (x.toNat + 1) e1 (by omega) (by omega) dL_law_1531 ?_
    refine zd_M (as := [.int (iZ (q1))]) C Y G (c_X5_weight l D cJ u v _ _ _ _ _ (q1) (by first | assumption | omega)) ml_L_259 rfl ⟨Nat.le_of_ble_eq_true rfl, Nat.le_of_ble_eq_true rfl⟩ ⟨by show cells + 0 + 0 ≤ 665281; omega, by show slots + 0 + 0 ≤ 7105636; omega⟩ hl (Nat.le_of_ble_eq_true rfl) rfl dL_law_1532 (fun y9 H locs hy9 G => ?_)
    subst hy9
    refine lv_istore (lv' := [(6, _), (5, .int (iZ (0))), (0, .ref t), (1, .ref o), (2, .ref u), (3, .ref w), (4, .int (iZ (x)))]) C.1 C.2.1 dL_law_1535 hl (by decide) rfl (fun ls hl => ?_)
    refine lv_goto (tgt := 2172) C.1 C.2.1 dL_law_1537 (by decide) ?_
    exact kk _ _ _ _ _ _ _ _ _ _ _ _ G (by omega) (by omega) (lv_sub hl [2, 3, 4, 5, 6] rfl)
  · skip
    refine lv_aload_n C.1 C.2.1 dL_law_1512 rfl (lv_at hl 1 rfl) ?_
    refine lv_aload_n C.1 C.2.1 dL_law_1513 rfl (lv_at hl 0 rfl) ?_
    refine lv_iload C.1 C.2.1 dL_law_1514 (lv_at hl 4 rfl) ?_
    refine z_iconst C dL_law_1516 ?_
    refine z_iadd C dL_law_1517 ?_
    refine zd_ld C Z G q1 (x.toNat + 1) e1 (by omega) (by omega) dL_law_1518 ?_
    refine lv_aload_n C.1 C.2.1 dL_law_1519 rfl (lv_at hl 3 rfl) ?_
    refine zd_W (as := [.ref o, .int (iZ (q1)), .ref w]) C Z Y G (c_L_weight_badc l hlq D cJ o a _ _ _ _ (q1) (by first | assumption | omega) (by first | assumption | omega) w _ _) ml_L_257 ⟨Nat.le_of_ble_eq_true rfl, Nat.le_of_ble_eq_true rfl⟩ ⟨by show cells + 0 + 1 ≤ 665281; omega, by show slots + 0 + 6 ≤ 7105636; omega⟩ hl (Nat.le_of_ble_eq_true rfl) rfl dL_law_1520 (fun H locs G => ?_)
    refine lv_istore (lv' := [(5, .int (iZ (1))), (0, .ref t), (1, .ref o), (2, .ref u), (3, .ref w), (4, .int (iZ (x)))]) C.1 C.2.1 dL_law_1523 hl (by decide) rfl (fun ls hl => ?_)
    refine lv_aload_n C.1 C.2.1 dL_law_1525 rfl (lv_at hl 3 rfl) ?_
    refine lv_aload_n C.1 C.2.1 dL_law_1526 rfl (lv_at hl 1 rfl) ?_
    refine lv_iload C.1 C.2.1 dL_law_1527 (lv_at hl 5 rfl) ?_
    refine z_iconst C dL_law_1529 ?_
    refine z_iadd C dL_law_1530 ?_
    refine zd_ld C Z G q1 (x.toNat + 1) e1 (by omega) (by omega) dL_law_1531 ?_
    refine zd_M (as := [.int (iZ (q1))]) C Y G (c_X5_weight_bad1 l D cJ u v _ _ _ _ _ (q1) (by first | assumption | omega) (by first | assumption | omega)) ml_L_259 rfl ⟨Nat.le_of_ble_eq_true rfl, Nat.le_of_ble_eq_true rfl⟩ ⟨by show cells + 1 + 0 ≤ 665281; omega, by show slots + 6 + 0 ≤ 7105636; omega⟩ hl (Nat.le_of_ble_eq_true rfl) rfl dL_law_1532 (fun y9 H locs hy9 G => ?_)
    subst hy9
    refine lv_istore (lv' := [(6, _), (5, .int (iZ (1))), (0, .ref t), (1, .ref o), (2, .ref u), (3, .ref w), (4, .int (iZ (x)))]) C.1 C.2.1 dL_law_1535 hl (by decide) rfl (fun ls hl => ?_)
    refine lv_goto (tgt := 2172) C.1 C.2.1 dL_law_1537 (by decide) ?_
    exact kk _ _ _ _ _ _ _ _ _ _ _ _ G (by omega) (by omega) (lv_sub hl [2, 3, 4, 5, 6] rfl)
set_option maxHeartbeats 4000000 in
set_option maxRecDepth 100000 in
theorem lk_27 (hlq : l.stackTraces = false) (C : CallFix p m c0 cL_law 7 s args T0 RL) (Z : zLw D cB t N g s) (Y : zAd o a u v w s) {c : Nat → Nat} {ac re kn : Int32} {th : Int} {n : Int64} {sv : Value} {H : Heap} {locs : List Loc} {ls : Array Slot} {cells slots : Nat} (G : zG D cJ o a u v w c [.int ac, .int re, .int kn] c [.int (iZ th), .int ac, .int re, .int kn] n sv s H locs) (x : Int) (hx : 0 ≤ x ∧ x + 5 ≤ (N : Int)) (hf : cells + 150 ≤ 665281 ∧ slots + 75000 ≤ 7105636) (hl : lv_has ls 7 [(0, .ref t), (1, .ref o), (2, .ref u), (3, .ref w), (4, .int (iZ (x)))])
    (kk : zNx p l e s m args below meth c0 D cJ t o a u v w x cells slots Qw 2172) : W p l e room_1 s m args below meth c0 H locs cells slots Qw (F0 m 1540 ls []) := by
  have hc := G.1.2.2.2
  obtain ⟨q1, e1⟩ : ∃ z, g (x.toNat + 1) = z := ⟨_, rfl⟩
  have r1 : -2147483648 ≤ q1 ∧ q1 ≤ 2147483647 := e1 ▸ Z.2.2.2.2.2.1 _
  obtain ⟨q2, e2⟩ : ∃ z, g (x.toNat + 2) = z := ⟨_, rfl⟩
  have r2 : -2147483648 ≤ q2 ∧ q2 ≤ 2147483647 := e2 ▸ Z.2.2.2.2.2.1 _
  by_cases hcel : (0 ≤ q1 ∧ q1 ≤ 5)
  · skip
    by_cases hrng : (0 ≤ q2 ∧ q2 ≤ 99)
    · skip
      refine lv_aload_n C.1 C.2.1 dL_law_1540 rfl (lv_at hl 1 rfl) ?_
      refine lv_aload_n C.1 C.2.1 dL_law_1541 rfl (lv_at hl 0 rfl) ?_
      refine lv_iload C.1 C.2.1 dL_law_1542 (lv_at hl 4 rfl) ?_
      refine z_iconst C dL_law_1544 ?_
      refine z_iadd C dL_law_1545 ?_
      refine zd_ld C Z G q1 (x.toNat + 1) e1 (by omega) (by omega) dL_law_1546 ?_
      refine lv_aload_n C.1 C.2.1 dL_law_1547 rfl (lv_at hl 0 rfl) ?_
      refine lv_iload C.1 C.2.1 dL_law_1548 (lv_at hl 4 rfl) ?_
      refine z_iconst C dL_law_1550 ?_
      refine z_iadd C dL_law_1551 ?_
      refine zd_ld C Z G q2 (x.toNat + 2) e2 (by omega) (by omega) dL_law_1552 ?_
      refine lv_aload_n C.1 C.2.1 dL_law_1553 rfl (lv_at hl 3 rfl) ?_
      refine zd_W (as := [.ref o, .int (iZ (q1)), .int (iZ (q2)), .ref w]) C Z Y G (c_L_at l D cJ o a _ _ _ _ (q1) (q2) (by first | assumption | omega) (by first | assumption | omega) w _ _) ml_L_260 ⟨Nat.le_of_ble_eq_true rfl, Nat.le_of_ble_eq_true rfl⟩ ⟨by show cells + 0 + 0 ≤ 665281; omega, by show slots + 0 + 0 ≤ 7105636; omega⟩ hl (Nat.le_of_ble_eq_true rfl) rfl dL_law_1554 (fun H locs G => ?_)
      refine lv_istore (lv' := [(5, .int (iZ (0))), (0, .ref t), (1, .ref o), (2, .ref u), (3, .ref w), (4, .int (iZ (x)))]) C.1 C.2.1 dL_law_1557 hl (by decide) rfl (fun ls hl => ?_)
      refine lv_aload_n C.1 C.2.1 dL_law_1559 rfl (lv_at hl 3 rfl) ?_
      refine lv_aload_n C.1 C.2.1 dL_law_1560 rfl (lv_at hl 1 rfl) ?_
      refine lv_iload C.1 C.2.1 dL_law_1561 (lv_at hl 5 rfl) ?_
      refine z_iconst C dL_law_1563 ?_
      refine z_iadd C dL_law_1564 ?_
      refine zd_ld C Z G q1 (x.toNat + 1) e1 (by omega) (by omega) dL_law_1565 ?_
      refine lv_aload_n C.1 C.2.1 dL_law_1566 rfl (lv_at hl 1 rfl) ?_
      refine lv_iload C.1 C.2.1 dL_law_1567 (lv_at hl 5 rfl) ?_
      refine z_iconst C dL_law_1569 ?_
      refine z_iadd C dL_law_1570 ?_
      refine zd_ld C Z G q2 (x.toNat + 2) e2 (by omega) (by omega) dL_law_1571 ?_
      refine zd_M (as := [.int (iZ (q1)), .int (iZ (q2))]) C Y G (c_X5_at l D cJ u v _ _ _ _ _ (q1) (q2) (by first | assumption | omega) (by first | assumption | omega)) ml_L_262 rfl ⟨Nat.le_of_ble_eq_true rfl, Nat.le_of_ble_eq_true rfl⟩ ⟨by show cells + 0 + 0 ≤ 665281; omega, by show slots + 0 + 0 ≤ 7105636; omega⟩ hl (Nat.le_of_ble_eq_true rfl) rfl dL_law_1572 (fun y9 H locs hy9 G => ?_)
      subst hy9
      refine lv_istore (lv' := [(6, _), (5, .int (iZ (0))), (0, .ref t), (1, .ref o), (2, .ref u), (3, .ref w), (4, .int (iZ (x)))]) C.1 C.2.1 dL_law_1575 hl (by decide) rfl (fun ls hl => ?_)
      refine lv_goto (tgt := 2172) C.1 C.2.1 dL_law_1577 (by decide) ?_
      exact kk _ _ _ _ _ _ _ _ _ _ _ _ G (by omega) (by omega) (lv_sub hl [2, 3, 4, 5, 6] rfl)
    · skip
      refine lv_aload_n C.1 C.2.1 dL_law_1540 rfl (lv_at hl 1 rfl) ?_
      refine lv_aload_n C.1 C.2.1 dL_law_1541 rfl (lv_at hl 0 rfl) ?_
      refine lv_iload C.1 C.2.1 dL_law_1542 (lv_at hl 4 rfl) ?_
      refine z_iconst C dL_law_1544 ?_
      refine z_iadd C dL_law_1545 ?_
      refine zd_ld C Z G q1 (x.toNat + 1) e1 (by omega) (by omega) dL_law_1546 ?_
      refine lv_aload_n C.1 C.2.1 dL_law_1547 rfl (lv_at hl 0 rfl) ?_
      refine lv_iload C.1 C.2.1 dL_law_1548 (lv_at hl 4 rfl) ?_
      refine z_iconst C dL_law_1550 ?_
      refine z_iadd C dL_law_1551 ?_
      refine zd_ld C Z G q2 (x.toNat + 2) e2 (by omega) (by omega) dL_law_1552 ?_
      refine lv_aload_n C.1 C.2.1 dL_law_1553 rfl (lv_at hl 3 rfl) ?_
      refine zd_W (as := [.ref o, .int (iZ (q1)), .int (iZ (q2)), .ref w]) C Z Y G (c_L_at_badr l hlq D cJ o a _ _ _ _ (q1) (q2) (by first | assumption | omega) (by first | assumption | omega) (by first | assumption | omega) (by first | assumption | omega) w _ _) ml_L_260 ⟨Nat.le_of_ble_eq_true rfl, Nat.le_of_ble_eq_true rfl⟩ ⟨by show cells + 0 + 1 ≤ 665281; omega, by show slots + 0 + 6 ≤ 7105636; omega⟩ hl (Nat.le_of_ble_eq_true rfl) rfl dL_law_1554 (fun H locs G => ?_)
      refine lv_istore (lv' := [(5, .int (iZ (2))), (0, .ref t), (1, .ref o), (2, .ref u), (3, .ref w), (4, .int (iZ (x)))]) C.1 C.2.1 dL_law_1557 hl (by decide) rfl (fun ls hl => ?_)
      refine lv_aload_n C.1 C.2.1 dL_law_1559 rfl (lv_at hl 3 rfl) ?_
      refine lv_aload_n C.1 C.2.1 dL_law_1560 rfl (lv_at hl 1 rfl) ?_
      refine lv_iload C.1 C.2.1 dL_law_1561 (lv_at hl 5 rfl) ?_
      refine z_iconst C dL_law_1563 ?_
      refine z_iadd C dL_law_1564 ?_
      refine zd_ld C Z G q1 (x.toNat + 1) e1 (by omega) (by omega) dL_law_1565 ?_
      refine lv_aload_n C.1 C.2.1 dL_law_1566 rfl (lv_at hl 1 rfl) ?_
      refine lv_iload C.1 C.2.1 dL_law_1567 (lv_at hl 5 rfl) ?_
      refine z_iconst C dL_law_1569 ?_
      refine z_iadd C dL_law_1570 ?_
      refine zd_ld C Z G q2 (x.toNat + 2) e2 (by omega) (by omega) dL_law_1571 ?_
      refine zd_M (as := [.int (iZ (q1)), .int (iZ (q2))]) C Y G (c_X5_at_bad2 l D cJ u v _ _ _ _ _ (q1) (q2) (by first | assumption | omega) (by first | assumption | omega) (by first | assumption | omega) (by first | assumption | omega)) ml_L_262 rfl ⟨Nat.le_of_ble_eq_true rfl, Nat.le_of_ble_eq_true rfl⟩ ⟨by show cells + 1 + 0 ≤ 665281; omega, by show slots + 6 + 0 ≤ 7105636; omega⟩ hl (Nat.le_of_ble_eq_true rfl) rfl dL_law_1572 (fun y9 H locs hy9 G => ?_)
      subst hy9
      refine lv_istore (lv' := [(6, _), (5, .int (iZ (2))), (0, .ref t), (1, .ref o), (2, .ref u), (3, .ref w), (4, .int (iZ (x)))]) C.1 C.2.1 dL_law_1575 hl (by decide) rfl (fun ls hl => ?_)
      refine lv_goto (tgt := 2172) C.1 C.2.1 dL_law_1577 (by decide) ?_
      exact kk _ _ _ _ _ _ _ _ _ _ _ _ G (by omega) (by omega) (lv_sub hl [2, 3, 4, 5, 6] rfl)
  · skip
    refine lv_aload_n C.1 C.2.1 dL_law_1540 rfl (lv_at hl 1 rfl) ?_
    refine lv_aload_n C.1 C.2.1 dL_law_1541 rfl (lv_at hl 0 rfl) ?_
    refine lv_iload C.1 C.2.1 dL_law_1542 (lv_at hl 4 rfl) ?_
    refine z_iconst C dL_law_1544 ?_
    refine z_iadd C dL_law_1545 ?_
    refine zd_ld C Z G q1 (x.toNat + 1) e1 (by omega) (by omega) dL_law_1546 ?_
    refine lv_aload_n C.1 C.2.1 dL_law_1547 rfl (lv_at hl 0 rfl) ?_
    refine lv_iload C.1 C.2.1 dL_law_1548 (lv_at hl 4 rfl) ?_
    refine z_iconst C dL_law_1550 ?_
    refine z_iadd C dL_law_1551 ?_
    refine zd_ld C Z G q2 (x.toNat + 2) e2 (by omega) (by omega) dL_law_1552 ?_
    refine lv_aload_n C.1 C.2.1 dL_law_1553 rfl (lv_at hl 3 rfl) ?_
    refine zd_W (as := [.ref o, .int (iZ (q1)), .int (iZ (q2)), .ref w]) C Z Y G (c_L_at_badc l hlq D cJ o a _ _ _ _ (q1) (q2) (by first | assumption | omega) (by first | assumption | omega) (by first | assumption | omega) w _ _) ml_L_260 ⟨Nat.le_of_ble_eq_true rfl, Nat.le_of_ble_eq_true rfl⟩ ⟨by show cells + 0 + 1 ≤ 665281; omega, by show slots + 0 + 6 ≤ 7105636; omega⟩ hl (Nat.le_of_ble_eq_true rfl) rfl dL_law_1554 (fun H locs G => ?_)
    refine lv_istore (lv' := [(5, .int (iZ (1))), (0, .ref t), (1, .ref o), (2, .ref u), (3, .ref w), (4, .int (iZ (x)))]) C.1 C.2.1 dL_law_1557 hl (by decide) rfl (fun ls hl => ?_)
    refine lv_aload_n C.1 C.2.1 dL_law_1559 rfl (lv_at hl 3 rfl) ?_
    refine lv_aload_n C.1 C.2.1 dL_law_1560 rfl (lv_at hl 1 rfl) ?_
    refine lv_iload C.1 C.2.1 dL_law_1561 (lv_at hl 5 rfl) ?_
    refine z_iconst C dL_law_1563 ?_
    refine z_iadd C dL_law_1564 ?_
    refine zd_ld C Z G q1 (x.toNat + 1) e1 (by omega) (by omega) dL_law_1565 ?_
    refine lv_aload_n C.1 C.2.1 dL_law_1566 rfl (lv_at hl 1 rfl) ?_
    refine lv_iload C.1 C.2.1 dL_law_1567 (lv_at hl 5 rfl) ?_
    refine z_iconst C dL_law_1569 ?_
    refine z_iadd C dL_law_1570 ?_
    refine zd_ld C Z G q2 (x.toNat + 2) e2 (by omega) (by omega) dL_law_1571 ?_
    refine zd_M (as := [.int (iZ (q1)), .int (iZ (q2))]) C Y G (c_X5_at_bad1 l D cJ u v _ _ _ _ _ (q1) (q2) (by first | assumption | omega) (by first | assumption | omega) (by first | assumption | omega)) ml_L_262 rfl ⟨Nat.le_of_ble_eq_true rfl, Nat.le_of_ble_eq_true rfl⟩ ⟨by show cells + 1 + 0 ≤ 665281; omega, by show slots + 6 + 0 ≤ 7105636; omega⟩ hl (Nat.le_of_ble_eq_true rfl) rfl dL_law_1572 (fun y9 H locs hy9 G => ?_)
    subst hy9
    refine lv_istore (lv' := [(6, _), (5, .int (iZ (1))), (0, .ref t), (1, .ref o), (2, .ref u), (3, .ref w), (4, .int (iZ (x)))]) C.1 C.2.1 dL_law_1575 hl (by decide) rfl (fun ls hl => ?_)
    refine lv_goto (tgt := 2172) C.1 C.2.1 dL_law_1577 (by decide) ?_
    exact kk _ _ _ _ _ _ _ _ _ _ _ _ G (by omega) (by omega) (lv_sub hl [2, 3, 4, 5, 6] rfl)
set_option maxHeartbeats 4000000 in
set_option maxRecDepth 100000 in
theorem lk_28 (hlq : l.stackTraces = false) (C : CallFix p m c0 cL_law 7 s args T0 RL) (Z : zLw D cB t N g s) (Y : zAd o a u v w s) {c : Nat → Nat} {ac re kn : Int32} {th : Int} {n : Int64} {sv : Value} {H : Heap} {locs : List Loc} {ls : Array Slot} {cells slots : Nat} (G : zG D cJ o a u v w c [.int ac, .int re, .int kn] c [.int (iZ th), .int ac, .int re, .int kn] n sv s H locs) (x : Int) (hx : 0 ≤ x ∧ x + 5 ≤ (N : Int)) (hf : cells + 150 ≤ 665281 ∧ slots + 75000 ≤ 7105636) (hl : lv_has ls 7 [(0, .ref t), (1, .ref o), (2, .ref u), (3, .ref w), (4, .int (iZ (x)))])
    (kk : zNx p l e s m args below meth c0 D cJ t o a u v w x cells slots Qw 2172) : W p l e room_1 s m args below meth c0 H locs cells slots Qw (F0 m 1580 ls []) := by
  have hc := G.1.2.2.2
  obtain ⟨q1, e1⟩ : ∃ z, g (x.toNat + 1) = z := ⟨_, rfl⟩
  have r1 : -2147483648 ≤ q1 ∧ q1 ≤ 2147483647 := e1 ▸ Z.2.2.2.2.2.1 _
  by_cases hcel : (0 ≤ q1 ∧ q1 ≤ 5)
  · skip
    refine lv_aload_n C.1 C.2.1 dL_law_1580 rfl (lv_at hl 1 rfl) ?_
    refine lv_aload_n C.1 C.2.1 dL_law_1581 rfl (lv_at hl 0 rfl) ?_
    refine lv_iload C.1 C.2.1 dL_law_1582 (lv_at hl 4 rfl) ?_
    refine z_iconst C dL_law_1584 ?_
    refine z_iadd C dL_law_1585 ?_
    refine zd_ld C Z G q1 (x.toNat + 1) e1 (by omega) (by omega) dL_law_1586 ?_
    refine lv_aload_n C.1 C.2.1 dL_law_1587 rfl (lv_at hl 3 rfl) ?_
    refine zd_W (as := [.ref o, .int (iZ (q1)), .ref w]) C Z Y G (c_L_digits l D cJ o a _ _ _ _ (q1) (by first | assumption | omega) w _ _) ml_L_263 ⟨Nat.le_of_ble_eq_true rfl, Nat.le_of_ble_eq_true rfl⟩ ⟨by show cells + 0 + 0 ≤ 665281; omega, by show slots + 0 + 0 ≤ 7105636; omega⟩ hl (Nat.le_of_ble_eq_true rfl) rfl dL_law_1588 (fun H locs G => ?_)
    refine lv_istore (lv' := [(5, .int (iZ (0))), (0, .ref t), (1, .ref o), (2, .ref u), (3, .ref w), (4, .int (iZ (x)))]) C.1 C.2.1 dL_law_1591 hl (by decide) rfl (fun ls hl => ?_)
    refine lv_aload_n C.1 C.2.1 dL_law_1593 rfl (lv_at hl 3 rfl) ?_
    refine lv_aload_n C.1 C.2.1 dL_law_1594 rfl (lv_at hl 1 rfl) ?_
    refine lv_iload C.1 C.2.1 dL_law_1595 (lv_at hl 5 rfl) ?_
    refine z_iconst C dL_law_1597 ?_
    refine z_iadd C dL_law_1598 ?_
    refine zd_ld C Z G q1 (x.toNat + 1) e1 (by omega) (by omega) dL_law_1599 ?_
    refine zd_M (as := [.int (iZ (q1))]) C Y G (c_X5_digits l D cJ u v _ _ _ _ _ (q1) (by first | assumption | omega)) ml_L_265 rfl ⟨Nat.le_of_ble_eq_true rfl, Nat.le_of_ble_eq_true rfl⟩ ⟨by show cells + 0 + 0 ≤ 665281; omega, by show slots + 0 + 0 ≤ 7105636; omega⟩ hl (Nat.le_of_ble_eq_true rfl) rfl dL_law_1600 (fun y9 H locs hy9 G => ?_)
    subst hy9
    refine lv_istore (lv' := [(6, _), (5, .int (iZ (0))), (0, .ref t), (1, .ref o), (2, .ref u), (3, .ref w), (4, .int (iZ (x)))]) C.1 C.2.1 dL_law_1603 hl (by decide) rfl (fun ls hl => ?_)
    refine lv_goto (tgt := 2172) C.1 C.2.1 dL_law_1605 (by decide) ?_
    exact kk _ _ _ _ _ _ _ _ _ _ _ _ G (by omega) (by omega) (lv_sub hl [2, 3, 4, 5, 6] rfl)
  · skip
    refine lv_aload_n C.1 C.2.1 dL_law_1580 rfl (lv_at hl 1 rfl) ?_
    refine lv_aload_n C.1 C.2.1 dL_law_1581 rfl (lv_at hl 0 rfl) ?_
    refine lv_iload C.1 C.2.1 dL_law_1582 (lv_at hl 4 rfl) ?_
    refine z_iconst C dL_law_1584 ?_
    refine z_iadd C dL_law_1585 ?_
    refine zd_ld C Z G q1 (x.toNat + 1) e1 (by omega) (by omega) dL_law_1586 ?_
    refine lv_aload_n C.1 C.2.1 dL_law_1587 rfl (lv_at hl 3 rfl) ?_
    refine zd_W (as := [.ref o, .int (iZ (q1)), .ref w]) C Z Y G (c_L_digits_badc l hlq D cJ o a _ _ _ _ (q1) (by first | assumption | omega) (by first | assumption | omega) w _ _) ml_L_263 ⟨Nat.le_of_ble_eq_true rfl, Nat.le_of_ble_eq_true rfl⟩ ⟨by show cells + 0 + 1 ≤ 665281; omega, by show slots + 0 + 6 ≤ 7105636; omega⟩ hl (Nat.le_of_ble_eq_true rfl) rfl dL_law_1588 (fun H locs G => ?_)
    refine lv_istore (lv' := [(5, .int (iZ (1))), (0, .ref t), (1, .ref o), (2, .ref u), (3, .ref w), (4, .int (iZ (x)))]) C.1 C.2.1 dL_law_1591 hl (by decide) rfl (fun ls hl => ?_)
    refine lv_aload_n C.1 C.2.1 dL_law_1593 rfl (lv_at hl 3 rfl) ?_
    refine lv_aload_n C.1 C.2.1 dL_law_1594 rfl (lv_at hl 1 rfl) ?_
    refine lv_iload C.1 C.2.1 dL_law_1595 (lv_at hl 5 rfl) ?_
    refine z_iconst C dL_law_1597 ?_
    refine z_iadd C dL_law_1598 ?_
    refine zd_ld C Z G q1 (x.toNat + 1) e1 (by omega) (by omega) dL_law_1599 ?_
    refine zd_M (as := [.int (iZ (q1))]) C Y G (c_X5_digits_bad1 l D cJ u v _ _ _ _ _ (q1) (by first | assumption | omega) (by first | assumption | omega)) ml_L_265 rfl ⟨Nat.le_of_ble_eq_true rfl, Nat.le_of_ble_eq_true rfl⟩ ⟨by show cells + 1 + 0 ≤ 665281; omega, by show slots + 6 + 0 ≤ 7105636; omega⟩ hl (Nat.le_of_ble_eq_true rfl) rfl dL_law_1600 (fun y9 H locs hy9 G => ?_)
    subst hy9
    refine lv_istore (lv' := [(6, _), (5, .int (iZ (1))), (0, .ref t), (1, .ref o), (2, .ref u), (3, .ref w), (4, .int (iZ (x)))]) C.1 C.2.1 dL_law_1603 hl (by decide) rfl (fun ls hl => ?_)
    refine lv_goto (tgt := 2172) C.1 C.2.1 dL_law_1605 (by decide) ?_
    exact kk _ _ _ _ _ _ _ _ _ _ _ _ G (by omega) (by omega) (lv_sub hl [2, 3, 4, 5, 6] rfl)
set_option maxHeartbeats 4000000 in
set_option maxRecDepth 100000 in
theorem lk_29 (hlq : l.stackTraces = false) (C : CallFix p m c0 cL_law 7 s args T0 RL) (Z : zLw D cB t N g s) (Y : zAd o a u v w s) {c : Nat → Nat} {ac re kn : Int32} {th : Int} {n : Int64} {sv : Value} {H : Heap} {locs : List Loc} {ls : Array Slot} {cells slots : Nat} (G : zG D cJ o a u v w c [.int ac, .int re, .int kn] c [.int (iZ th), .int ac, .int re, .int kn] n sv s H locs) (x : Int) (hx : 0 ≤ x ∧ x + 5 ≤ (N : Int)) (hf : cells + 150 ≤ 665281 ∧ slots + 75000 ≤ 7105636) (hl : lv_has ls 7 [(0, .ref t), (1, .ref o), (2, .ref u), (3, .ref w), (4, .int (iZ (x)))])
    (kk : zNx p l e s m args below meth c0 D cJ t o a u v w x cells slots Qw 2172) : W p l e room_1 s m args below meth c0 H locs cells slots Qw (F0 m 1608 ls []) := by
  have hc := G.1.2.2.2
  obtain ⟨q1, e1⟩ : ∃ z, g (x.toNat + 1) = z := ⟨_, rfl⟩
  have r1 : -2147483648 ≤ q1 ∧ q1 ≤ 2147483647 := e1 ▸ Z.2.2.2.2.2.1 _
  by_cases hcel : (0 ≤ q1 ∧ q1 ≤ 5)
  · skip
    refine lv_aload_n C.1 C.2.1 dL_law_1608 rfl (lv_at hl 1 rfl) ?_
    refine lv_aload_n C.1 C.2.1 dL_law_1609 rfl (lv_at hl 0 rfl) ?_
    refine lv_iload C.1 C.2.1 dL_law_1610 (lv_at hl 4 rfl) ?_
    refine z_iconst C dL_law_1612 ?_
    refine z_iadd C dL_law_1613 ?_
    refine zd_ld C Z G q1 (x.toNat + 1) e1 (by omega) (by omega) dL_law_1614 ?_
    refine lv_aload_n C.1 C.2.1 dL_law_1615 rfl (lv_at hl 3 rfl) ?_
    refine zd_WV (as := [.ref o, .int (iZ (q1)), .ref w]) C Z Y G (c_L_text l D cB cJ o a _ _ _ _ (q1) (by first | assumption | omega) w _ _) ml_L_266 ⟨Nat.le_of_ble_eq_true rfl, Nat.le_of_ble_eq_true rfl⟩ ⟨by show cells + 0 + 72 ≤ 665281; omega, by show slots + 0 + 34864 ≤ 7105636; omega⟩ hl (Nat.le_of_ble_eq_true rfl) rfl dL_law_1616 (fun sv H locs G => ?_)
    refine lv_istore (lv' := [(5, .int (iZ (0))), (0, .ref t), (1, .ref o), (2, .ref u), (3, .ref w), (4, .int (iZ (x)))]) C.1 C.2.1 dL_law_1619 hl (by decide) rfl (fun ls hl => ?_)
    refine lv_aload_n C.1 C.2.1 dL_law_1621 rfl (lv_at hl 3 rfl) ?_
    refine lv_aload_n C.1 C.2.1 dL_law_1622 rfl (lv_at hl 1 rfl) ?_
    refine lv_iload C.1 C.2.1 dL_law_1623 (lv_at hl 5 rfl) ?_
    refine z_iconst C dL_law_1625 ?_
    refine z_iadd C dL_law_1626 ?_
    refine zd_ld C Z G q1 (x.toNat + 1) e1 (by omega) (by omega) dL_law_1627 ?_
    refine zd_MV (as := [.int (iZ (q1))]) C Z Y G (c_X5_text l D cB cJ u v _ _ _ _ _ (q1) (by first | assumption | omega)) ml_L_268 rfl ⟨Nat.le_of_ble_eq_true rfl, Nat.le_of_ble_eq_true rfl⟩ ⟨by show cells + 72 + 72 ≤ 665281; omega, by show slots + 34864 + 34864 ≤ 7105636; omega⟩ hl (Nat.le_of_ble_eq_true rfl) rfl dL_law_1628 (fun y9 H locs hy9 G => ?_)
    obtain ⟨q9, rfl⟩ := hy9
    refine lv_astore (lv' := [(6, .ref q9), (5, .int (iZ (0))), (0, .ref t), (1, .ref o), (2, .ref u), (3, .ref w), (4, .int (iZ (x)))]) C.1 C.2.1 dL_law_1631 hl (by decide) rfl (fun ls hl => ?_)
    refine lv_goto (tgt := 2172) C.1 C.2.1 dL_law_1633 (by decide) ?_
    exact kk _ _ _ _ _ _ _ _ _ _ _ _ G (by omega) (by omega) (lv_sub hl [2, 3, 4, 5, 6] rfl)
  · skip
    refine lv_aload_n C.1 C.2.1 dL_law_1608 rfl (lv_at hl 1 rfl) ?_
    refine lv_aload_n C.1 C.2.1 dL_law_1609 rfl (lv_at hl 0 rfl) ?_
    refine lv_iload C.1 C.2.1 dL_law_1610 (lv_at hl 4 rfl) ?_
    refine z_iconst C dL_law_1612 ?_
    refine z_iadd C dL_law_1613 ?_
    refine zd_ld C Z G q1 (x.toNat + 1) e1 (by omega) (by omega) dL_law_1614 ?_
    refine lv_aload_n C.1 C.2.1 dL_law_1615 rfl (lv_at hl 3 rfl) ?_
    refine zd_W (as := [.ref o, .int (iZ (q1)), .ref w]) C Z Y G (c_L_text_badc l hlq D cJ o a _ _ _ _ (q1) (by first | assumption | omega) (by first | assumption | omega) w _ _) ml_L_266 ⟨Nat.le_of_ble_eq_true rfl, Nat.le_of_ble_eq_true rfl⟩ ⟨by show cells + 0 + 1 ≤ 665281; omega, by show slots + 0 + 6 ≤ 7105636; omega⟩ hl (Nat.le_of_ble_eq_true rfl) rfl dL_law_1616 (fun H locs G => ?_)
    refine lv_istore (lv' := [(5, .int (iZ (1))), (0, .ref t), (1, .ref o), (2, .ref u), (3, .ref w), (4, .int (iZ (x)))]) C.1 C.2.1 dL_law_1619 hl (by decide) rfl (fun ls hl => ?_)
    refine lv_aload_n C.1 C.2.1 dL_law_1621 rfl (lv_at hl 3 rfl) ?_
    refine lv_aload_n C.1 C.2.1 dL_law_1622 rfl (lv_at hl 1 rfl) ?_
    refine lv_iload C.1 C.2.1 dL_law_1623 (lv_at hl 5 rfl) ?_
    refine z_iconst C dL_law_1625 ?_
    refine z_iadd C dL_law_1626 ?_
    refine zd_ld C Z G q1 (x.toNat + 1) e1 (by omega) (by omega) dL_law_1627 ?_
    refine zd_MV (as := [.int (iZ (q1))]) C Z Y G (c_X5_text_bad1 l D cB cJ u v _ _ _ _ _ (q1) (by first | assumption | omega) (by first | assumption | omega)) ml_L_268 rfl ⟨Nat.le_of_ble_eq_true rfl, Nat.le_of_ble_eq_true rfl⟩ ⟨by show cells + 1 + 0 ≤ 665281; omega, by show slots + 6 + 0 ≤ 7105636; omega⟩ hl (Nat.le_of_ble_eq_true rfl) rfl dL_law_1628 (fun y9 H locs hy9 G => ?_)
    obtain ⟨q9, rfl⟩ := hy9
    refine lv_astore (lv' := [(6, .ref q9), (5, .int (iZ (1))), (0, .ref t), (1, .ref o), (2, .ref u), (3, .ref w), (4, .int (iZ (x)))]) C.1 C.2.1 dL_law_1631 hl (by decide) rfl (fun ls hl => ?_)
    refine lv_goto (tgt := 2172) C.1 C.2.1 dL_law_1633 (by decide) ?_
    exact kk _ _ _ _ _ _ _ _ _ _ _ _ G (by omega) (by omega) (lv_sub hl [2, 3, 4, 5, 6] rfl)
set_option maxHeartbeats 4000000 in
set_option maxRecDepth 100000 in
theorem lk_30 (hlq : l.stackTraces = false) (C : CallFix p m c0 cL_law 7 s args T0 RL) (Z : zLw D cB t N g s) (Y : zAd o a u v w s) {c : Nat → Nat} {ac re kn : Int32} {th : Int} {n : Int64} {sv : Value} {H : Heap} {locs : List Loc} {ls : Array Slot} {cells slots : Nat} (G : zG D cJ o a u v w c [.int ac, .int re, .int kn] c [.int (iZ th), .int ac, .int re, .int kn] n sv s H locs) (x : Int) (hx : 0 ≤ x ∧ x + 5 ≤ (N : Int)) (hf : cells + 150 ≤ 665281 ∧ slots + 75000 ≤ 7105636) (hl : lv_has ls 7 [(0, .ref t), (1, .ref o), (2, .ref u), (3, .ref w), (4, .int (iZ (x)))])
    (kk : zNx p l e s m args below meth c0 D cJ t o a u v w x cells slots Qw 2172) : W p l e room_1 s m args below meth c0 H locs cells slots Qw (F0 m 1636 ls []) := by
  have hc := G.1.2.2.2
  obtain ⟨q1, e1⟩ : ∃ z, g (x.toNat + 1) = z := ⟨_, rfl⟩
  have r1 : -2147483648 ≤ q1 ∧ q1 ≤ 2147483647 := e1 ▸ Z.2.2.2.2.2.1 _
  obtain ⟨q2, e2⟩ : ∃ z, g (x.toNat + 2) = z := ⟨_, rfl⟩
  have r2 : -2147483648 ≤ q2 ∧ q2 ≤ 2147483647 := e2 ▸ Z.2.2.2.2.2.1 _
  by_cases hcel : (0 ≤ q1 ∧ q1 ≤ 5)
  · skip
    by_cases hrng : (2 ≤ q2 ∧ q2 ≤ 36)
    · skip
      refine lv_aload_n C.1 C.2.1 dL_law_1636 rfl (lv_at hl 1 rfl) ?_
      refine lv_aload_n C.1 C.2.1 dL_law_1637 rfl (lv_at hl 0 rfl) ?_
      refine lv_iload C.1 C.2.1 dL_law_1638 (lv_at hl 4 rfl) ?_
      refine z_iconst C dL_law_1640 ?_
      refine z_iadd C dL_law_1641 ?_
      refine zd_ld C Z G q1 (x.toNat + 1) e1 (by omega) (by omega) dL_law_1642 ?_
      refine lv_aload_n C.1 C.2.1 dL_law_1643 rfl (lv_at hl 0 rfl) ?_
      refine lv_iload C.1 C.2.1 dL_law_1644 (lv_at hl 4 rfl) ?_
      refine z_iconst C dL_law_1646 ?_
      refine z_iadd C dL_law_1647 ?_
      refine zd_ld C Z G q2 (x.toNat + 2) e2 (by omega) (by omega) dL_law_1648 ?_
      refine lv_aload_n C.1 C.2.1 dL_law_1649 rfl (lv_at hl 3 rfl) ?_
      refine zd_WV (as := [.ref o, .int (iZ (q1)), .int (iZ (q2)), .ref w]) C Z Y G (c_L_code l D cB cJ o a _ _ _ _ (q1) (q2) (by first | assumption | omega) (by first | assumption | omega) w _ _) ml_L_269 ⟨Nat.le_of_ble_eq_true rfl, Nat.le_of_ble_eq_true rfl⟩ ⟨by show cells + 0 + 70 ≤ 665281; omega, by show slots + 0 + 33900 ≤ 7105636; omega⟩ hl (Nat.le_of_ble_eq_true rfl) rfl dL_law_1650 (fun sv H locs G => ?_)
      refine lv_istore (lv' := [(5, .int (iZ (0))), (0, .ref t), (1, .ref o), (2, .ref u), (3, .ref w), (4, .int (iZ (x)))]) C.1 C.2.1 dL_law_1653 hl (by decide) rfl (fun ls hl => ?_)
      refine lv_aload_n C.1 C.2.1 dL_law_1655 rfl (lv_at hl 3 rfl) ?_
      refine lv_aload_n C.1 C.2.1 dL_law_1656 rfl (lv_at hl 1 rfl) ?_
      refine lv_iload C.1 C.2.1 dL_law_1657 (lv_at hl 5 rfl) ?_
      refine z_iconst C dL_law_1659 ?_
      refine z_iadd C dL_law_1660 ?_
      refine zd_ld C Z G q1 (x.toNat + 1) e1 (by omega) (by omega) dL_law_1661 ?_
      refine lv_aload_n C.1 C.2.1 dL_law_1662 rfl (lv_at hl 1 rfl) ?_
      refine lv_iload C.1 C.2.1 dL_law_1663 (lv_at hl 5 rfl) ?_
      refine z_iconst C dL_law_1665 ?_
      refine z_iadd C dL_law_1666 ?_
      refine zd_ld C Z G q2 (x.toNat + 2) e2 (by omega) (by omega) dL_law_1667 ?_
      refine zd_MV (as := [.int (iZ (q1)), .int (iZ (q2))]) C Z Y G (c_X5_code l D cB cJ u v _ _ _ _ _ (q1) (q2) (by first | assumption | omega) (by first | assumption | omega)) ml_L_271 rfl ⟨Nat.le_of_ble_eq_true rfl, Nat.le_of_ble_eq_true rfl⟩ ⟨by show cells + 70 + 40 ≤ 665281; omega, by show slots + 33900 + 18500 ≤ 7105636; omega⟩ hl (Nat.le_of_ble_eq_true rfl) rfl dL_law_1668 (fun y9 H locs hy9 G => ?_)
      obtain ⟨q9, rfl⟩ := hy9
      refine lv_astore (lv' := [(6, .ref q9), (5, .int (iZ (0))), (0, .ref t), (1, .ref o), (2, .ref u), (3, .ref w), (4, .int (iZ (x)))]) C.1 C.2.1 dL_law_1671 hl (by decide) rfl (fun ls hl => ?_)
      refine lv_goto (tgt := 2172) C.1 C.2.1 dL_law_1673 (by decide) ?_
      exact kk _ _ _ _ _ _ _ _ _ _ _ _ G (by omega) (by omega) (lv_sub hl [2, 3, 4, 5, 6] rfl)
    · skip
      refine lv_aload_n C.1 C.2.1 dL_law_1636 rfl (lv_at hl 1 rfl) ?_
      refine lv_aload_n C.1 C.2.1 dL_law_1637 rfl (lv_at hl 0 rfl) ?_
      refine lv_iload C.1 C.2.1 dL_law_1638 (lv_at hl 4 rfl) ?_
      refine z_iconst C dL_law_1640 ?_
      refine z_iadd C dL_law_1641 ?_
      refine zd_ld C Z G q1 (x.toNat + 1) e1 (by omega) (by omega) dL_law_1642 ?_
      refine lv_aload_n C.1 C.2.1 dL_law_1643 rfl (lv_at hl 0 rfl) ?_
      refine lv_iload C.1 C.2.1 dL_law_1644 (lv_at hl 4 rfl) ?_
      refine z_iconst C dL_law_1646 ?_
      refine z_iadd C dL_law_1647 ?_
      refine zd_ld C Z G q2 (x.toNat + 2) e2 (by omega) (by omega) dL_law_1648 ?_
      refine lv_aload_n C.1 C.2.1 dL_law_1649 rfl (lv_at hl 3 rfl) ?_
      refine zd_W (as := [.ref o, .int (iZ (q1)), .int (iZ (q2)), .ref w]) C Z Y G (c_L_code_badr l hlq D cJ o a _ _ _ _ (q1) (q2) (by first | assumption | omega) (by first | assumption | omega) (by first | assumption | omega) (by first | assumption | omega) w _ _) ml_L_269 ⟨Nat.le_of_ble_eq_true rfl, Nat.le_of_ble_eq_true rfl⟩ ⟨by show cells + 0 + 1 ≤ 665281; omega, by show slots + 0 + 6 ≤ 7105636; omega⟩ hl (Nat.le_of_ble_eq_true rfl) rfl dL_law_1650 (fun H locs G => ?_)
      refine lv_istore (lv' := [(5, .int (iZ (2))), (0, .ref t), (1, .ref o), (2, .ref u), (3, .ref w), (4, .int (iZ (x)))]) C.1 C.2.1 dL_law_1653 hl (by decide) rfl (fun ls hl => ?_)
      refine lv_aload_n C.1 C.2.1 dL_law_1655 rfl (lv_at hl 3 rfl) ?_
      refine lv_aload_n C.1 C.2.1 dL_law_1656 rfl (lv_at hl 1 rfl) ?_
      refine lv_iload C.1 C.2.1 dL_law_1657 (lv_at hl 5 rfl) ?_
      refine z_iconst C dL_law_1659 ?_
      refine z_iadd C dL_law_1660 ?_
      refine zd_ld C Z G q1 (x.toNat + 1) e1 (by omega) (by omega) dL_law_1661 ?_
      refine lv_aload_n C.1 C.2.1 dL_law_1662 rfl (lv_at hl 1 rfl) ?_
      refine lv_iload C.1 C.2.1 dL_law_1663 (lv_at hl 5 rfl) ?_
      refine z_iconst C dL_law_1665 ?_
      refine z_iadd C dL_law_1666 ?_
      refine zd_ld C Z G q2 (x.toNat + 2) e2 (by omega) (by omega) dL_law_1667 ?_
      refine zd_MV (as := [.int (iZ (q1)), .int (iZ (q2))]) C Z Y G (c_X5_code_bad2 l D cB cJ u v _ _ _ _ _ (q1) (q2) (by first | assumption | omega) (by first | assumption | omega) (by first | assumption | omega) (by first | assumption | omega)) ml_L_271 rfl ⟨Nat.le_of_ble_eq_true rfl, Nat.le_of_ble_eq_true rfl⟩ ⟨by show cells + 1 + 0 ≤ 665281; omega, by show slots + 6 + 0 ≤ 7105636; omega⟩ hl (Nat.le_of_ble_eq_true rfl) rfl dL_law_1668 (fun y9 H locs hy9 G => ?_)
      obtain ⟨q9, rfl⟩ := hy9
      refine lv_astore (lv' := [(6, .ref q9), (5, .int (iZ (2))), (0, .ref t), (1, .ref o), (2, .ref u), (3, .ref w), (4, .int (iZ (x)))]) C.1 C.2.1 dL_law_1671 hl (by decide) rfl (fun ls hl => ?_)
      refine lv_goto (tgt := 2172) C.1 C.2.1 dL_law_1673 (by decide) ?_
      exact kk _ _ _ _ _ _ _ _ _ _ _ _ G (by omega) (by omega) (lv_sub hl [2, 3, 4, 5, 6] rfl)
  · skip
    refine lv_aload_n C.1 C.2.1 dL_law_1636 rfl (lv_at hl 1 rfl) ?_
    refine lv_aload_n C.1 C.2.1 dL_law_1637 rfl (lv_at hl 0 rfl) ?_
    refine lv_iload C.1 C.2.1 dL_law_1638 (lv_at hl 4 rfl) ?_
    refine z_iconst C dL_law_1640 ?_
    refine z_iadd C dL_law_1641 ?_
    refine zd_ld C Z G q1 (x.toNat + 1) e1 (by omega) (by omega) dL_law_1642 ?_
    refine lv_aload_n C.1 C.2.1 dL_law_1643 rfl (lv_at hl 0 rfl) ?_
    refine lv_iload C.1 C.2.1 dL_law_1644 (lv_at hl 4 rfl) ?_
    refine z_iconst C dL_law_1646 ?_
    refine z_iadd C dL_law_1647 ?_
    refine zd_ld C Z G q2 (x.toNat + 2) e2 (by omega) (by omega) dL_law_1648 ?_
    refine lv_aload_n C.1 C.2.1 dL_law_1649 rfl (lv_at hl 3 rfl) ?_
    refine zd_W (as := [.ref o, .int (iZ (q1)), .int (iZ (q2)), .ref w]) C Z Y G (c_L_code_badc l hlq D cJ o a _ _ _ _ (q1) (q2) (by first | assumption | omega) (by first | assumption | omega) (by first | assumption | omega) w _ _) ml_L_269 ⟨Nat.le_of_ble_eq_true rfl, Nat.le_of_ble_eq_true rfl⟩ ⟨by show cells + 0 + 1 ≤ 665281; omega, by show slots + 0 + 6 ≤ 7105636; omega⟩ hl (Nat.le_of_ble_eq_true rfl) rfl dL_law_1650 (fun H locs G => ?_)
    refine lv_istore (lv' := [(5, .int (iZ (1))), (0, .ref t), (1, .ref o), (2, .ref u), (3, .ref w), (4, .int (iZ (x)))]) C.1 C.2.1 dL_law_1653 hl (by decide) rfl (fun ls hl => ?_)
    refine lv_aload_n C.1 C.2.1 dL_law_1655 rfl (lv_at hl 3 rfl) ?_
    refine lv_aload_n C.1 C.2.1 dL_law_1656 rfl (lv_at hl 1 rfl) ?_
    refine lv_iload C.1 C.2.1 dL_law_1657 (lv_at hl 5 rfl) ?_
    refine z_iconst C dL_law_1659 ?_
    refine z_iadd C dL_law_1660 ?_
    refine zd_ld C Z G q1 (x.toNat + 1) e1 (by omega) (by omega) dL_law_1661 ?_
    refine lv_aload_n C.1 C.2.1 dL_law_1662 rfl (lv_at hl 1 rfl) ?_
    refine lv_iload C.1 C.2.1 dL_law_1663 (lv_at hl 5 rfl) ?_
    refine z_iconst C dL_law_1665 ?_
    refine z_iadd C dL_law_1666 ?_
    refine zd_ld C Z G q2 (x.toNat + 2) e2 (by omega) (by omega) dL_law_1667 ?_
    refine zd_MV (as := [.int (iZ (q1)), .int (iZ (q2))]) C Z Y G (c_X5_code_bad1 l D cB cJ u v _ _ _ _ _ (q1) (q2) (by first | assumption | omega) (by first | assumption | omega) (by first | assumption | omega)) ml_L_271 rfl ⟨Nat.le_of_ble_eq_true rfl, Nat.le_of_ble_eq_true rfl⟩ ⟨by show cells + 1 + 0 ≤ 665281; omega, by show slots + 6 + 0 ≤ 7105636; omega⟩ hl (Nat.le_of_ble_eq_true rfl) rfl dL_law_1668 (fun y9 H locs hy9 G => ?_)
    obtain ⟨q9, rfl⟩ := hy9
    refine lv_astore (lv' := [(6, .ref q9), (5, .int (iZ (1))), (0, .ref t), (1, .ref o), (2, .ref u), (3, .ref w), (4, .int (iZ (x)))]) C.1 C.2.1 dL_law_1671 hl (by decide) rfl (fun ls hl => ?_)
    refine lv_goto (tgt := 2172) C.1 C.2.1 dL_law_1673 (by decide) ?_
    exact kk _ _ _ _ _ _ _ _ _ _ _ _ G (by omega) (by omega) (lv_sub hl [2, 3, 4, 5, 6] rfl)
set_option maxHeartbeats 4000000 in
set_option maxRecDepth 100000 in
theorem lk_31 (hlq : l.stackTraces = false) (C : CallFix p m c0 cL_law 7 s args T0 RL) (Z : zLw D cB t N g s) (Y : zAd o a u v w s) {c : Nat → Nat} {ac re kn : Int32} {th : Int} {n : Int64} {sv : Value} {H : Heap} {locs : List Loc} {ls : Array Slot} {cells slots : Nat} (G : zG D cJ o a u v w c [.int ac, .int re, .int kn] c [.int (iZ th), .int ac, .int re, .int kn] n sv s H locs) (x : Int) (hx : 0 ≤ x ∧ x + 5 ≤ (N : Int)) (hf : cells + 150 ≤ 665281 ∧ slots + 75000 ≤ 7105636) (hl : lv_has ls 7 [(0, .ref t), (1, .ref o), (2, .ref u), (3, .ref w), (4, .int (iZ (x)))])
    (kk : zNx p l e s m args below meth c0 D cJ t o a u v w x cells slots Qw 2172) : W p l e room_1 s m args below meth c0 H locs cells slots Qw (F0 m 1676 ls []) := by
  have hc := G.1.2.2.2
  obtain ⟨q1, e1⟩ : ∃ z, g (x.toNat + 1) = z := ⟨_, rfl⟩
  have r1 : -2147483648 ≤ q1 ∧ q1 ≤ 2147483647 := e1 ▸ Z.2.2.2.2.2.1 _
  obtain ⟨q2, e2⟩ : ∃ z, g (x.toNat + 2) = z := ⟨_, rfl⟩
  have r2 : -2147483648 ≤ q2 ∧ q2 ≤ 2147483647 := e2 ▸ Z.2.2.2.2.2.1 _
  by_cases hcel : (0 ≤ q1 ∧ q1 ≤ 5) ∧ (0 ≤ q2 ∧ q2 ≤ 5)
  · skip
    refine lv_aload_n C.1 C.2.1 dL_law_1676 rfl (lv_at hl 1 rfl) ?_
    refine lv_aload_n C.1 C.2.1 dL_law_1677 rfl (lv_at hl 0 rfl) ?_
    refine lv_iload C.1 C.2.1 dL_law_1678 (lv_at hl 4 rfl) ?_
    refine z_iconst C dL_law_1680 ?_
    refine z_iadd C dL_law_1681 ?_
    refine zd_ld C Z G q1 (x.toNat + 1) e1 (by omega) (by omega) dL_law_1682 ?_
    refine lv_aload_n C.1 C.2.1 dL_law_1683 rfl (lv_at hl 0 rfl) ?_
    refine lv_iload C.1 C.2.1 dL_law_1684 (lv_at hl 4 rfl) ?_
    refine z_iconst C dL_law_1686 ?_
    refine z_iadd C dL_law_1687 ?_
    refine zd_ld C Z G q2 (x.toNat + 2) e2 (by omega) (by omega) dL_law_1688 ?_
    refine lv_aload_n C.1 C.2.1 dL_law_1689 rfl (lv_at hl 3 rfl) ?_
    refine zd_W (as := [.ref o, .int (iZ (q1)), .int (iZ (q2)), .ref w]) C Z Y G (c_L_order l D cJ o a _ _ _ _ (q1) (q2) (by first | assumption | omega) (by first | assumption | omega) w _ _) ml_L_272 ⟨Nat.le_of_ble_eq_true rfl, Nat.le_of_ble_eq_true rfl⟩ ⟨by show cells + 0 + 0 ≤ 665281; omega, by show slots + 0 + 0 ≤ 7105636; omega⟩ hl (Nat.le_of_ble_eq_true rfl) rfl dL_law_1690 (fun H locs G => ?_)
    refine lv_istore (lv' := [(5, .int (iZ (0))), (0, .ref t), (1, .ref o), (2, .ref u), (3, .ref w), (4, .int (iZ (x)))]) C.1 C.2.1 dL_law_1693 hl (by decide) rfl (fun ls hl => ?_)
    refine lv_aload_n C.1 C.2.1 dL_law_1695 rfl (lv_at hl 3 rfl) ?_
    refine lv_aload_n C.1 C.2.1 dL_law_1696 rfl (lv_at hl 1 rfl) ?_
    refine lv_iload C.1 C.2.1 dL_law_1697 (lv_at hl 5 rfl) ?_
    refine z_iconst C dL_law_1699 ?_
    refine z_iadd C dL_law_1700 ?_
    refine zd_ld C Z G q1 (x.toNat + 1) e1 (by omega) (by omega) dL_law_1701 ?_
    refine lv_aload_n C.1 C.2.1 dL_law_1702 rfl (lv_at hl 1 rfl) ?_
    refine lv_iload C.1 C.2.1 dL_law_1703 (lv_at hl 5 rfl) ?_
    refine z_iconst C dL_law_1705 ?_
    refine z_iadd C dL_law_1706 ?_
    refine zd_ld C Z G q2 (x.toNat + 2) e2 (by omega) (by omega) dL_law_1707 ?_
    refine zd_M (as := [.int (iZ (q1)), .int (iZ (q2))]) C Y G (c_X5_order l D cJ u v _ _ _ _ _ (q1) (q2) (by first | assumption | omega) (by first | assumption | omega)) ml_L_274 rfl ⟨Nat.le_of_ble_eq_true rfl, Nat.le_of_ble_eq_true rfl⟩ ⟨by show cells + 0 + 0 ≤ 665281; omega, by show slots + 0 + 0 ≤ 7105636; omega⟩ hl (Nat.le_of_ble_eq_true rfl) rfl dL_law_1708 (fun y9 H locs hy9 G => ?_)
    subst hy9
    refine lv_istore (lv' := [(6, _), (5, .int (iZ (0))), (0, .ref t), (1, .ref o), (2, .ref u), (3, .ref w), (4, .int (iZ (x)))]) C.1 C.2.1 dL_law_1711 hl (by decide) rfl (fun ls hl => ?_)
    refine lv_goto (tgt := 2172) C.1 C.2.1 dL_law_1713 (by decide) ?_
    exact kk _ _ _ _ _ _ _ _ _ _ _ _ G (by omega) (by omega) (lv_sub hl [2, 3, 4, 5, 6] rfl)
  · skip
    refine lv_aload_n C.1 C.2.1 dL_law_1676 rfl (lv_at hl 1 rfl) ?_
    refine lv_aload_n C.1 C.2.1 dL_law_1677 rfl (lv_at hl 0 rfl) ?_
    refine lv_iload C.1 C.2.1 dL_law_1678 (lv_at hl 4 rfl) ?_
    refine z_iconst C dL_law_1680 ?_
    refine z_iadd C dL_law_1681 ?_
    refine zd_ld C Z G q1 (x.toNat + 1) e1 (by omega) (by omega) dL_law_1682 ?_
    refine lv_aload_n C.1 C.2.1 dL_law_1683 rfl (lv_at hl 0 rfl) ?_
    refine lv_iload C.1 C.2.1 dL_law_1684 (lv_at hl 4 rfl) ?_
    refine z_iconst C dL_law_1686 ?_
    refine z_iadd C dL_law_1687 ?_
    refine zd_ld C Z G q2 (x.toNat + 2) e2 (by omega) (by omega) dL_law_1688 ?_
    refine lv_aload_n C.1 C.2.1 dL_law_1689 rfl (lv_at hl 3 rfl) ?_
    refine zd_W (as := [.ref o, .int (iZ (q1)), .int (iZ (q2)), .ref w]) C Z Y G (c_L_order_badc l hlq D cJ o a _ _ _ _ (q1) (q2) (by first | assumption | omega) (by first | assumption | omega) (by first | assumption | omega) w _ _) ml_L_272 ⟨Nat.le_of_ble_eq_true rfl, Nat.le_of_ble_eq_true rfl⟩ ⟨by show cells + 0 + 1 ≤ 665281; omega, by show slots + 0 + 6 ≤ 7105636; omega⟩ hl (Nat.le_of_ble_eq_true rfl) rfl dL_law_1690 (fun H locs G => ?_)
    refine lv_istore (lv' := [(5, .int (iZ (1))), (0, .ref t), (1, .ref o), (2, .ref u), (3, .ref w), (4, .int (iZ (x)))]) C.1 C.2.1 dL_law_1693 hl (by decide) rfl (fun ls hl => ?_)
    refine lv_aload_n C.1 C.2.1 dL_law_1695 rfl (lv_at hl 3 rfl) ?_
    refine lv_aload_n C.1 C.2.1 dL_law_1696 rfl (lv_at hl 1 rfl) ?_
    refine lv_iload C.1 C.2.1 dL_law_1697 (lv_at hl 5 rfl) ?_
    refine z_iconst C dL_law_1699 ?_
    refine z_iadd C dL_law_1700 ?_
    refine zd_ld C Z G q1 (x.toNat + 1) e1 (by omega) (by omega) dL_law_1701 ?_
    refine lv_aload_n C.1 C.2.1 dL_law_1702 rfl (lv_at hl 1 rfl) ?_
    refine lv_iload C.1 C.2.1 dL_law_1703 (lv_at hl 5 rfl) ?_
    refine z_iconst C dL_law_1705 ?_
    refine z_iadd C dL_law_1706 ?_
    refine zd_ld C Z G q2 (x.toNat + 2) e2 (by omega) (by omega) dL_law_1707 ?_
    refine zd_M (as := [.int (iZ (q1)), .int (iZ (q2))]) C Y G (c_X5_order_bad1 l D cJ u v _ _ _ _ _ (q1) (q2) (by first | assumption | omega) (by first | assumption | omega) (by first | assumption | omega)) ml_L_274 rfl ⟨Nat.le_of_ble_eq_true rfl, Nat.le_of_ble_eq_true rfl⟩ ⟨by show cells + 1 + 0 ≤ 665281; omega, by show slots + 6 + 0 ≤ 7105636; omega⟩ hl (Nat.le_of_ble_eq_true rfl) rfl dL_law_1708 (fun y9 H locs hy9 G => ?_)
    subst hy9
    refine lv_istore (lv' := [(6, _), (5, .int (iZ (1))), (0, .ref t), (1, .ref o), (2, .ref u), (3, .ref w), (4, .int (iZ (x)))]) C.1 C.2.1 dL_law_1711 hl (by decide) rfl (fun ls hl => ?_)
    refine lv_goto (tgt := 2172) C.1 C.2.1 dL_law_1713 (by decide) ?_
    exact kk _ _ _ _ _ _ _ _ _ _ _ _ G (by omega) (by omega) (lv_sub hl [2, 3, 4, 5, 6] rfl)
set_option maxHeartbeats 4000000 in
set_option maxRecDepth 100000 in
theorem lk_32 (hlq : l.stackTraces = false) (C : CallFix p m c0 cL_law 7 s args T0 RL) (Z : zLw D cB t N g s) (Y : zAd o a u v w s) {c : Nat → Nat} {ac re kn : Int32} {th : Int} {n : Int64} {sv : Value} {H : Heap} {locs : List Loc} {ls : Array Slot} {cells slots : Nat} (G : zG D cJ o a u v w c [.int ac, .int re, .int kn] c [.int (iZ th), .int ac, .int re, .int kn] n sv s H locs) (x : Int) (hx : 0 ≤ x ∧ x + 5 ≤ (N : Int)) (hf : cells + 150 ≤ 665281 ∧ slots + 75000 ≤ 7105636) (hl : lv_has ls 7 [(0, .ref t), (1, .ref o), (2, .ref u), (3, .ref w), (4, .int (iZ (x)))])
    (kk : zNx p l e s m args below meth c0 D cJ t o a u v w x cells slots Qw 2172) : W p l e room_1 s m args below meth c0 H locs cells slots Qw (F0 m 1716 ls []) := by
  have hc := G.1.2.2.2
  obtain ⟨q1, e1⟩ : ∃ z, g (x.toNat + 1) = z := ⟨_, rfl⟩
  have r1 : -2147483648 ≤ q1 ∧ q1 ≤ 2147483647 := e1 ▸ Z.2.2.2.2.2.1 _
  obtain ⟨q2, e2⟩ : ∃ z, g (x.toNat + 2) = z := ⟨_, rfl⟩
  have r2 : -2147483648 ≤ q2 ∧ q2 ≤ 2147483647 := e2 ▸ Z.2.2.2.2.2.1 _
  by_cases hcel : (0 ≤ q1 ∧ q1 ≤ 5) ∧ (0 ≤ q2 ∧ q2 ≤ 5)
  · skip
    refine lv_aload_n C.1 C.2.1 dL_law_1716 rfl (lv_at hl 1 rfl) ?_
    refine lv_aload_n C.1 C.2.1 dL_law_1717 rfl (lv_at hl 0 rfl) ?_
    refine lv_iload C.1 C.2.1 dL_law_1718 (lv_at hl 4 rfl) ?_
    refine z_iconst C dL_law_1720 ?_
    refine z_iadd C dL_law_1721 ?_
    refine zd_ld C Z G q1 (x.toNat + 1) e1 (by omega) (by omega) dL_law_1722 ?_
    refine lv_aload_n C.1 C.2.1 dL_law_1723 rfl (lv_at hl 0 rfl) ?_
    refine lv_iload C.1 C.2.1 dL_law_1724 (lv_at hl 4 rfl) ?_
    refine z_iconst C dL_law_1726 ?_
    refine z_iadd C dL_law_1727 ?_
    refine zd_ld C Z G q2 (x.toNat + 2) e2 (by omega) (by omega) dL_law_1728 ?_
    refine lv_aload_n C.1 C.2.1 dL_law_1729 rfl (lv_at hl 3 rfl) ?_
    refine zd_W (as := [.ref o, .int (iZ (q1)), .int (iZ (q2)), .ref w]) C Z Y G (c_L_isSame l D cJ o a _ _ _ _ (q1) (q2) (by first | assumption | omega) (by first | assumption | omega) w _ _) ml_L_275 ⟨Nat.le_of_ble_eq_true rfl, Nat.le_of_ble_eq_true rfl⟩ ⟨by show cells + 0 + 0 ≤ 665281; omega, by show slots + 0 + 0 ≤ 7105636; omega⟩ hl (Nat.le_of_ble_eq_true rfl) rfl dL_law_1730 (fun H locs G => ?_)
    refine lv_istore (lv' := [(5, .int (iZ (0))), (0, .ref t), (1, .ref o), (2, .ref u), (3, .ref w), (4, .int (iZ (x)))]) C.1 C.2.1 dL_law_1733 hl (by decide) rfl (fun ls hl => ?_)
    refine lv_aload_n C.1 C.2.1 dL_law_1735 rfl (lv_at hl 3 rfl) ?_
    refine lv_aload_n C.1 C.2.1 dL_law_1736 rfl (lv_at hl 1 rfl) ?_
    refine lv_iload C.1 C.2.1 dL_law_1737 (lv_at hl 5 rfl) ?_
    refine z_iconst C dL_law_1739 ?_
    refine z_iadd C dL_law_1740 ?_
    refine zd_ld C Z G q1 (x.toNat + 1) e1 (by omega) (by omega) dL_law_1741 ?_
    refine lv_aload_n C.1 C.2.1 dL_law_1742 rfl (lv_at hl 1 rfl) ?_
    refine lv_iload C.1 C.2.1 dL_law_1743 (lv_at hl 5 rfl) ?_
    refine z_iconst C dL_law_1745 ?_
    refine z_iadd C dL_law_1746 ?_
    refine zd_ld C Z G q2 (x.toNat + 2) e2 (by omega) (by omega) dL_law_1747 ?_
    refine zd_M (as := [.int (iZ (q1)), .int (iZ (q2))]) C Y G (c_X5_isSame l D cJ u v _ _ _ _ _ (q1) (q2) (by first | assumption | omega) (by first | assumption | omega)) ml_L_277 rfl ⟨Nat.le_of_ble_eq_true rfl, Nat.le_of_ble_eq_true rfl⟩ ⟨by show cells + 0 + 0 ≤ 665281; omega, by show slots + 0 + 0 ≤ 7105636; omega⟩ hl (Nat.le_of_ble_eq_true rfl) rfl dL_law_1748 (fun y9 H locs hy9 G => ?_)
    subst hy9
    refine lv_istore (lv' := [(6, _), (5, .int (iZ (0))), (0, .ref t), (1, .ref o), (2, .ref u), (3, .ref w), (4, .int (iZ (x)))]) C.1 C.2.1 dL_law_1751 hl (by decide) rfl (fun ls hl => ?_)
    refine lv_goto (tgt := 2172) C.1 C.2.1 dL_law_1753 (by decide) ?_
    exact kk _ _ _ _ _ _ _ _ _ _ _ _ G (by omega) (by omega) (lv_sub hl [2, 3, 4, 5, 6] rfl)
  · skip
    refine lv_aload_n C.1 C.2.1 dL_law_1716 rfl (lv_at hl 1 rfl) ?_
    refine lv_aload_n C.1 C.2.1 dL_law_1717 rfl (lv_at hl 0 rfl) ?_
    refine lv_iload C.1 C.2.1 dL_law_1718 (lv_at hl 4 rfl) ?_
    refine z_iconst C dL_law_1720 ?_
    refine z_iadd C dL_law_1721 ?_
    refine zd_ld C Z G q1 (x.toNat + 1) e1 (by omega) (by omega) dL_law_1722 ?_
    refine lv_aload_n C.1 C.2.1 dL_law_1723 rfl (lv_at hl 0 rfl) ?_
    refine lv_iload C.1 C.2.1 dL_law_1724 (lv_at hl 4 rfl) ?_
    refine z_iconst C dL_law_1726 ?_
    refine z_iadd C dL_law_1727 ?_
    refine zd_ld C Z G q2 (x.toNat + 2) e2 (by omega) (by omega) dL_law_1728 ?_
    refine lv_aload_n C.1 C.2.1 dL_law_1729 rfl (lv_at hl 3 rfl) ?_
    refine zd_W (as := [.ref o, .int (iZ (q1)), .int (iZ (q2)), .ref w]) C Z Y G (c_L_isSame_badc l hlq D cJ o a _ _ _ _ (q1) (q2) (by first | assumption | omega) (by first | assumption | omega) (by first | assumption | omega) w _ _) ml_L_275 ⟨Nat.le_of_ble_eq_true rfl, Nat.le_of_ble_eq_true rfl⟩ ⟨by show cells + 0 + 1 ≤ 665281; omega, by show slots + 0 + 6 ≤ 7105636; omega⟩ hl (Nat.le_of_ble_eq_true rfl) rfl dL_law_1730 (fun H locs G => ?_)
    refine lv_istore (lv' := [(5, .int (iZ (1))), (0, .ref t), (1, .ref o), (2, .ref u), (3, .ref w), (4, .int (iZ (x)))]) C.1 C.2.1 dL_law_1733 hl (by decide) rfl (fun ls hl => ?_)
    refine lv_aload_n C.1 C.2.1 dL_law_1735 rfl (lv_at hl 3 rfl) ?_
    refine lv_aload_n C.1 C.2.1 dL_law_1736 rfl (lv_at hl 1 rfl) ?_
    refine lv_iload C.1 C.2.1 dL_law_1737 (lv_at hl 5 rfl) ?_
    refine z_iconst C dL_law_1739 ?_
    refine z_iadd C dL_law_1740 ?_
    refine zd_ld C Z G q1 (x.toNat + 1) e1 (by omega) (by omega) dL_law_1741 ?_
    refine lv_aload_n C.1 C.2.1 dL_law_1742 rfl (lv_at hl 1 rfl) ?_
    refine lv_iload C.1 C.2.1 dL_law_1743 (lv_at hl 5 rfl) ?_
    refine z_iconst C dL_law_1745 ?_
    refine z_iadd C dL_law_1746 ?_
    refine zd_ld C Z G q2 (x.toNat + 2) e2 (by omega) (by omega) dL_law_1747 ?_
    refine zd_M (as := [.int (iZ (q1)), .int (iZ (q2))]) C Y G (c_X5_isSame_bad1 l D cJ u v _ _ _ _ _ (q1) (q2) (by first | assumption | omega) (by first | assumption | omega) (by first | assumption | omega)) ml_L_277 rfl ⟨Nat.le_of_ble_eq_true rfl, Nat.le_of_ble_eq_true rfl⟩ ⟨by show cells + 1 + 0 ≤ 665281; omega, by show slots + 6 + 0 ≤ 7105636; omega⟩ hl (Nat.le_of_ble_eq_true rfl) rfl dL_law_1748 (fun y9 H locs hy9 G => ?_)
    subst hy9
    refine lv_istore (lv' := [(6, _), (5, .int (iZ (1))), (0, .ref t), (1, .ref o), (2, .ref u), (3, .ref w), (4, .int (iZ (x)))]) C.1 C.2.1 dL_law_1751 hl (by decide) rfl (fun ls hl => ?_)
    refine lv_goto (tgt := 2172) C.1 C.2.1 dL_law_1753 (by decide) ?_
    exact kk _ _ _ _ _ _ _ _ _ _ _ _ G (by omega) (by omega) (lv_sub hl [2, 3, 4, 5, 6] rfl)
set_option maxHeartbeats 4000000 in
set_option maxRecDepth 100000 in
theorem lk_33 (hlq : l.stackTraces = false) (C : CallFix p m c0 cL_law 7 s args T0 RL) (Z : zLw D cB t N g s) (Y : zAd o a u v w s) {c : Nat → Nat} {ac re kn : Int32} {th : Int} {n : Int64} {sv : Value} {H : Heap} {locs : List Loc} {ls : Array Slot} {cells slots : Nat} (G : zG D cJ o a u v w c [.int ac, .int re, .int kn] c [.int (iZ th), .int ac, .int re, .int kn] n sv s H locs) (x : Int) (hx : 0 ≤ x ∧ x + 5 ≤ (N : Int)) (hf : cells + 150 ≤ 665281 ∧ slots + 75000 ≤ 7105636) (hl : lv_has ls 7 [(0, .ref t), (1, .ref o), (2, .ref u), (3, .ref w), (4, .int (iZ (x)))])
    (kk : zNx p l e s m args below meth c0 D cJ t o a u v w x cells slots Qw 2172) : W p l e room_1 s m args below meth c0 H locs cells slots Qw (F0 m 1756 ls []) := by
  have hc := G.1.2.2.2
  obtain ⟨q1, e1⟩ : ∃ z, g (x.toNat + 1) = z := ⟨_, rfl⟩
  have r1 : -2147483648 ≤ q1 ∧ q1 ≤ 2147483647 := e1 ▸ Z.2.2.2.2.2.1 _
  obtain ⟨q2, e2⟩ : ∃ z, g (x.toNat + 2) = z := ⟨_, rfl⟩
  have r2 : -2147483648 ≤ q2 ∧ q2 ≤ 2147483647 := e2 ▸ Z.2.2.2.2.2.1 _
  by_cases hcel : (0 ≤ q1 ∧ q1 ≤ 5)
  · skip
    refine lv_aload_n C.1 C.2.1 dL_law_1756 rfl (lv_at hl 1 rfl) ?_
    refine lv_aload_n C.1 C.2.1 dL_law_1757 rfl (lv_at hl 0 rfl) ?_
    refine lv_iload C.1 C.2.1 dL_law_1758 (lv_at hl 4 rfl) ?_
    refine z_iconst C dL_law_1760 ?_
    refine z_iadd C dL_law_1761 ?_
    refine zd_ld C Z G q1 (x.toNat + 1) e1 (by omega) (by omega) dL_law_1762 ?_
    refine lv_aload_n C.1 C.2.1 dL_law_1763 rfl (lv_at hl 0 rfl) ?_
    refine lv_iload C.1 C.2.1 dL_law_1764 (lv_at hl 4 rfl) ?_
    refine z_iconst C dL_law_1766 ?_
    refine z_iadd C dL_law_1767 ?_
    refine zd_ld C Z G q2 (x.toNat + 2) e2 (by omega) (by omega) dL_law_1768 ?_
    refine zd_nz C (by omega) dL_law_1769 dL_law_1772 dL_law_1773 dL_law_1776 ?_
    refine lv_aload_n C.1 C.2.1 dL_law_1777 rfl (lv_at hl 3 rfl) ?_
    refine zd_W (as := [.ref o, .int (iZ (q1)), .int (iZ (zB (decide (q2 ≠ 0)))), .ref w]) C Z Y G (c_L_value l D cJ o a _ _ _ _ (q1) (decide (q2 ≠ 0)) (by first | assumption | omega) w _ _) ml_L_278 ⟨Nat.le_of_ble_eq_true rfl, Nat.le_of_ble_eq_true rfl⟩ ⟨by show cells + 0 + 0 ≤ 665281; omega, by show slots + 0 + 0 ≤ 7105636; omega⟩ hl (Nat.le_of_ble_eq_true rfl) rfl dL_law_1778 (fun H locs G => ?_)
    refine lv_istore (lv' := [(5, .int (iZ (0))), (0, .ref t), (1, .ref o), (2, .ref u), (3, .ref w), (4, .int (iZ (x)))]) C.1 C.2.1 dL_law_1781 hl (by decide) rfl (fun ls hl => ?_)
    refine lv_aload_n C.1 C.2.1 dL_law_1783 rfl (lv_at hl 3 rfl) ?_
    refine lv_aload_n C.1 C.2.1 dL_law_1784 rfl (lv_at hl 1 rfl) ?_
    refine lv_iload C.1 C.2.1 dL_law_1785 (lv_at hl 5 rfl) ?_
    refine z_iconst C dL_law_1787 ?_
    refine z_iadd C dL_law_1788 ?_
    refine zd_ld C Z G q1 (x.toNat + 1) e1 (by omega) (by omega) dL_law_1789 ?_
    refine lv_aload_n C.1 C.2.1 dL_law_1790 rfl (lv_at hl 1 rfl) ?_
    refine lv_iload C.1 C.2.1 dL_law_1791 (lv_at hl 5 rfl) ?_
    refine z_iconst C dL_law_1793 ?_
    refine z_iadd C dL_law_1794 ?_
    refine zd_ld C Z G q2 (x.toNat + 2) e2 (by omega) (by omega) dL_law_1795 ?_
    refine zd_nz C (by omega) dL_law_1796 dL_law_1799 dL_law_1800 dL_law_1803 ?_
    refine zd_M (as := [.int (iZ (q1)), .int (iZ (zB (decide (q2 ≠ 0))))]) C Y G (c_X5_value l D cJ u v _ _ _ _ _ (q1) (decide (q2 ≠ 0)) (by first | assumption | omega)) ml_L_281 rfl ⟨Nat.le_of_ble_eq_true rfl, Nat.le_of_ble_eq_true rfl⟩ ⟨by show cells + 0 + 0 ≤ 665281; omega, by show slots + 0 + 0 ≤ 7105636; omega⟩ hl (Nat.le_of_ble_eq_true rfl) rfl dL_law_1804 (fun y9 H locs hy9 G => ?_)
    subst hy9
    refine lv_istore (lv' := [(6, _), (5, .int (iZ (0))), (0, .ref t), (1, .ref o), (2, .ref u), (3, .ref w), (4, .int (iZ (x)))]) C.1 C.2.1 dL_law_1807 hl (by decide) rfl (fun ls hl => ?_)
    refine lv_goto (tgt := 2172) C.1 C.2.1 dL_law_1809 (by decide) ?_
    exact kk _ _ _ _ _ _ _ _ _ _ _ _ G (by omega) (by omega) (lv_sub hl [2, 3, 4, 5, 6] rfl)
  · skip
    refine lv_aload_n C.1 C.2.1 dL_law_1756 rfl (lv_at hl 1 rfl) ?_
    refine lv_aload_n C.1 C.2.1 dL_law_1757 rfl (lv_at hl 0 rfl) ?_
    refine lv_iload C.1 C.2.1 dL_law_1758 (lv_at hl 4 rfl) ?_
    refine z_iconst C dL_law_1760 ?_
    refine z_iadd C dL_law_1761 ?_
    refine zd_ld C Z G q1 (x.toNat + 1) e1 (by omega) (by omega) dL_law_1762 ?_
    refine lv_aload_n C.1 C.2.1 dL_law_1763 rfl (lv_at hl 0 rfl) ?_
    refine lv_iload C.1 C.2.1 dL_law_1764 (lv_at hl 4 rfl) ?_
    refine z_iconst C dL_law_1766 ?_
    refine z_iadd C dL_law_1767 ?_
    refine zd_ld C Z G q2 (x.toNat + 2) e2 (by omega) (by omega) dL_law_1768 ?_
    refine zd_nz C (by omega) dL_law_1769 dL_law_1772 dL_law_1773 dL_law_1776 ?_
    refine lv_aload_n C.1 C.2.1 dL_law_1777 rfl (lv_at hl 3 rfl) ?_
    refine zd_W (as := [.ref o, .int (iZ (q1)), .int (iZ (zB (decide (q2 ≠ 0)))), .ref w]) C Z Y G (c_L_value_badc l hlq D cJ o a _ _ _ _ (q1) (decide (q2 ≠ 0)) (by first | assumption | omega) (by first | assumption | omega) w _ _) ml_L_278 ⟨Nat.le_of_ble_eq_true rfl, Nat.le_of_ble_eq_true rfl⟩ ⟨by show cells + 0 + 1 ≤ 665281; omega, by show slots + 0 + 6 ≤ 7105636; omega⟩ hl (Nat.le_of_ble_eq_true rfl) rfl dL_law_1778 (fun H locs G => ?_)
    refine lv_istore (lv' := [(5, .int (iZ (1))), (0, .ref t), (1, .ref o), (2, .ref u), (3, .ref w), (4, .int (iZ (x)))]) C.1 C.2.1 dL_law_1781 hl (by decide) rfl (fun ls hl => ?_)
    refine lv_aload_n C.1 C.2.1 dL_law_1783 rfl (lv_at hl 3 rfl) ?_
    refine lv_aload_n C.1 C.2.1 dL_law_1784 rfl (lv_at hl 1 rfl) ?_
    refine lv_iload C.1 C.2.1 dL_law_1785 (lv_at hl 5 rfl) ?_
    refine z_iconst C dL_law_1787 ?_
    refine z_iadd C dL_law_1788 ?_
    refine zd_ld C Z G q1 (x.toNat + 1) e1 (by omega) (by omega) dL_law_1789 ?_
    refine lv_aload_n C.1 C.2.1 dL_law_1790 rfl (lv_at hl 1 rfl) ?_
    refine lv_iload C.1 C.2.1 dL_law_1791 (lv_at hl 5 rfl) ?_
    refine z_iconst C dL_law_1793 ?_
    refine z_iadd C dL_law_1794 ?_
    refine zd_ld C Z G q2 (x.toNat + 2) e2 (by omega) (by omega) dL_law_1795 ?_
    refine zd_nz C (by omega) dL_law_1796 dL_law_1799 dL_law_1800 dL_law_1803 ?_
    refine zd_M (as := [.int (iZ (q1)), .int (iZ (zB (decide (q2 ≠ 0))))]) C Y G (c_X5_value_bad1 l D cJ u v _ _ _ _ _ (q1) (decide (q2 ≠ 0)) (by first | assumption | omega) (by first | assumption | omega)) ml_L_281 rfl ⟨Nat.le_of_ble_eq_true rfl, Nat.le_of_ble_eq_true rfl⟩ ⟨by show cells + 1 + 0 ≤ 665281; omega, by show slots + 6 + 0 ≤ 7105636; omega⟩ hl (Nat.le_of_ble_eq_true rfl) rfl dL_law_1804 (fun y9 H locs hy9 G => ?_)
    subst hy9
    refine lv_istore (lv' := [(6, _), (5, .int (iZ (1))), (0, .ref t), (1, .ref o), (2, .ref u), (3, .ref w), (4, .int (iZ (x)))]) C.1 C.2.1 dL_law_1807 hl (by decide) rfl (fun ls hl => ?_)
    refine lv_goto (tgt := 2172) C.1 C.2.1 dL_law_1809 (by decide) ?_
    exact kk _ _ _ _ _ _ _ _ _ _ _ _ G (by omega) (by omega) (lv_sub hl [2, 3, 4, 5, 6] rfl)
set_option maxHeartbeats 4000000 in
set_option maxRecDepth 100000 in
theorem lk_34 (hlq : l.stackTraces = false) (C : CallFix p m c0 cL_law 7 s args T0 RL) (Z : zLw D cB t N g s) (Y : zAd o a u v w s) {c : Nat → Nat} {ac re kn : Int32} {th : Int} {n : Int64} {sv : Value} {H : Heap} {locs : List Loc} {ls : Array Slot} {cells slots : Nat} (G : zG D cJ o a u v w c [.int ac, .int re, .int kn] c [.int (iZ th), .int ac, .int re, .int kn] n sv s H locs) (x : Int) (hx : 0 ≤ x ∧ x + 5 ≤ (N : Int)) (hf : cells + 150 ≤ 665281 ∧ slots + 75000 ≤ 7105636) (hl : lv_has ls 7 [(0, .ref t), (1, .ref o), (2, .ref u), (3, .ref w), (4, .int (iZ (x)))])
    (kk : zNx p l e s m args below meth c0 D cJ t o a u v w x cells slots Qw 2172) : W p l e room_1 s m args below meth c0 H locs cells slots Qw (F0 m 1812 ls []) := by
  have hc := G.1.2.2.2
  obtain ⟨q1, e1⟩ : ∃ z, g (x.toNat + 1) = z := ⟨_, rfl⟩
  have r1 : -2147483648 ≤ q1 ∧ q1 ≤ 2147483647 := e1 ▸ Z.2.2.2.2.2.1 _
  obtain ⟨q2, e2⟩ : ∃ z, g (x.toNat + 2) = z := ⟨_, rfl⟩
  have r2 : -2147483648 ≤ q2 ∧ q2 ≤ 2147483647 := e2 ▸ Z.2.2.2.2.2.1 _
  by_cases hcel : (0 ≤ q1 ∧ q1 ≤ 5) ∧ (0 ≤ q2 ∧ q2 ≤ 5)
  · skip
    refine lv_aload_n C.1 C.2.1 dL_law_1812 rfl (lv_at hl 1 rfl) ?_
    refine lv_aload_n C.1 C.2.1 dL_law_1813 rfl (lv_at hl 0 rfl) ?_
    refine lv_iload C.1 C.2.1 dL_law_1814 (lv_at hl 4 rfl) ?_
    refine z_iconst C dL_law_1816 ?_
    refine z_iadd C dL_law_1817 ?_
    refine zd_ld C Z G q1 (x.toNat + 1) e1 (by omega) (by omega) dL_law_1818 ?_
    refine lv_aload_n C.1 C.2.1 dL_law_1819 rfl (lv_at hl 0 rfl) ?_
    refine lv_iload C.1 C.2.1 dL_law_1820 (lv_at hl 4 rfl) ?_
    refine z_iconst C dL_law_1822 ?_
    refine z_iadd C dL_law_1823 ?_
    refine zd_ld C Z G q2 (x.toNat + 2) e2 (by omega) (by omega) dL_law_1824 ?_
    refine lv_aload_n C.1 C.2.1 dL_law_1825 rfl (lv_at hl 3 rfl) ?_
    refine zd_W (as := [.ref o, .int (iZ (q1)), .int (iZ (q2)), .ref w]) C Z Y G (c_L_divides l D cJ o a _ _ _ _ (q1) (q2) (by first | assumption | omega) (by first | assumption | omega) w _ _) ml_L_282 ⟨Nat.le_of_ble_eq_true rfl, Nat.le_of_ble_eq_true rfl⟩ ⟨by show cells + 0 + 0 ≤ 665281; omega, by show slots + 0 + 0 ≤ 7105636; omega⟩ hl (Nat.le_of_ble_eq_true rfl) rfl dL_law_1826 (fun H locs G => ?_)
    refine lv_istore (lv' := [(5, .int (iZ (0))), (0, .ref t), (1, .ref o), (2, .ref u), (3, .ref w), (4, .int (iZ (x)))]) C.1 C.2.1 dL_law_1829 hl (by decide) rfl (fun ls hl => ?_)
    refine lv_aload_n C.1 C.2.1 dL_law_1831 rfl (lv_at hl 3 rfl) ?_
    refine lv_aload_n C.1 C.2.1 dL_law_1832 rfl (lv_at hl 1 rfl) ?_
    refine lv_iload C.1 C.2.1 dL_law_1833 (lv_at hl 5 rfl) ?_
    refine z_iconst C dL_law_1835 ?_
    refine z_iadd C dL_law_1836 ?_
    refine zd_ld C Z G q1 (x.toNat + 1) e1 (by omega) (by omega) dL_law_1837 ?_
    refine lv_aload_n C.1 C.2.1 dL_law_1838 rfl (lv_at hl 1 rfl) ?_
    refine lv_iload C.1 C.2.1 dL_law_1839 (lv_at hl 5 rfl) ?_
    refine z_iconst C dL_law_1841 ?_
    refine z_iadd C dL_law_1842 ?_
    refine zd_ld C Z G q2 (x.toNat + 2) e2 (by omega) (by omega) dL_law_1843 ?_
    refine zd_M (as := [.int (iZ (q1)), .int (iZ (q2))]) C Y G (c_X5_divides l D cJ u v _ _ _ _ _ (q1) (q2) (by first | assumption | omega) (by first | assumption | omega)) ml_L_284 rfl ⟨Nat.le_of_ble_eq_true rfl, Nat.le_of_ble_eq_true rfl⟩ ⟨by show cells + 0 + 0 ≤ 665281; omega, by show slots + 0 + 0 ≤ 7105636; omega⟩ hl (Nat.le_of_ble_eq_true rfl) rfl dL_law_1844 (fun y9 H locs hy9 G => ?_)
    subst hy9
    refine lv_istore (lv' := [(6, _), (5, .int (iZ (0))), (0, .ref t), (1, .ref o), (2, .ref u), (3, .ref w), (4, .int (iZ (x)))]) C.1 C.2.1 dL_law_1847 hl (by decide) rfl (fun ls hl => ?_)
    refine lv_goto (tgt := 2172) C.1 C.2.1 dL_law_1849 (by decide) ?_
    exact kk _ _ _ _ _ _ _ _ _ _ _ _ G (by omega) (by omega) (lv_sub hl [2, 3, 4, 5, 6] rfl)
  · skip
    refine lv_aload_n C.1 C.2.1 dL_law_1812 rfl (lv_at hl 1 rfl) ?_
    refine lv_aload_n C.1 C.2.1 dL_law_1813 rfl (lv_at hl 0 rfl) ?_
    refine lv_iload C.1 C.2.1 dL_law_1814 (lv_at hl 4 rfl) ?_
    refine z_iconst C dL_law_1816 ?_
    refine z_iadd C dL_law_1817 ?_
    refine zd_ld C Z G q1 (x.toNat + 1) e1 (by omega) (by omega) dL_law_1818 ?_
    refine lv_aload_n C.1 C.2.1 dL_law_1819 rfl (lv_at hl 0 rfl) ?_
    refine lv_iload C.1 C.2.1 dL_law_1820 (lv_at hl 4 rfl) ?_
    refine z_iconst C dL_law_1822 ?_
    refine z_iadd C dL_law_1823 ?_
    refine zd_ld C Z G q2 (x.toNat + 2) e2 (by omega) (by omega) dL_law_1824 ?_
    refine lv_aload_n C.1 C.2.1 dL_law_1825 rfl (lv_at hl 3 rfl) ?_
    refine zd_W (as := [.ref o, .int (iZ (q1)), .int (iZ (q2)), .ref w]) C Z Y G (c_L_divides_badc l hlq D cJ o a _ _ _ _ (q1) (q2) (by first | assumption | omega) (by first | assumption | omega) (by first | assumption | omega) w _ _) ml_L_282 ⟨Nat.le_of_ble_eq_true rfl, Nat.le_of_ble_eq_true rfl⟩ ⟨by show cells + 0 + 1 ≤ 665281; omega, by show slots + 0 + 6 ≤ 7105636; omega⟩ hl (Nat.le_of_ble_eq_true rfl) rfl dL_law_1826 (fun H locs G => ?_)
    refine lv_istore (lv' := [(5, .int (iZ (1))), (0, .ref t), (1, .ref o), (2, .ref u), (3, .ref w), (4, .int (iZ (x)))]) C.1 C.2.1 dL_law_1829 hl (by decide) rfl (fun ls hl => ?_)
    refine lv_aload_n C.1 C.2.1 dL_law_1831 rfl (lv_at hl 3 rfl) ?_
    refine lv_aload_n C.1 C.2.1 dL_law_1832 rfl (lv_at hl 1 rfl) ?_
    refine lv_iload C.1 C.2.1 dL_law_1833 (lv_at hl 5 rfl) ?_
    refine z_iconst C dL_law_1835 ?_
    refine z_iadd C dL_law_1836 ?_
    refine zd_ld C Z G q1 (x.toNat + 1) e1 (by omega) (by omega) dL_law_1837 ?_
    refine lv_aload_n C.1 C.2.1 dL_law_1838 rfl (lv_at hl 1 rfl) ?_
    refine lv_iload C.1 C.2.1 dL_law_1839 (lv_at hl 5 rfl) ?_
    refine z_iconst C dL_law_1841 ?_
    refine z_iadd C dL_law_1842 ?_
    refine zd_ld C Z G q2 (x.toNat + 2) e2 (by omega) (by omega) dL_law_1843 ?_
    refine zd_M (as := [.int (iZ (q1)), .int (iZ (q2))]) C Y G (c_X5_divides_bad1 l D cJ u v _ _ _ _ _ (q1) (q2) (by first | assumption | omega) (by first | assumption | omega) (by first | assumption | omega)) ml_L_284 rfl ⟨Nat.le_of_ble_eq_true rfl, Nat.le_of_ble_eq_true rfl⟩ ⟨by show cells + 1 + 0 ≤ 665281; omega, by show slots + 6 + 0 ≤ 7105636; omega⟩ hl (Nat.le_of_ble_eq_true rfl) rfl dL_law_1844 (fun y9 H locs hy9 G => ?_)
    subst hy9
    refine lv_istore (lv' := [(6, _), (5, .int (iZ (1))), (0, .ref t), (1, .ref o), (2, .ref u), (3, .ref w), (4, .int (iZ (x)))]) C.1 C.2.1 dL_law_1847 hl (by decide) rfl (fun ls hl => ?_)
    refine lv_goto (tgt := 2172) C.1 C.2.1 dL_law_1849 (by decide) ?_
    exact kk _ _ _ _ _ _ _ _ _ _ _ _ G (by omega) (by omega) (lv_sub hl [2, 3, 4, 5, 6] rfl)
set_option maxHeartbeats 4000000 in
set_option maxRecDepth 100000 in
theorem lk_35 (hlq : l.stackTraces = false) (C : CallFix p m c0 cL_law 7 s args T0 RL) (Z : zLw D cB t N g s) (Y : zAd o a u v w s) {c : Nat → Nat} {ac re kn : Int32} {th : Int} {n : Int64} {sv : Value} {H : Heap} {locs : List Loc} {ls : Array Slot} {cells slots : Nat} (G : zG D cJ o a u v w c [.int ac, .int re, .int kn] c [.int (iZ th), .int ac, .int re, .int kn] n sv s H locs) (x : Int) (hx : 0 ≤ x ∧ x + 5 ≤ (N : Int)) (hf : cells + 150 ≤ 665281 ∧ slots + 75000 ≤ 7105636) (hl : lv_has ls 7 [(0, .ref t), (1, .ref o), (2, .ref u), (3, .ref w), (4, .int (iZ (x)))])
    (kk : zNx p l e s m args below meth c0 D cJ t o a u v w x cells slots Qw 2172) : W p l e room_1 s m args below meth c0 H locs cells slots Qw (F0 m 1852 ls []) := by
  have hc := G.1.2.2.2
  obtain ⟨q1, e1⟩ : ∃ z, g (x.toNat + 1) = z := ⟨_, rfl⟩
  have r1 : -2147483648 ≤ q1 ∧ q1 ≤ 2147483647 := e1 ▸ Z.2.2.2.2.2.1 _
  by_cases hcel : (0 ≤ q1 ∧ q1 ≤ 5)
  · skip
    refine lv_aload_n C.1 C.2.1 dL_law_1852 rfl (lv_at hl 1 rfl) ?_
    refine lv_aload_n C.1 C.2.1 dL_law_1853 rfl (lv_at hl 0 rfl) ?_
    refine lv_iload C.1 C.2.1 dL_law_1854 (lv_at hl 4 rfl) ?_
    refine z_iconst C dL_law_1856 ?_
    refine z_iadd C dL_law_1857 ?_
    refine zd_ld C Z G q1 (x.toNat + 1) e1 (by omega) (by omega) dL_law_1858 ?_
    refine lv_aload_n C.1 C.2.1 dL_law_1859 rfl (lv_at hl 3 rfl) ?_
    refine zd_W (as := [.ref o, .int (iZ (q1)), .ref w]) C Z Y G (c_L_isFree l D cJ o a _ _ _ _ (q1) (by first | assumption | omega) w _ _) ml_L_285 ⟨Nat.le_of_ble_eq_true rfl, Nat.le_of_ble_eq_true rfl⟩ ⟨by show cells + 0 + 0 ≤ 665281; omega, by show slots + 0 + 0 ≤ 7105636; omega⟩ hl (Nat.le_of_ble_eq_true rfl) rfl dL_law_1860 (fun H locs G => ?_)
    refine lv_istore (lv' := [(5, .int (iZ (0))), (0, .ref t), (1, .ref o), (2, .ref u), (3, .ref w), (4, .int (iZ (x)))]) C.1 C.2.1 dL_law_1863 hl (by decide) rfl (fun ls hl => ?_)
    refine lv_aload_n C.1 C.2.1 dL_law_1865 rfl (lv_at hl 3 rfl) ?_
    refine lv_aload_n C.1 C.2.1 dL_law_1866 rfl (lv_at hl 1 rfl) ?_
    refine lv_iload C.1 C.2.1 dL_law_1867 (lv_at hl 5 rfl) ?_
    refine z_iconst C dL_law_1869 ?_
    refine z_iadd C dL_law_1870 ?_
    refine zd_ld C Z G q1 (x.toNat + 1) e1 (by omega) (by omega) dL_law_1871 ?_
    refine zd_M (as := [.int (iZ (q1))]) C Y G (c_X5_isFree l D cJ u v _ _ _ _ _ (q1) (by first | assumption | omega)) ml_L_287 rfl ⟨Nat.le_of_ble_eq_true rfl, Nat.le_of_ble_eq_true rfl⟩ ⟨by show cells + 0 + 0 ≤ 665281; omega, by show slots + 0 + 0 ≤ 7105636; omega⟩ hl (Nat.le_of_ble_eq_true rfl) rfl dL_law_1872 (fun y9 H locs hy9 G => ?_)
    subst hy9
    refine lv_istore (lv' := [(6, _), (5, .int (iZ (0))), (0, .ref t), (1, .ref o), (2, .ref u), (3, .ref w), (4, .int (iZ (x)))]) C.1 C.2.1 dL_law_1875 hl (by decide) rfl (fun ls hl => ?_)
    refine lv_goto (tgt := 2172) C.1 C.2.1 dL_law_1877 (by decide) ?_
    exact kk _ _ _ _ _ _ _ _ _ _ _ _ G (by omega) (by omega) (lv_sub hl [2, 3, 4, 5, 6] rfl)
  · skip
    refine lv_aload_n C.1 C.2.1 dL_law_1852 rfl (lv_at hl 1 rfl) ?_
    refine lv_aload_n C.1 C.2.1 dL_law_1853 rfl (lv_at hl 0 rfl) ?_
    refine lv_iload C.1 C.2.1 dL_law_1854 (lv_at hl 4 rfl) ?_
    refine z_iconst C dL_law_1856 ?_
    refine z_iadd C dL_law_1857 ?_
    refine zd_ld C Z G q1 (x.toNat + 1) e1 (by omega) (by omega) dL_law_1858 ?_
    refine lv_aload_n C.1 C.2.1 dL_law_1859 rfl (lv_at hl 3 rfl) ?_
    refine zd_W (as := [.ref o, .int (iZ (q1)), .ref w]) C Z Y G (c_L_isFree_badc l hlq D cJ o a _ _ _ _ (q1) (by first | assumption | omega) (by first | assumption | omega) w _ _) ml_L_285 ⟨Nat.le_of_ble_eq_true rfl, Nat.le_of_ble_eq_true rfl⟩ ⟨by show cells + 0 + 1 ≤ 665281; omega, by show slots + 0 + 6 ≤ 7105636; omega⟩ hl (Nat.le_of_ble_eq_true rfl) rfl dL_law_1860 (fun H locs G => ?_)
    refine lv_istore (lv' := [(5, .int (iZ (1))), (0, .ref t), (1, .ref o), (2, .ref u), (3, .ref w), (4, .int (iZ (x)))]) C.1 C.2.1 dL_law_1863 hl (by decide) rfl (fun ls hl => ?_)
    refine lv_aload_n C.1 C.2.1 dL_law_1865 rfl (lv_at hl 3 rfl) ?_
    refine lv_aload_n C.1 C.2.1 dL_law_1866 rfl (lv_at hl 1 rfl) ?_
    refine lv_iload C.1 C.2.1 dL_law_1867 (lv_at hl 5 rfl) ?_
    refine z_iconst C dL_law_1869 ?_
    refine z_iadd C dL_law_1870 ?_
    refine zd_ld C Z G q1 (x.toNat + 1) e1 (by omega) (by omega) dL_law_1871 ?_
    refine zd_M (as := [.int (iZ (q1))]) C Y G (c_X5_isFree_bad1 l D cJ u v _ _ _ _ _ (q1) (by first | assumption | omega) (by first | assumption | omega)) ml_L_287 rfl ⟨Nat.le_of_ble_eq_true rfl, Nat.le_of_ble_eq_true rfl⟩ ⟨by show cells + 1 + 0 ≤ 665281; omega, by show slots + 6 + 0 ≤ 7105636; omega⟩ hl (Nat.le_of_ble_eq_true rfl) rfl dL_law_1872 (fun y9 H locs hy9 G => ?_)
    subst hy9
    refine lv_istore (lv' := [(6, _), (5, .int (iZ (1))), (0, .ref t), (1, .ref o), (2, .ref u), (3, .ref w), (4, .int (iZ (x)))]) C.1 C.2.1 dL_law_1875 hl (by decide) rfl (fun ls hl => ?_)
    refine lv_goto (tgt := 2172) C.1 C.2.1 dL_law_1877 (by decide) ?_
    exact kk _ _ _ _ _ _ _ _ _ _ _ _ G (by omega) (by omega) (lv_sub hl [2, 3, 4, 5, 6] rfl)
set_option maxHeartbeats 4000000 in
set_option maxRecDepth 100000 in
theorem lk_36 (hlq : l.stackTraces = false) (C : CallFix p m c0 cL_law 7 s args T0 RL) (Z : zLw D cB t N g s) (Y : zAd o a u v w s) {c : Nat → Nat} {ac re kn : Int32} {th : Int} {n : Int64} {sv : Value} {H : Heap} {locs : List Loc} {ls : Array Slot} {cells slots : Nat} (G : zG D cJ o a u v w c [.int ac, .int re, .int kn] c [.int (iZ th), .int ac, .int re, .int kn] n sv s H locs) (x : Int) (hx : 0 ≤ x ∧ x + 5 ≤ (N : Int)) (hf : cells + 150 ≤ 665281 ∧ slots + 75000 ≤ 7105636) (hl : lv_has ls 7 [(0, .ref t), (1, .ref o), (2, .ref u), (3, .ref w), (4, .int (iZ (x)))])
    (kk : zNx p l e s m args below meth c0 D cJ t o a u v w x cells slots Qw 2172) : W p l e room_1 s m args below meth c0 H locs cells slots Qw (F0 m 1880 ls []) := by
  have hc := G.1.2.2.2
  obtain ⟨q1, e1⟩ : ∃ z, g (x.toNat + 1) = z := ⟨_, rfl⟩
  have r1 : -2147483648 ≤ q1 ∧ q1 ≤ 2147483647 := e1 ▸ Z.2.2.2.2.2.1 _
  by_cases hcel : (0 ≤ q1 ∧ q1 ≤ 5)
  · skip
    refine lv_aload_n C.1 C.2.1 dL_law_1880 rfl (lv_at hl 1 rfl) ?_
    refine lv_aload_n C.1 C.2.1 dL_law_1881 rfl (lv_at hl 0 rfl) ?_
    refine lv_iload C.1 C.2.1 dL_law_1882 (lv_at hl 4 rfl) ?_
    refine z_iconst C dL_law_1884 ?_
    refine z_iadd C dL_law_1885 ?_
    refine zd_ld C Z G q1 (x.toNat + 1) e1 (by omega) (by omega) dL_law_1886 ?_
    refine lv_aload_n C.1 C.2.1 dL_law_1887 rfl (lv_at hl 3 rfl) ?_
    refine zd_W (as := [.ref o, .int (iZ (q1)), .ref w]) C Z Y G (c_L_irreducible l D cJ o a _ _ _ _ (q1) (by first | assumption | omega) w _ _) ml_L_288 ⟨Nat.le_of_ble_eq_true rfl, Nat.le_of_ble_eq_true rfl⟩ ⟨by show cells + 0 + 0 ≤ 665281; omega, by show slots + 0 + 0 ≤ 7105636; omega⟩ hl (Nat.le_of_ble_eq_true rfl) rfl dL_law_1888 (fun H locs G => ?_)
    refine lv_istore (lv' := [(5, .int (iZ (0))), (0, .ref t), (1, .ref o), (2, .ref u), (3, .ref w), (4, .int (iZ (x)))]) C.1 C.2.1 dL_law_1891 hl (by decide) rfl (fun ls hl => ?_)
    refine lv_aload_n C.1 C.2.1 dL_law_1893 rfl (lv_at hl 3 rfl) ?_
    refine lv_aload_n C.1 C.2.1 dL_law_1894 rfl (lv_at hl 1 rfl) ?_
    refine lv_iload C.1 C.2.1 dL_law_1895 (lv_at hl 5 rfl) ?_
    refine z_iconst C dL_law_1897 ?_
    refine z_iadd C dL_law_1898 ?_
    refine zd_ld C Z G q1 (x.toNat + 1) e1 (by omega) (by omega) dL_law_1899 ?_
    refine zd_M (as := [.int (iZ (q1))]) C Y G (c_X5_irreducible l D cJ u v _ _ _ _ _ (q1) (by first | assumption | omega)) ml_L_290 rfl ⟨Nat.le_of_ble_eq_true rfl, Nat.le_of_ble_eq_true rfl⟩ ⟨by show cells + 0 + 0 ≤ 665281; omega, by show slots + 0 + 0 ≤ 7105636; omega⟩ hl (Nat.le_of_ble_eq_true rfl) rfl dL_law_1900 (fun y9 H locs hy9 G => ?_)
    subst hy9
    refine lv_istore (lv' := [(6, _), (5, .int (iZ (0))), (0, .ref t), (1, .ref o), (2, .ref u), (3, .ref w), (4, .int (iZ (x)))]) C.1 C.2.1 dL_law_1903 hl (by decide) rfl (fun ls hl => ?_)
    refine lv_goto (tgt := 2172) C.1 C.2.1 dL_law_1905 (by decide) ?_
    exact kk _ _ _ _ _ _ _ _ _ _ _ _ G (by omega) (by omega) (lv_sub hl [2, 3, 4, 5, 6] rfl)
  · skip
    refine lv_aload_n C.1 C.2.1 dL_law_1880 rfl (lv_at hl 1 rfl) ?_
    refine lv_aload_n C.1 C.2.1 dL_law_1881 rfl (lv_at hl 0 rfl) ?_
    refine lv_iload C.1 C.2.1 dL_law_1882 (lv_at hl 4 rfl) ?_
    refine z_iconst C dL_law_1884 ?_
    refine z_iadd C dL_law_1885 ?_
    refine zd_ld C Z G q1 (x.toNat + 1) e1 (by omega) (by omega) dL_law_1886 ?_
    refine lv_aload_n C.1 C.2.1 dL_law_1887 rfl (lv_at hl 3 rfl) ?_
    refine zd_W (as := [.ref o, .int (iZ (q1)), .ref w]) C Z Y G (c_L_irreducible_badc l hlq D cJ o a _ _ _ _ (q1) (by first | assumption | omega) (by first | assumption | omega) w _ _) ml_L_288 ⟨Nat.le_of_ble_eq_true rfl, Nat.le_of_ble_eq_true rfl⟩ ⟨by show cells + 0 + 1 ≤ 665281; omega, by show slots + 0 + 6 ≤ 7105636; omega⟩ hl (Nat.le_of_ble_eq_true rfl) rfl dL_law_1888 (fun H locs G => ?_)
    refine lv_istore (lv' := [(5, .int (iZ (1))), (0, .ref t), (1, .ref o), (2, .ref u), (3, .ref w), (4, .int (iZ (x)))]) C.1 C.2.1 dL_law_1891 hl (by decide) rfl (fun ls hl => ?_)
    refine lv_aload_n C.1 C.2.1 dL_law_1893 rfl (lv_at hl 3 rfl) ?_
    refine lv_aload_n C.1 C.2.1 dL_law_1894 rfl (lv_at hl 1 rfl) ?_
    refine lv_iload C.1 C.2.1 dL_law_1895 (lv_at hl 5 rfl) ?_
    refine z_iconst C dL_law_1897 ?_
    refine z_iadd C dL_law_1898 ?_
    refine zd_ld C Z G q1 (x.toNat + 1) e1 (by omega) (by omega) dL_law_1899 ?_
    refine zd_M (as := [.int (iZ (q1))]) C Y G (c_X5_irreducible_bad1 l D cJ u v _ _ _ _ _ (q1) (by first | assumption | omega) (by first | assumption | omega)) ml_L_290 rfl ⟨Nat.le_of_ble_eq_true rfl, Nat.le_of_ble_eq_true rfl⟩ ⟨by show cells + 1 + 0 ≤ 665281; omega, by show slots + 6 + 0 ≤ 7105636; omega⟩ hl (Nat.le_of_ble_eq_true rfl) rfl dL_law_1900 (fun y9 H locs hy9 G => ?_)
    subst hy9
    refine lv_istore (lv' := [(6, _), (5, .int (iZ (1))), (0, .ref t), (1, .ref o), (2, .ref u), (3, .ref w), (4, .int (iZ (x)))]) C.1 C.2.1 dL_law_1903 hl (by decide) rfl (fun ls hl => ?_)
    refine lv_goto (tgt := 2172) C.1 C.2.1 dL_law_1905 (by decide) ?_
    exact kk _ _ _ _ _ _ _ _ _ _ _ _ G (by omega) (by omega) (lv_sub hl [2, 3, 4, 5, 6] rfl)
set_option maxHeartbeats 4000000 in
set_option maxRecDepth 100000 in
theorem lk_37 (hlq : l.stackTraces = false) (C : CallFix p m c0 cL_law 7 s args T0 RL) (Z : zLw D cB t N g s) (Y : zAd o a u v w s) {c : Nat → Nat} {ac re kn : Int32} {th : Int} {n : Int64} {sv : Value} {H : Heap} {locs : List Loc} {ls : Array Slot} {cells slots : Nat} (G : zG D cJ o a u v w c [.int ac, .int re, .int kn] c [.int (iZ th), .int ac, .int re, .int kn] n sv s H locs) (x : Int) (hx : 0 ≤ x ∧ x + 5 ≤ (N : Int)) (hf : cells + 150 ≤ 665281 ∧ slots + 75000 ≤ 7105636) (hl : lv_has ls 7 [(0, .ref t), (1, .ref o), (2, .ref u), (3, .ref w), (4, .int (iZ (x)))])
    (kk : zNx p l e s m args below meth c0 D cJ t o a u v w x cells slots Qw 2172) : W p l e room_1 s m args below meth c0 H locs cells slots Qw (F0 m 1908 ls []) := by
  have hc := G.1.2.2.2
  obtain ⟨q1, e1⟩ : ∃ z, g (x.toNat + 1) = z := ⟨_, rfl⟩
  have r1 : -2147483648 ≤ q1 ∧ q1 ≤ 2147483647 := e1 ▸ Z.2.2.2.2.2.1 _
  by_cases hcel : (0 ≤ q1 ∧ q1 ≤ 5)
  · skip
    refine lv_aload_n C.1 C.2.1 dL_law_1908 rfl (lv_at hl 1 rfl) ?_
    refine lv_aload_n C.1 C.2.1 dL_law_1909 rfl (lv_at hl 0 rfl) ?_
    refine lv_iload C.1 C.2.1 dL_law_1910 (lv_at hl 4 rfl) ?_
    refine z_iconst C dL_law_1912 ?_
    refine z_iadd C dL_law_1913 ?_
    refine zd_ld C Z G q1 (x.toNat + 1) e1 (by omega) (by omega) dL_law_1914 ?_
    refine lv_aload_n C.1 C.2.1 dL_law_1915 rfl (lv_at hl 3 rfl) ?_
    refine zd_W (as := [.ref o, .int (iZ (q1)), .ref w]) C Z Y G (c_L_rank l D cJ o a _ _ _ _ (q1) (by first | assumption | omega) w _ _) ml_L_291 ⟨Nat.le_of_ble_eq_true rfl, Nat.le_of_ble_eq_true rfl⟩ ⟨by show cells + 0 + 0 ≤ 665281; omega, by show slots + 0 + 0 ≤ 7105636; omega⟩ hl (Nat.le_of_ble_eq_true rfl) rfl dL_law_1916 (fun H locs G => ?_)
    refine lv_istore (lv' := [(5, .int (iZ (0))), (0, .ref t), (1, .ref o), (2, .ref u), (3, .ref w), (4, .int (iZ (x)))]) C.1 C.2.1 dL_law_1919 hl (by decide) rfl (fun ls hl => ?_)
    refine lv_aload_n C.1 C.2.1 dL_law_1921 rfl (lv_at hl 3 rfl) ?_
    refine lv_aload_n C.1 C.2.1 dL_law_1922 rfl (lv_at hl 1 rfl) ?_
    refine lv_iload C.1 C.2.1 dL_law_1923 (lv_at hl 5 rfl) ?_
    refine z_iconst C dL_law_1925 ?_
    refine z_iadd C dL_law_1926 ?_
    refine zd_ld C Z G q1 (x.toNat + 1) e1 (by omega) (by omega) dL_law_1927 ?_
    refine zd_M (as := [.int (iZ (q1))]) C Y G (c_X5_rank l D cJ u v _ _ _ _ _ (q1) (by first | assumption | omega)) ml_L_293 rfl ⟨Nat.le_of_ble_eq_true rfl, Nat.le_of_ble_eq_true rfl⟩ ⟨by show cells + 0 + 0 ≤ 665281; omega, by show slots + 0 + 0 ≤ 7105636; omega⟩ hl (Nat.le_of_ble_eq_true rfl) rfl dL_law_1928 (fun y9 H locs hy9 G => ?_)
    subst hy9
    refine lv_istore (lv' := [(6, _), (5, .int (iZ (0))), (0, .ref t), (1, .ref o), (2, .ref u), (3, .ref w), (4, .int (iZ (x)))]) C.1 C.2.1 dL_law_1931 hl (by decide) rfl (fun ls hl => ?_)
    refine lv_goto (tgt := 2172) C.1 C.2.1 dL_law_1933 (by decide) ?_
    exact kk _ _ _ _ _ _ _ _ _ _ _ _ G (by omega) (by omega) (lv_sub hl [2, 3, 4, 5, 6] rfl)
  · skip
    refine lv_aload_n C.1 C.2.1 dL_law_1908 rfl (lv_at hl 1 rfl) ?_
    refine lv_aload_n C.1 C.2.1 dL_law_1909 rfl (lv_at hl 0 rfl) ?_
    refine lv_iload C.1 C.2.1 dL_law_1910 (lv_at hl 4 rfl) ?_
    refine z_iconst C dL_law_1912 ?_
    refine z_iadd C dL_law_1913 ?_
    refine zd_ld C Z G q1 (x.toNat + 1) e1 (by omega) (by omega) dL_law_1914 ?_
    refine lv_aload_n C.1 C.2.1 dL_law_1915 rfl (lv_at hl 3 rfl) ?_
    refine zd_W (as := [.ref o, .int (iZ (q1)), .ref w]) C Z Y G (c_L_rank_badc l hlq D cJ o a _ _ _ _ (q1) (by first | assumption | omega) (by first | assumption | omega) w _ _) ml_L_291 ⟨Nat.le_of_ble_eq_true rfl, Nat.le_of_ble_eq_true rfl⟩ ⟨by show cells + 0 + 1 ≤ 665281; omega, by show slots + 0 + 6 ≤ 7105636; omega⟩ hl (Nat.le_of_ble_eq_true rfl) rfl dL_law_1916 (fun H locs G => ?_)
    refine lv_istore (lv' := [(5, .int (iZ (1))), (0, .ref t), (1, .ref o), (2, .ref u), (3, .ref w), (4, .int (iZ (x)))]) C.1 C.2.1 dL_law_1919 hl (by decide) rfl (fun ls hl => ?_)
    refine lv_aload_n C.1 C.2.1 dL_law_1921 rfl (lv_at hl 3 rfl) ?_
    refine lv_aload_n C.1 C.2.1 dL_law_1922 rfl (lv_at hl 1 rfl) ?_
    refine lv_iload C.1 C.2.1 dL_law_1923 (lv_at hl 5 rfl) ?_
    refine z_iconst C dL_law_1925 ?_
    refine z_iadd C dL_law_1926 ?_
    refine zd_ld C Z G q1 (x.toNat + 1) e1 (by omega) (by omega) dL_law_1927 ?_
    refine zd_M (as := [.int (iZ (q1))]) C Y G (c_X5_rank_bad1 l D cJ u v _ _ _ _ _ (q1) (by first | assumption | omega) (by first | assumption | omega)) ml_L_293 rfl ⟨Nat.le_of_ble_eq_true rfl, Nat.le_of_ble_eq_true rfl⟩ ⟨by show cells + 1 + 0 ≤ 665281; omega, by show slots + 6 + 0 ≤ 7105636; omega⟩ hl (Nat.le_of_ble_eq_true rfl) rfl dL_law_1928 (fun y9 H locs hy9 G => ?_)
    subst hy9
    refine lv_istore (lv' := [(6, _), (5, .int (iZ (1))), (0, .ref t), (1, .ref o), (2, .ref u), (3, .ref w), (4, .int (iZ (x)))]) C.1 C.2.1 dL_law_1931 hl (by decide) rfl (fun ls hl => ?_)
    refine lv_goto (tgt := 2172) C.1 C.2.1 dL_law_1933 (by decide) ?_
    exact kk _ _ _ _ _ _ _ _ _ _ _ _ G (by omega) (by omega) (lv_sub hl [2, 3, 4, 5, 6] rfl)
set_option maxHeartbeats 4000000 in
set_option maxRecDepth 100000 in
theorem lk_38 (hlq : l.stackTraces = false) (C : CallFix p m c0 cL_law 7 s args T0 RL) (Z : zLw D cB t N g s) (Y : zAd o a u v w s) {c : Nat → Nat} {ac re kn : Int32} {th : Int} {n : Int64} {sv : Value} {H : Heap} {locs : List Loc} {ls : Array Slot} {cells slots : Nat} (G : zG D cJ o a u v w c [.int ac, .int re, .int kn] c [.int (iZ th), .int ac, .int re, .int kn] n sv s H locs) (x : Int) (hx : 0 ≤ x ∧ x + 5 ≤ (N : Int)) (hf : cells + 150 ≤ 665281 ∧ slots + 75000 ≤ 7105636) (hl : lv_has ls 7 [(0, .ref t), (1, .ref o), (2, .ref u), (3, .ref w), (4, .int (iZ (x)))])
    (kk : zNx p l e s m args below meth c0 D cJ t o a u v w x cells slots Qw 2172) : W p l e room_1 s m args below meth c0 H locs cells slots Qw (F0 m 1936 ls []) := by
  have hc := G.1.2.2.2
  obtain ⟨q1, e1⟩ : ∃ z, g (x.toNat + 1) = z := ⟨_, rfl⟩
  have r1 : -2147483648 ≤ q1 ∧ q1 ≤ 2147483647 := e1 ▸ Z.2.2.2.2.2.1 _
  by_cases hcel : (0 ≤ q1 ∧ q1 ≤ 5)
  · skip
    by_cases hg : 0 ≤ tp (c q1.toNat) ∧ tp (c q1.toNat) ≤ 8
    · skip
      refine lv_aload_n C.1 C.2.1 dL_law_1936 rfl (lv_at hl 1 rfl) ?_
      refine lv_aload_n C.1 C.2.1 dL_law_1937 rfl (lv_at hl 0 rfl) ?_
      refine lv_iload C.1 C.2.1 dL_law_1938 (lv_at hl 4 rfl) ?_
      refine z_iconst C dL_law_1940 ?_
      refine z_iadd C dL_law_1941 ?_
      refine zd_ld C Z G q1 (x.toNat + 1) e1 (by omega) (by omega) dL_law_1942 ?_
      refine lv_aload_n C.1 C.2.1 dL_law_1943 rfl (lv_at hl 3 rfl) ?_
      refine zd_WV (as := [.ref o, .int (iZ (q1)), .ref w]) C Z Y G (c_L_factors_ok l D cB cJ o a _ _ _ _ (q1) (by first | assumption | omega) (by first | assumption | omega) w _ _) ml_L_294 ⟨Nat.le_of_ble_eq_true rfl, Nat.le_of_ble_eq_true rfl⟩ ⟨by show cells + 0 + 24 ≤ 665281; omega, by show slots + 0 + 10000 ≤ 7105636; omega⟩ hl (Nat.le_of_ble_eq_true rfl) rfl dL_law_1944 (fun sv H locs G => ?_)
      refine lv_istore (lv' := [(5, .int (iZ (0))), (0, .ref t), (1, .ref o), (2, .ref u), (3, .ref w), (4, .int (iZ (x)))]) C.1 C.2.1 dL_law_1947 hl (by decide) rfl (fun ls hl => ?_)
      refine lv_aload_n C.1 C.2.1 dL_law_1949 rfl (lv_at hl 3 rfl) ?_
      refine lv_aload_n C.1 C.2.1 dL_law_1950 rfl (lv_at hl 1 rfl) ?_
      refine lv_iload C.1 C.2.1 dL_law_1951 (lv_at hl 5 rfl) ?_
      refine z_iconst C dL_law_1953 ?_
      refine z_iadd C dL_law_1954 ?_
      refine zd_ld C Z G q1 (x.toNat + 1) e1 (by omega) (by omega) dL_law_1955 ?_
      refine zd_MV (as := [.int (iZ (q1))]) C Z Y G (c_X5_factors_ok l D cB cJ u v _ _ _ _ _ (q1) (by first | assumption | omega) (by first | assumption | omega)) ml_L_296 rfl ⟨Nat.le_of_ble_eq_true rfl, Nat.le_of_ble_eq_true rfl⟩ ⟨by show cells + 24 + 24 ≤ 665281; omega, by show slots + 10000 + 10000 ≤ 7105636; omega⟩ hl (Nat.le_of_ble_eq_true rfl) rfl dL_law_1956 (fun y9 H locs hy9 G => ?_)
      obtain ⟨q9, rfl⟩ := hy9
      refine lv_astore (lv' := [(6, .ref q9), (5, .int (iZ (0))), (0, .ref t), (1, .ref o), (2, .ref u), (3, .ref w), (4, .int (iZ (x)))]) C.1 C.2.1 dL_law_1959 hl (by decide) rfl (fun ls hl => ?_)
      refine lv_goto (tgt := 2172) C.1 C.2.1 dL_law_1961 (by decide) ?_
      exact kk _ _ _ _ _ _ _ _ _ _ _ _ G (by omega) (by omega) (lv_sub hl [2, 3, 4, 5, 6] rfl)
    · skip
      refine lv_aload_n C.1 C.2.1 dL_law_1936 rfl (lv_at hl 1 rfl) ?_
      refine lv_aload_n C.1 C.2.1 dL_law_1937 rfl (lv_at hl 0 rfl) ?_
      refine lv_iload C.1 C.2.1 dL_law_1938 (lv_at hl 4 rfl) ?_
      refine z_iconst C dL_law_1940 ?_
      refine z_iadd C dL_law_1941 ?_
      refine zd_ld C Z G q1 (x.toNat + 1) e1 (by omega) (by omega) dL_law_1942 ?_
      refine lv_aload_n C.1 C.2.1 dL_law_1943 rfl (lv_at hl 3 rfl) ?_
      refine zd_WV (as := [.ref o, .int (iZ (q1)), .ref w]) C Z Y G (c_L_factors_no l D cB cJ o a _ _ _ _ (q1) (by first | assumption | omega) (by first | assumption | omega) w _ _) ml_L_294 ⟨Nat.le_of_ble_eq_true rfl, Nat.le_of_ble_eq_true rfl⟩ ⟨by show cells + 0 + 24 ≤ 665281; omega, by show slots + 0 + 10000 ≤ 7105636; omega⟩ hl (Nat.le_of_ble_eq_true rfl) rfl dL_law_1944 (fun sv H locs G => ?_)
      refine lv_istore (lv' := [(5, .int (iZ (0))), (0, .ref t), (1, .ref o), (2, .ref u), (3, .ref w), (4, .int (iZ (x)))]) C.1 C.2.1 dL_law_1947 hl (by decide) rfl (fun ls hl => ?_)
      refine lv_aload_n C.1 C.2.1 dL_law_1949 rfl (lv_at hl 3 rfl) ?_
      refine lv_aload_n C.1 C.2.1 dL_law_1950 rfl (lv_at hl 1 rfl) ?_
      refine lv_iload C.1 C.2.1 dL_law_1951 (lv_at hl 5 rfl) ?_
      refine z_iconst C dL_law_1953 ?_
      refine z_iadd C dL_law_1954 ?_
      refine zd_ld C Z G q1 (x.toNat + 1) e1 (by omega) (by omega) dL_law_1955 ?_
      refine zd_MV (as := [.int (iZ (q1))]) C Z Y G (c_X5_factors_no l D cB cJ u v _ _ _ _ _ (q1) (by first | assumption | omega) (by first | assumption | omega)) ml_L_296 rfl ⟨Nat.le_of_ble_eq_true rfl, Nat.le_of_ble_eq_true rfl⟩ ⟨by show cells + 24 + 0 ≤ 665281; omega, by show slots + 10000 + 0 ≤ 7105636; omega⟩ hl (Nat.le_of_ble_eq_true rfl) rfl dL_law_1956 (fun y9 H locs hy9 G => ?_)
      obtain ⟨q9, rfl⟩ := hy9
      refine lv_astore (lv' := [(6, .ref q9), (5, .int (iZ (0))), (0, .ref t), (1, .ref o), (2, .ref u), (3, .ref w), (4, .int (iZ (x)))]) C.1 C.2.1 dL_law_1959 hl (by decide) rfl (fun ls hl => ?_)
      refine lv_goto (tgt := 2172) C.1 C.2.1 dL_law_1961 (by decide) ?_
      exact kk _ _ _ _ _ _ _ _ _ _ _ _ G (by omega) (by omega) (lv_sub hl [2, 3, 4, 5, 6] rfl)
  · skip
    refine lv_aload_n C.1 C.2.1 dL_law_1936 rfl (lv_at hl 1 rfl) ?_
    refine lv_aload_n C.1 C.2.1 dL_law_1937 rfl (lv_at hl 0 rfl) ?_
    refine lv_iload C.1 C.2.1 dL_law_1938 (lv_at hl 4 rfl) ?_
    refine z_iconst C dL_law_1940 ?_
    refine z_iadd C dL_law_1941 ?_
    refine zd_ld C Z G q1 (x.toNat + 1) e1 (by omega) (by omega) dL_law_1942 ?_
    refine lv_aload_n C.1 C.2.1 dL_law_1943 rfl (lv_at hl 3 rfl) ?_
    refine zd_W (as := [.ref o, .int (iZ (q1)), .ref w]) C Z Y G (c_L_factors_badc l hlq D cJ o a _ _ _ _ (q1) (by first | assumption | omega) (by first | assumption | omega) w _ _) ml_L_294 ⟨Nat.le_of_ble_eq_true rfl, Nat.le_of_ble_eq_true rfl⟩ ⟨by show cells + 0 + 1 ≤ 665281; omega, by show slots + 0 + 6 ≤ 7105636; omega⟩ hl (Nat.le_of_ble_eq_true rfl) rfl dL_law_1944 (fun H locs G => ?_)
    refine lv_istore (lv' := [(5, .int (iZ (1))), (0, .ref t), (1, .ref o), (2, .ref u), (3, .ref w), (4, .int (iZ (x)))]) C.1 C.2.1 dL_law_1947 hl (by decide) rfl (fun ls hl => ?_)
    refine lv_aload_n C.1 C.2.1 dL_law_1949 rfl (lv_at hl 3 rfl) ?_
    refine lv_aload_n C.1 C.2.1 dL_law_1950 rfl (lv_at hl 1 rfl) ?_
    refine lv_iload C.1 C.2.1 dL_law_1951 (lv_at hl 5 rfl) ?_
    refine z_iconst C dL_law_1953 ?_
    refine z_iadd C dL_law_1954 ?_
    refine zd_ld C Z G q1 (x.toNat + 1) e1 (by omega) (by omega) dL_law_1955 ?_
    refine zd_MV (as := [.int (iZ (q1))]) C Z Y G (c_X5_factors_bad1 l D cB cJ u v _ _ _ _ _ (q1) (by first | assumption | omega) (by first | assumption | omega)) ml_L_296 rfl ⟨Nat.le_of_ble_eq_true rfl, Nat.le_of_ble_eq_true rfl⟩ ⟨by show cells + 1 + 0 ≤ 665281; omega, by show slots + 6 + 0 ≤ 7105636; omega⟩ hl (Nat.le_of_ble_eq_true rfl) rfl dL_law_1956 (fun y9 H locs hy9 G => ?_)
    obtain ⟨q9, rfl⟩ := hy9
    refine lv_astore (lv' := [(6, .ref q9), (5, .int (iZ (1))), (0, .ref t), (1, .ref o), (2, .ref u), (3, .ref w), (4, .int (iZ (x)))]) C.1 C.2.1 dL_law_1959 hl (by decide) rfl (fun ls hl => ?_)
    refine lv_goto (tgt := 2172) C.1 C.2.1 dL_law_1961 (by decide) ?_
    exact kk _ _ _ _ _ _ _ _ _ _ _ _ G (by omega) (by omega) (lv_sub hl [2, 3, 4, 5, 6] rfl)
set_option maxHeartbeats 4000000 in
set_option maxRecDepth 100000 in
theorem lk_39 (hlq : l.stackTraces = false) (C : CallFix p m c0 cL_law 7 s args T0 RL) (Z : zLw D cB t N g s) (Y : zAd o a u v w s) {c : Nat → Nat} {ac re kn : Int32} {th : Int} {n : Int64} {sv : Value} {H : Heap} {locs : List Loc} {ls : Array Slot} {cells slots : Nat} (G : zG D cJ o a u v w c [.int ac, .int re, .int kn] c [.int (iZ th), .int ac, .int re, .int kn] n sv s H locs) (x : Int) (hx : 0 ≤ x ∧ x + 5 ≤ (N : Int)) (hf : cells + 150 ≤ 665281 ∧ slots + 75000 ≤ 7105636) (hl : lv_has ls 7 [(0, .ref t), (1, .ref o), (2, .ref u), (3, .ref w), (4, .int (iZ (x)))])
    (kk : zNx p l e s m args below meth c0 D cJ t o a u v w x cells slots Qw 2172) : W p l e room_1 s m args below meth c0 H locs cells slots Qw (F0 m 1964 ls []) := by
  have hc := G.1.2.2.2
  obtain ⟨q1, e1⟩ : ∃ z, g (x.toNat + 1) = z := ⟨_, rfl⟩
  have r1 : -2147483648 ≤ q1 ∧ q1 ≤ 2147483647 := e1 ▸ Z.2.2.2.2.2.1 _
  by_cases hcel : (0 ≤ q1 ∧ q1 ≤ 5)
  · skip
    refine lv_aload_n C.1 C.2.1 dL_law_1964 rfl (lv_at hl 1 rfl) ?_
    refine lv_aload_n C.1 C.2.1 dL_law_1965 rfl (lv_at hl 0 rfl) ?_
    refine lv_iload C.1 C.2.1 dL_law_1966 (lv_at hl 4 rfl) ?_
    refine z_iconst C dL_law_1968 ?_
    refine z_iadd C dL_law_1969 ?_
    refine zd_ld C Z G q1 (x.toNat + 1) e1 (by omega) (by omega) dL_law_1970 ?_
    refine lv_aload_n C.1 C.2.1 dL_law_1971 rfl (lv_at hl 3 rfl) ?_
    refine zd_W (as := [.ref o, .int (iZ (q1)), .ref w]) C Z Y G (c_L_period l D cJ o a _ _ _ _ (q1) (by first | assumption | omega) w _ _) ml_L_297 ⟨Nat.le_of_ble_eq_true rfl, Nat.le_of_ble_eq_true rfl⟩ ⟨by show cells + 0 + 0 ≤ 665281; omega, by show slots + 0 + 0 ≤ 7105636; omega⟩ hl (Nat.le_of_ble_eq_true rfl) rfl dL_law_1972 (fun H locs G => ?_)
    refine lv_istore (lv' := [(5, .int (iZ (0))), (0, .ref t), (1, .ref o), (2, .ref u), (3, .ref w), (4, .int (iZ (x)))]) C.1 C.2.1 dL_law_1975 hl (by decide) rfl (fun ls hl => ?_)
    refine lv_aload_n C.1 C.2.1 dL_law_1977 rfl (lv_at hl 3 rfl) ?_
    refine lv_aload_n C.1 C.2.1 dL_law_1978 rfl (lv_at hl 1 rfl) ?_
    refine lv_iload C.1 C.2.1 dL_law_1979 (lv_at hl 5 rfl) ?_
    refine z_iconst C dL_law_1981 ?_
    refine z_iadd C dL_law_1982 ?_
    refine zd_ld C Z G q1 (x.toNat + 1) e1 (by omega) (by omega) dL_law_1983 ?_
    refine zd_M (as := [.int (iZ (q1))]) C Y G (c_X5_period l D cJ u v _ _ _ _ _ (q1) (by first | assumption | omega)) ml_L_299 rfl ⟨Nat.le_of_ble_eq_true rfl, Nat.le_of_ble_eq_true rfl⟩ ⟨by show cells + 0 + 0 ≤ 665281; omega, by show slots + 0 + 0 ≤ 7105636; omega⟩ hl (Nat.le_of_ble_eq_true rfl) rfl dL_law_1984 (fun y9 H locs hy9 G => ?_)
    subst hy9
    refine lv_istore (lv' := [(6, _), (5, .int (iZ (0))), (0, .ref t), (1, .ref o), (2, .ref u), (3, .ref w), (4, .int (iZ (x)))]) C.1 C.2.1 dL_law_1987 hl (by decide) rfl (fun ls hl => ?_)
    refine lv_goto (tgt := 2172) C.1 C.2.1 dL_law_1989 (by decide) ?_
    exact kk _ _ _ _ _ _ _ _ _ _ _ _ G (by omega) (by omega) (lv_sub hl [2, 3, 4, 5, 6] rfl)
  · skip
    refine lv_aload_n C.1 C.2.1 dL_law_1964 rfl (lv_at hl 1 rfl) ?_
    refine lv_aload_n C.1 C.2.1 dL_law_1965 rfl (lv_at hl 0 rfl) ?_
    refine lv_iload C.1 C.2.1 dL_law_1966 (lv_at hl 4 rfl) ?_
    refine z_iconst C dL_law_1968 ?_
    refine z_iadd C dL_law_1969 ?_
    refine zd_ld C Z G q1 (x.toNat + 1) e1 (by omega) (by omega) dL_law_1970 ?_
    refine lv_aload_n C.1 C.2.1 dL_law_1971 rfl (lv_at hl 3 rfl) ?_
    refine zd_W (as := [.ref o, .int (iZ (q1)), .ref w]) C Z Y G (c_L_period_badc l hlq D cJ o a _ _ _ _ (q1) (by first | assumption | omega) (by first | assumption | omega) w _ _) ml_L_297 ⟨Nat.le_of_ble_eq_true rfl, Nat.le_of_ble_eq_true rfl⟩ ⟨by show cells + 0 + 1 ≤ 665281; omega, by show slots + 0 + 6 ≤ 7105636; omega⟩ hl (Nat.le_of_ble_eq_true rfl) rfl dL_law_1972 (fun H locs G => ?_)
    refine lv_istore (lv' := [(5, .int (iZ (1))), (0, .ref t), (1, .ref o), (2, .ref u), (3, .ref w), (4, .int (iZ (x)))]) C.1 C.2.1 dL_law_1975 hl (by decide) rfl (fun ls hl => ?_)
    refine lv_aload_n C.1 C.2.1 dL_law_1977 rfl (lv_at hl 3 rfl) ?_
    refine lv_aload_n C.1 C.2.1 dL_law_1978 rfl (lv_at hl 1 rfl) ?_
    refine lv_iload C.1 C.2.1 dL_law_1979 (lv_at hl 5 rfl) ?_
    refine z_iconst C dL_law_1981 ?_
    refine z_iadd C dL_law_1982 ?_
    refine zd_ld C Z G q1 (x.toNat + 1) e1 (by omega) (by omega) dL_law_1983 ?_
    refine zd_M (as := [.int (iZ (q1))]) C Y G (c_X5_period_bad1 l D cJ u v _ _ _ _ _ (q1) (by first | assumption | omega) (by first | assumption | omega)) ml_L_299 rfl ⟨Nat.le_of_ble_eq_true rfl, Nat.le_of_ble_eq_true rfl⟩ ⟨by show cells + 1 + 0 ≤ 665281; omega, by show slots + 6 + 0 ≤ 7105636; omega⟩ hl (Nat.le_of_ble_eq_true rfl) rfl dL_law_1984 (fun y9 H locs hy9 G => ?_)
    subst hy9
    refine lv_istore (lv' := [(6, _), (5, .int (iZ (1))), (0, .ref t), (1, .ref o), (2, .ref u), (3, .ref w), (4, .int (iZ (x)))]) C.1 C.2.1 dL_law_1987 hl (by decide) rfl (fun ls hl => ?_)
    refine lv_goto (tgt := 2172) C.1 C.2.1 dL_law_1989 (by decide) ?_
    exact kk _ _ _ _ _ _ _ _ _ _ _ _ G (by omega) (by omega) (lv_sub hl [2, 3, 4, 5, 6] rfl)
set_option maxHeartbeats 4000000 in
set_option maxRecDepth 100000 in
theorem lk_40 (hlq : l.stackTraces = false) (C : CallFix p m c0 cL_law 7 s args T0 RL) (Z : zLw D cB t N g s) (Y : zAd o a u v w s) {c : Nat → Nat} {ac re kn : Int32} {th : Int} {n : Int64} {sv : Value} {H : Heap} {locs : List Loc} {ls : Array Slot} {cells slots : Nat} (G : zG D cJ o a u v w c [.int ac, .int re, .int kn] c [.int (iZ th), .int ac, .int re, .int kn] n sv s H locs) (x : Int) (hx : 0 ≤ x ∧ x + 5 ≤ (N : Int)) (hf : cells + 150 ≤ 665281 ∧ slots + 75000 ≤ 7105636) (hl : lv_has ls 7 [(0, .ref t), (1, .ref o), (2, .ref u), (3, .ref w), (4, .int (iZ (x)))])
    (kk : zNx p l e s m args below meth c0 D cJ t o a u v w x cells slots Qw 2172) : W p l e room_1 s m args below meth c0 H locs cells slots Qw (F0 m 1992 ls []) := by
  have hc := G.1.2.2.2
  obtain ⟨q1, e1⟩ : ∃ z, g (x.toNat + 1) = z := ⟨_, rfl⟩
  have r1 : -2147483648 ≤ q1 ∧ q1 ≤ 2147483647 := e1 ▸ Z.2.2.2.2.2.1 _
  by_cases hrng : (1 ≤ q1 ∧ q1 ≤ 8)
  · skip
    refine lv_aload_n C.1 C.2.1 dL_law_1992 rfl (lv_at hl 1 rfl) ?_
    refine lv_aload_n C.1 C.2.1 dL_law_1993 rfl (lv_at hl 0 rfl) ?_
    refine lv_iload C.1 C.2.1 dL_law_1994 (lv_at hl 4 rfl) ?_
    refine z_iconst C dL_law_1996 ?_
    refine z_iadd C dL_law_1997 ?_
    refine zd_ld C Z G q1 (x.toNat + 1) e1 (by omega) (by omega) dL_law_1998 ?_
    refine lv_aload_n C.1 C.2.1 dL_law_1999 rfl (lv_at hl 3 rfl) ?_
    refine zd_W (as := [.ref o, .int (iZ (q1)), .ref w]) C Z Y G (c_L_many l D cJ o a _ _ _ _ (q1) (by first | assumption | omega) w _ _) ml_L_300 ⟨Nat.le_of_ble_eq_true rfl, Nat.le_of_ble_eq_true rfl⟩ ⟨by show cells + 0 + 0 ≤ 665281; omega, by show slots + 0 + 0 ≤ 7105636; omega⟩ hl (Nat.le_of_ble_eq_true rfl) rfl dL_law_2000 (fun H locs G => ?_)
    refine lv_istore (lv' := [(5, .int (iZ (0))), (0, .ref t), (1, .ref o), (2, .ref u), (3, .ref w), (4, .int (iZ (x)))]) C.1 C.2.1 dL_law_2003 hl (by decide) rfl (fun ls hl => ?_)
    refine lv_aload_n C.1 C.2.1 dL_law_2005 rfl (lv_at hl 3 rfl) ?_
    refine lv_aload_n C.1 C.2.1 dL_law_2006 rfl (lv_at hl 1 rfl) ?_
    refine lv_iload C.1 C.2.1 dL_law_2007 (lv_at hl 5 rfl) ?_
    refine z_iconst C dL_law_2009 ?_
    refine z_iadd C dL_law_2010 ?_
    refine zd_ld C Z G q1 (x.toNat + 1) e1 (by omega) (by omega) dL_law_2011 ?_
    refine zd_M (as := [.int (iZ (q1))]) C Y G (c_X5_many l D cJ u v _ _ _ _ _ (q1) (by first | assumption | omega)) ml_L_302 rfl ⟨Nat.le_of_ble_eq_true rfl, Nat.le_of_ble_eq_true rfl⟩ ⟨by show cells + 0 + 0 ≤ 665281; omega, by show slots + 0 + 0 ≤ 7105636; omega⟩ hl (Nat.le_of_ble_eq_true rfl) rfl dL_law_2012 (fun y9 H locs hy9 G => ?_)
    subst hy9
    refine lv_istore (lv' := [(6, _), (5, .int (iZ (0))), (0, .ref t), (1, .ref o), (2, .ref u), (3, .ref w), (4, .int (iZ (x)))]) C.1 C.2.1 dL_law_2015 hl (by decide) rfl (fun ls hl => ?_)
    refine lv_goto (tgt := 2172) C.1 C.2.1 dL_law_2017 (by decide) ?_
    exact kk _ _ _ _ _ _ _ _ _ _ _ _ G (by omega) (by omega) (lv_sub hl [2, 3, 4, 5, 6] rfl)
  · skip
    refine lv_aload_n C.1 C.2.1 dL_law_1992 rfl (lv_at hl 1 rfl) ?_
    refine lv_aload_n C.1 C.2.1 dL_law_1993 rfl (lv_at hl 0 rfl) ?_
    refine lv_iload C.1 C.2.1 dL_law_1994 (lv_at hl 4 rfl) ?_
    refine z_iconst C dL_law_1996 ?_
    refine z_iadd C dL_law_1997 ?_
    refine zd_ld C Z G q1 (x.toNat + 1) e1 (by omega) (by omega) dL_law_1998 ?_
    refine lv_aload_n C.1 C.2.1 dL_law_1999 rfl (lv_at hl 3 rfl) ?_
    refine zd_W (as := [.ref o, .int (iZ (q1)), .ref w]) C Z Y G (c_L_many_badr l hlq D cJ o a _ _ _ _ (q1) (by first | assumption | omega) (by first | assumption | omega) w _ _) ml_L_300 ⟨Nat.le_of_ble_eq_true rfl, Nat.le_of_ble_eq_true rfl⟩ ⟨by show cells + 0 + 1 ≤ 665281; omega, by show slots + 0 + 6 ≤ 7105636; omega⟩ hl (Nat.le_of_ble_eq_true rfl) rfl dL_law_2000 (fun H locs G => ?_)
    refine lv_istore (lv' := [(5, .int (iZ (1))), (0, .ref t), (1, .ref o), (2, .ref u), (3, .ref w), (4, .int (iZ (x)))]) C.1 C.2.1 dL_law_2003 hl (by decide) rfl (fun ls hl => ?_)
    refine lv_aload_n C.1 C.2.1 dL_law_2005 rfl (lv_at hl 3 rfl) ?_
    refine lv_aload_n C.1 C.2.1 dL_law_2006 rfl (lv_at hl 1 rfl) ?_
    refine lv_iload C.1 C.2.1 dL_law_2007 (lv_at hl 5 rfl) ?_
    refine z_iconst C dL_law_2009 ?_
    refine z_iadd C dL_law_2010 ?_
    refine zd_ld C Z G q1 (x.toNat + 1) e1 (by omega) (by omega) dL_law_2011 ?_
    refine zd_M (as := [.int (iZ (q1))]) C Y G (c_X5_many_bad1 l D cJ u v _ _ _ _ _ (q1) (by first | assumption | omega) (by first | assumption | omega)) ml_L_302 rfl ⟨Nat.le_of_ble_eq_true rfl, Nat.le_of_ble_eq_true rfl⟩ ⟨by show cells + 1 + 0 ≤ 665281; omega, by show slots + 6 + 0 ≤ 7105636; omega⟩ hl (Nat.le_of_ble_eq_true rfl) rfl dL_law_2012 (fun y9 H locs hy9 G => ?_)
    subst hy9
    refine lv_istore (lv' := [(6, _), (5, .int (iZ (1))), (0, .ref t), (1, .ref o), (2, .ref u), (3, .ref w), (4, .int (iZ (x)))]) C.1 C.2.1 dL_law_2015 hl (by decide) rfl (fun ls hl => ?_)
    refine lv_goto (tgt := 2172) C.1 C.2.1 dL_law_2017 (by decide) ?_
    exact kk _ _ _ _ _ _ _ _ _ _ _ _ G (by omega) (by omega) (lv_sub hl [2, 3, 4, 5, 6] rfl)
set_option maxHeartbeats 4000000 in
set_option maxRecDepth 100000 in
theorem lk_41 (hlq : l.stackTraces = false) (C : CallFix p m c0 cL_law 7 s args T0 RL) (Z : zLw D cB t N g s) (Y : zAd o a u v w s) {c : Nat → Nat} {ac re kn : Int32} {th : Int} {n : Int64} {sv : Value} {H : Heap} {locs : List Loc} {ls : Array Slot} {cells slots : Nat} (G : zG D cJ o a u v w c [.int ac, .int re, .int kn] c [.int (iZ th), .int ac, .int re, .int kn] n sv s H locs) (x : Int) (hx : 0 ≤ x ∧ x + 5 ≤ (N : Int)) (hf : cells + 150 ≤ 665281 ∧ slots + 75000 ≤ 7105636) (hl : lv_has ls 7 [(0, .ref t), (1, .ref o), (2, .ref u), (3, .ref w), (4, .int (iZ (x)))])
    (kk : zNx p l e s m args below meth c0 D cJ t o a u v w x cells slots Qw 2172) : W p l e room_1 s m args below meth c0 H locs cells slots Qw (F0 m 2020 ls []) := by
  have hc := G.1.2.2.2
  obtain ⟨q1, e1⟩ : ∃ z, g (x.toNat + 1) = z := ⟨_, rfl⟩
  have r1 : -2147483648 ≤ q1 ∧ q1 ≤ 2147483647 := e1 ▸ Z.2.2.2.2.2.1 _
  by_cases hrng : (1 ≤ q1 ∧ q1 ≤ 8)
  · skip
    refine lv_aload_n C.1 C.2.1 dL_law_2020 rfl (lv_at hl 1 rfl) ?_
    refine lv_aload_n C.1 C.2.1 dL_law_2021 rfl (lv_at hl 0 rfl) ?_
    refine lv_iload C.1 C.2.1 dL_law_2022 (lv_at hl 4 rfl) ?_
    refine z_iconst C dL_law_2024 ?_
    refine z_iadd C dL_law_2025 ?_
    refine zd_ld C Z G q1 (x.toNat + 1) e1 (by omega) (by omega) dL_law_2026 ?_
    refine lv_aload_n C.1 C.2.1 dL_law_2027 rfl (lv_at hl 3 rfl) ?_
    refine zd_W (as := [.ref o, .int (iZ (q1)), .ref w]) C Z Y G (c_L_formula l D cJ o a _ _ _ _ (q1) (by first | assumption | omega) w _ _) ml_L_303 ⟨Nat.le_of_ble_eq_true rfl, Nat.le_of_ble_eq_true rfl⟩ ⟨by show cells + 0 + 0 ≤ 665281; omega, by show slots + 0 + 0 ≤ 7105636; omega⟩ hl (Nat.le_of_ble_eq_true rfl) rfl dL_law_2028 (fun H locs G => ?_)
    refine lv_istore (lv' := [(5, .int (iZ (0))), (0, .ref t), (1, .ref o), (2, .ref u), (3, .ref w), (4, .int (iZ (x)))]) C.1 C.2.1 dL_law_2031 hl (by decide) rfl (fun ls hl => ?_)
    refine lv_aload_n C.1 C.2.1 dL_law_2033 rfl (lv_at hl 3 rfl) ?_
    refine lv_aload_n C.1 C.2.1 dL_law_2034 rfl (lv_at hl 1 rfl) ?_
    refine lv_iload C.1 C.2.1 dL_law_2035 (lv_at hl 5 rfl) ?_
    refine z_iconst C dL_law_2037 ?_
    refine z_iadd C dL_law_2038 ?_
    refine zd_ld C Z G q1 (x.toNat + 1) e1 (by omega) (by omega) dL_law_2039 ?_
    refine zd_MV (as := [.int (iZ (q1))]) C Z Y G (c_X5_formula l D cB cJ u v _ _ _ _ _ (q1) (by first | assumption | omega)) ml_L_305 rfl ⟨Nat.le_of_ble_eq_true rfl, Nat.le_of_ble_eq_true rfl⟩ ⟨by show cells + 0 + 0 ≤ 665281; omega, by show slots + 0 + 0 ≤ 7105636; omega⟩ hl (Nat.le_of_ble_eq_true rfl) rfl dL_law_2040 (fun y9 H locs hy9 G => ?_)
    subst hy9
    refine lv_istore (lv' := [(6, _), (5, .int (iZ (0))), (0, .ref t), (1, .ref o), (2, .ref u), (3, .ref w), (4, .int (iZ (x)))]) C.1 C.2.1 dL_law_2043 hl (by decide) rfl (fun ls hl => ?_)
    refine lv_goto (tgt := 2172) C.1 C.2.1 dL_law_2045 (by decide) ?_
    exact kk _ _ _ _ _ _ _ _ _ _ _ _ G (by omega) (by omega) (lv_sub hl [2, 3, 4, 5, 6] rfl)
  · skip
    refine lv_aload_n C.1 C.2.1 dL_law_2020 rfl (lv_at hl 1 rfl) ?_
    refine lv_aload_n C.1 C.2.1 dL_law_2021 rfl (lv_at hl 0 rfl) ?_
    refine lv_iload C.1 C.2.1 dL_law_2022 (lv_at hl 4 rfl) ?_
    refine z_iconst C dL_law_2024 ?_
    refine z_iadd C dL_law_2025 ?_
    refine zd_ld C Z G q1 (x.toNat + 1) e1 (by omega) (by omega) dL_law_2026 ?_
    refine lv_aload_n C.1 C.2.1 dL_law_2027 rfl (lv_at hl 3 rfl) ?_
    refine zd_W (as := [.ref o, .int (iZ (q1)), .ref w]) C Z Y G (c_L_formula_badr l hlq D cJ o a _ _ _ _ (q1) (by first | assumption | omega) (by first | assumption | omega) w _ _) ml_L_303 ⟨Nat.le_of_ble_eq_true rfl, Nat.le_of_ble_eq_true rfl⟩ ⟨by show cells + 0 + 1 ≤ 665281; omega, by show slots + 0 + 6 ≤ 7105636; omega⟩ hl (Nat.le_of_ble_eq_true rfl) rfl dL_law_2028 (fun H locs G => ?_)
    refine lv_istore (lv' := [(5, .int (iZ (1))), (0, .ref t), (1, .ref o), (2, .ref u), (3, .ref w), (4, .int (iZ (x)))]) C.1 C.2.1 dL_law_2031 hl (by decide) rfl (fun ls hl => ?_)
    refine lv_aload_n C.1 C.2.1 dL_law_2033 rfl (lv_at hl 3 rfl) ?_
    refine lv_aload_n C.1 C.2.1 dL_law_2034 rfl (lv_at hl 1 rfl) ?_
    refine lv_iload C.1 C.2.1 dL_law_2035 (lv_at hl 5 rfl) ?_
    refine z_iconst C dL_law_2037 ?_
    refine z_iadd C dL_law_2038 ?_
    refine zd_ld C Z G q1 (x.toNat + 1) e1 (by omega) (by omega) dL_law_2039 ?_
    refine zd_M (as := [.int (iZ (q1))]) C Y G (c_X5_formula_bad1 l D cJ u v _ _ _ _ _ (q1) (by first | assumption | omega) (by first | assumption | omega)) ml_L_305 rfl ⟨Nat.le_of_ble_eq_true rfl, Nat.le_of_ble_eq_true rfl⟩ ⟨by show cells + 1 + 0 ≤ 665281; omega, by show slots + 6 + 0 ≤ 7105636; omega⟩ hl (Nat.le_of_ble_eq_true rfl) rfl dL_law_2040 (fun y9 H locs hy9 G => ?_)
    subst hy9
    refine lv_istore (lv' := [(6, _), (5, .int (iZ (1))), (0, .ref t), (1, .ref o), (2, .ref u), (3, .ref w), (4, .int (iZ (x)))]) C.1 C.2.1 dL_law_2043 hl (by decide) rfl (fun ls hl => ?_)
    refine lv_goto (tgt := 2172) C.1 C.2.1 dL_law_2045 (by decide) ?_
    exact kk _ _ _ _ _ _ _ _ _ _ _ _ G (by omega) (by omega) (lv_sub hl [2, 3, 4, 5, 6] rfl)
set_option maxHeartbeats 4000000 in
set_option maxRecDepth 100000 in
theorem lk_42 (hlq : l.stackTraces = false) (C : CallFix p m c0 cL_law 7 s args T0 RL) (Z : zLw D cB t N g s) (Y : zAd o a u v w s) {c : Nat → Nat} {ac re kn : Int32} {th : Int} {n : Int64} {sv : Value} {H : Heap} {locs : List Loc} {ls : Array Slot} {cells slots : Nat} (G : zG D cJ o a u v w c [.int ac, .int re, .int kn] c [.int (iZ th), .int ac, .int re, .int kn] n sv s H locs) (x : Int) (hx : 0 ≤ x ∧ x + 5 ≤ (N : Int)) (hf : cells + 150 ≤ 665281 ∧ slots + 75000 ≤ 7105636) (hl : lv_has ls 7 [(0, .ref t), (1, .ref o), (2, .ref u), (3, .ref w), (4, .int (iZ (x)))])
    (kk : zNx p l e s m args below meth c0 D cJ t o a u v w x cells slots Qw 2172) : W p l e room_1 s m args below meth c0 H locs cells slots Qw (F0 m 2048 ls []) := by
  have hc := G.1.2.2.2
  obtain ⟨q1, e1⟩ : ∃ z, g (x.toNat + 1) = z := ⟨_, rfl⟩
  have r1 : -2147483648 ≤ q1 ∧ q1 ≤ 2147483647 := e1 ▸ Z.2.2.2.2.2.1 _
  obtain ⟨q2, e2⟩ : ∃ z, g (x.toNat + 2) = z := ⟨_, rfl⟩
  have r2 : -2147483648 ≤ q2 ∧ q2 ≤ 2147483647 := e2 ▸ Z.2.2.2.2.2.1 _
  by_cases hcel : (0 ≤ q1 ∧ q1 ≤ 5)
  · skip
    refine lv_aload_n C.1 C.2.1 dL_law_2048 rfl (lv_at hl 1 rfl) ?_
    refine lv_aload_n C.1 C.2.1 dL_law_2049 rfl (lv_at hl 0 rfl) ?_
    refine lv_iload C.1 C.2.1 dL_law_2050 (lv_at hl 4 rfl) ?_
    refine z_iconst C dL_law_2052 ?_
    refine z_iadd C dL_law_2053 ?_
    refine zd_ld C Z G q1 (x.toNat + 1) e1 (by omega) (by omega) dL_law_2054 ?_
    refine lv_aload_n C.1 C.2.1 dL_law_2055 rfl (lv_at hl 0 rfl) ?_
    refine lv_iload C.1 C.2.1 dL_law_2056 (lv_at hl 4 rfl) ?_
    refine z_iconst C dL_law_2058 ?_
    refine z_iadd C dL_law_2059 ?_
    refine zd_ld C Z G q2 (x.toNat + 2) e2 (by omega) (by omega) dL_law_2060 ?_
    refine zd_nz C (by omega) dL_law_2061 dL_law_2064 dL_law_2065 dL_law_2068 ?_
    refine lv_aload_n C.1 C.2.1 dL_law_2069 rfl (lv_at hl 3 rfl) ?_
    refine zd_W (as := [.ref o, .int (iZ (q1)), .int (iZ (zB (decide (q2 ≠ 0)))), .ref w]) C Z Y G (c_L_find l D cJ o a _ _ _ _ (q1) (decide (q2 ≠ 0)) (by first | assumption | omega) w _ _) ml_L_306 ⟨Nat.le_of_ble_eq_true rfl, Nat.le_of_ble_eq_true rfl⟩ ⟨by show cells + 0 + 0 ≤ 665281; omega, by show slots + 0 + 0 ≤ 7105636; omega⟩ hl (Nat.le_of_ble_eq_true rfl) rfl dL_law_2070 (fun H locs G => ?_)
    refine lv_istore (lv' := [(5, .int (iZ (0))), (0, .ref t), (1, .ref o), (2, .ref u), (3, .ref w), (4, .int (iZ (x)))]) C.1 C.2.1 dL_law_2073 hl (by decide) rfl (fun ls hl => ?_)
    refine lv_aload_n C.1 C.2.1 dL_law_2075 rfl (lv_at hl 3 rfl) ?_
    refine lv_aload_n C.1 C.2.1 dL_law_2076 rfl (lv_at hl 1 rfl) ?_
    refine lv_iload C.1 C.2.1 dL_law_2077 (lv_at hl 5 rfl) ?_
    refine z_iconst C dL_law_2079 ?_
    refine z_iadd C dL_law_2080 ?_
    refine zd_ld C Z G q1 (x.toNat + 1) e1 (by omega) (by omega) dL_law_2081 ?_
    refine lv_aload_n C.1 C.2.1 dL_law_2082 rfl (lv_at hl 1 rfl) ?_
    refine lv_iload C.1 C.2.1 dL_law_2083 (lv_at hl 5 rfl) ?_
    refine z_iconst C dL_law_2085 ?_
    refine z_iadd C dL_law_2086 ?_
    refine zd_ld C Z G q2 (x.toNat + 2) e2 (by omega) (by omega) dL_law_2087 ?_
    refine zd_nz C (by omega) dL_law_2088 dL_law_2091 dL_law_2092 dL_law_2095 ?_
    refine zd_M (as := [.int (iZ (q1)), .int (iZ (zB (decide (q2 ≠ 0))))]) C Y G (c_X5_find l D cJ u v _ _ _ _ _ (q1) (decide (q2 ≠ 0)) (by first | assumption | omega)) ml_L_308 rfl ⟨Nat.le_of_ble_eq_true rfl, Nat.le_of_ble_eq_true rfl⟩ ⟨by show cells + 0 + 0 ≤ 665281; omega, by show slots + 0 + 0 ≤ 7105636; omega⟩ hl (Nat.le_of_ble_eq_true rfl) rfl dL_law_2096 (fun y9 H locs hy9 G => ?_)
    subst hy9
    refine lv_istore (lv' := [(6, _), (5, .int (iZ (0))), (0, .ref t), (1, .ref o), (2, .ref u), (3, .ref w), (4, .int (iZ (x)))]) C.1 C.2.1 dL_law_2099 hl (by decide) rfl (fun ls hl => ?_)
    refine lv_goto (tgt := 2172) C.1 C.2.1 dL_law_2101 (by decide) ?_
    exact kk _ _ _ _ _ _ _ _ _ _ _ _ G (by omega) (by omega) (lv_sub hl [2, 3, 4, 5, 6] rfl)
  · skip
    refine lv_aload_n C.1 C.2.1 dL_law_2048 rfl (lv_at hl 1 rfl) ?_
    refine lv_aload_n C.1 C.2.1 dL_law_2049 rfl (lv_at hl 0 rfl) ?_
    refine lv_iload C.1 C.2.1 dL_law_2050 (lv_at hl 4 rfl) ?_
    refine z_iconst C dL_law_2052 ?_
    refine z_iadd C dL_law_2053 ?_
    refine zd_ld C Z G q1 (x.toNat + 1) e1 (by omega) (by omega) dL_law_2054 ?_
    refine lv_aload_n C.1 C.2.1 dL_law_2055 rfl (lv_at hl 0 rfl) ?_
    refine lv_iload C.1 C.2.1 dL_law_2056 (lv_at hl 4 rfl) ?_
    refine z_iconst C dL_law_2058 ?_
    refine z_iadd C dL_law_2059 ?_
    refine zd_ld C Z G q2 (x.toNat + 2) e2 (by omega) (by omega) dL_law_2060 ?_
    refine zd_nz C (by omega) dL_law_2061 dL_law_2064 dL_law_2065 dL_law_2068 ?_
    refine lv_aload_n C.1 C.2.1 dL_law_2069 rfl (lv_at hl 3 rfl) ?_
    refine zd_W (as := [.ref o, .int (iZ (q1)), .int (iZ (zB (decide (q2 ≠ 0)))), .ref w]) C Z Y G (c_L_find_badc l hlq D cJ o a _ _ _ _ (q1) (decide (q2 ≠ 0)) (by first | assumption | omega) (by first | assumption | omega) w _ _) ml_L_306 ⟨Nat.le_of_ble_eq_true rfl, Nat.le_of_ble_eq_true rfl⟩ ⟨by show cells + 0 + 1 ≤ 665281; omega, by show slots + 0 + 6 ≤ 7105636; omega⟩ hl (Nat.le_of_ble_eq_true rfl) rfl dL_law_2070 (fun H locs G => ?_)
    refine lv_istore (lv' := [(5, .int (iZ (1))), (0, .ref t), (1, .ref o), (2, .ref u), (3, .ref w), (4, .int (iZ (x)))]) C.1 C.2.1 dL_law_2073 hl (by decide) rfl (fun ls hl => ?_)
    refine lv_aload_n C.1 C.2.1 dL_law_2075 rfl (lv_at hl 3 rfl) ?_
    refine lv_aload_n C.1 C.2.1 dL_law_2076 rfl (lv_at hl 1 rfl) ?_
    refine lv_iload C.1 C.2.1 dL_law_2077 (lv_at hl 5 rfl) ?_
    refine z_iconst C dL_law_2079 ?_
    refine z_iadd C dL_law_2080 ?_
    refine zd_ld C Z G q1 (x.toNat + 1) e1 (by omega) (by omega) dL_law_2081 ?_
    refine lv_aload_n C.1 C.2.1 dL_law_2082 rfl (lv_at hl 1 rfl) ?_
    refine lv_iload C.1 C.2.1 dL_law_2083 (lv_at hl 5 rfl) ?_
    refine z_iconst C dL_law_2085 ?_
    refine z_iadd C dL_law_2086 ?_
    refine zd_ld C Z G q2 (x.toNat + 2) e2 (by omega) (by omega) dL_law_2087 ?_
    refine zd_nz C (by omega) dL_law_2088 dL_law_2091 dL_law_2092 dL_law_2095 ?_
    refine zd_M (as := [.int (iZ (q1)), .int (iZ (zB (decide (q2 ≠ 0))))]) C Y G (c_X5_find_bad1 l D cJ u v _ _ _ _ _ (q1) (decide (q2 ≠ 0)) (by first | assumption | omega) (by first | assumption | omega)) ml_L_308 rfl ⟨Nat.le_of_ble_eq_true rfl, Nat.le_of_ble_eq_true rfl⟩ ⟨by show cells + 1 + 0 ≤ 665281; omega, by show slots + 6 + 0 ≤ 7105636; omega⟩ hl (Nat.le_of_ble_eq_true rfl) rfl dL_law_2096 (fun y9 H locs hy9 G => ?_)
    subst hy9
    refine lv_istore (lv' := [(6, _), (5, .int (iZ (1))), (0, .ref t), (1, .ref o), (2, .ref u), (3, .ref w), (4, .int (iZ (x)))]) C.1 C.2.1 dL_law_2099 hl (by decide) rfl (fun ls hl => ?_)
    refine lv_goto (tgt := 2172) C.1 C.2.1 dL_law_2101 (by decide) ?_
    exact kk _ _ _ _ _ _ _ _ _ _ _ _ G (by omega) (by omega) (lv_sub hl [2, 3, 4, 5, 6] rfl)
set_option maxHeartbeats 4000000 in
set_option maxRecDepth 100000 in
theorem lk_43 (hlq : l.stackTraces = false) (C : CallFix p m c0 cL_law 7 s args T0 RL) (Z : zLw D cB t N g s) (Y : zAd o a u v w s) {c : Nat → Nat} {ac re kn : Int32} {th : Int} {n : Int64} {sv : Value} {H : Heap} {locs : List Loc} {ls : Array Slot} {cells slots : Nat} (G : zG D cJ o a u v w c [.int ac, .int re, .int kn] c [.int (iZ th), .int ac, .int re, .int kn] n sv s H locs) (x : Int) (hx : 0 ≤ x ∧ x + 5 ≤ (N : Int)) (hf : cells + 150 ≤ 665281 ∧ slots + 75000 ≤ 7105636) (hl : lv_has ls 7 [(0, .ref t), (1, .ref o), (2, .ref u), (3, .ref w), (4, .int (iZ (x)))])
    (kk : zNx p l e s m args below meth c0 D cJ t o a u v w x cells slots Qw 2172) : W p l e room_1 s m args below meth c0 H locs cells slots Qw (F0 m 2104 ls []) := by
  have hc := G.1.2.2.2
  obtain ⟨q1, e1⟩ : ∃ z, g (x.toNat + 1) = z := ⟨_, rfl⟩
  have r1 : -2147483648 ≤ q1 ∧ q1 ≤ 2147483647 := e1 ▸ Z.2.2.2.2.2.1 _
  by_cases hrng : (0 ≤ q1 ∧ q1 ≤ 4)
  · skip
    refine lv_aload_n C.1 C.2.1 dL_law_2104 rfl (lv_at hl 1 rfl) ?_
    refine lv_aload_n C.1 C.2.1 dL_law_2105 rfl (lv_at hl 0 rfl) ?_
    refine lv_iload C.1 C.2.1 dL_law_2106 (lv_at hl 4 rfl) ?_
    refine z_iconst C dL_law_2108 ?_
    refine z_iadd C dL_law_2109 ?_
    refine zd_ld C Z G q1 (x.toNat + 1) e1 (by omega) (by omega) dL_law_2110 ?_
    refine lv_aload_n C.1 C.2.1 dL_law_2111 rfl (lv_at hl 3 rfl) ?_
    refine zd_W (as := [.ref o, .int (iZ (q1)), .ref w]) C Z Y G (c_L_house l D cJ o a _ _ _ _ (q1) (by first | assumption | omega) w _ _) ml_L_309 ⟨Nat.le_of_ble_eq_true rfl, Nat.le_of_ble_eq_true rfl⟩ ⟨by show cells + 0 + 0 ≤ 665281; omega, by show slots + 0 + 0 ≤ 7105636; omega⟩ hl (Nat.le_of_ble_eq_true rfl) rfl dL_law_2112 (fun H locs G => ?_)
    refine lv_istore (lv' := [(5, .int (iZ (0))), (0, .ref t), (1, .ref o), (2, .ref u), (3, .ref w), (4, .int (iZ (x)))]) C.1 C.2.1 dL_law_2115 hl (by decide) rfl (fun ls hl => ?_)
    refine lv_aload_n C.1 C.2.1 dL_law_2117 rfl (lv_at hl 3 rfl) ?_
    refine lv_aload_n C.1 C.2.1 dL_law_2118 rfl (lv_at hl 1 rfl) ?_
    refine lv_iload C.1 C.2.1 dL_law_2119 (lv_at hl 5 rfl) ?_
    refine z_iconst C dL_law_2121 ?_
    refine z_iadd C dL_law_2122 ?_
    refine zd_ld C Z G q1 (x.toNat + 1) e1 (by omega) (by omega) dL_law_2123 ?_
    refine zd_M (as := [.int (iZ (q1))]) C Y G (c_X5_house l D cJ u v _ _ _ _ _ (q1) (by first | assumption | omega)) ml_L_311 rfl ⟨Nat.le_of_ble_eq_true rfl, Nat.le_of_ble_eq_true rfl⟩ ⟨by show cells + 0 + 0 ≤ 665281; omega, by show slots + 0 + 0 ≤ 7105636; omega⟩ hl (Nat.le_of_ble_eq_true rfl) rfl dL_law_2124 (fun y9 H locs hy9 G => ?_)
    subst hy9
    refine lv_istore (lv' := [(6, _), (5, .int (iZ (0))), (0, .ref t), (1, .ref o), (2, .ref u), (3, .ref w), (4, .int (iZ (x)))]) C.1 C.2.1 dL_law_2127 hl (by decide) rfl (fun ls hl => ?_)
    refine lv_goto (tgt := 2172) C.1 C.2.1 dL_law_2129 (by decide) ?_
    exact kk _ _ _ _ _ _ _ _ _ _ _ _ G (by omega) (by omega) (lv_sub hl [2, 3, 4, 5, 6] rfl)
  · skip
    refine lv_aload_n C.1 C.2.1 dL_law_2104 rfl (lv_at hl 1 rfl) ?_
    refine lv_aload_n C.1 C.2.1 dL_law_2105 rfl (lv_at hl 0 rfl) ?_
    refine lv_iload C.1 C.2.1 dL_law_2106 (lv_at hl 4 rfl) ?_
    refine z_iconst C dL_law_2108 ?_
    refine z_iadd C dL_law_2109 ?_
    refine zd_ld C Z G q1 (x.toNat + 1) e1 (by omega) (by omega) dL_law_2110 ?_
    refine lv_aload_n C.1 C.2.1 dL_law_2111 rfl (lv_at hl 3 rfl) ?_
    refine zd_W (as := [.ref o, .int (iZ (q1)), .ref w]) C Z Y G (c_L_house_badr l hlq D cJ o a _ _ _ _ (q1) (by first | assumption | omega) (by first | assumption | omega) w _ _) ml_L_309 ⟨Nat.le_of_ble_eq_true rfl, Nat.le_of_ble_eq_true rfl⟩ ⟨by show cells + 0 + 1 ≤ 665281; omega, by show slots + 0 + 6 ≤ 7105636; omega⟩ hl (Nat.le_of_ble_eq_true rfl) rfl dL_law_2112 (fun H locs G => ?_)
    refine lv_istore (lv' := [(5, .int (iZ (1))), (0, .ref t), (1, .ref o), (2, .ref u), (3, .ref w), (4, .int (iZ (x)))]) C.1 C.2.1 dL_law_2115 hl (by decide) rfl (fun ls hl => ?_)
    refine lv_aload_n C.1 C.2.1 dL_law_2117 rfl (lv_at hl 3 rfl) ?_
    refine lv_aload_n C.1 C.2.1 dL_law_2118 rfl (lv_at hl 1 rfl) ?_
    refine lv_iload C.1 C.2.1 dL_law_2119 (lv_at hl 5 rfl) ?_
    refine z_iconst C dL_law_2121 ?_
    refine z_iadd C dL_law_2122 ?_
    refine zd_ld C Z G q1 (x.toNat + 1) e1 (by omega) (by omega) dL_law_2123 ?_
    refine zd_M (as := [.int (iZ (q1))]) C Y G (c_X5_house_bad1 l D cJ u v _ _ _ _ _ (q1) (by first | assumption | omega) (by first | assumption | omega)) ml_L_311 rfl ⟨Nat.le_of_ble_eq_true rfl, Nat.le_of_ble_eq_true rfl⟩ ⟨by show cells + 1 + 0 ≤ 665281; omega, by show slots + 6 + 0 ≤ 7105636; omega⟩ hl (Nat.le_of_ble_eq_true rfl) rfl dL_law_2124 (fun y9 H locs hy9 G => ?_)
    subst hy9
    refine lv_istore (lv' := [(6, _), (5, .int (iZ (1))), (0, .ref t), (1, .ref o), (2, .ref u), (3, .ref w), (4, .int (iZ (x)))]) C.1 C.2.1 dL_law_2127 hl (by decide) rfl (fun ls hl => ?_)
    refine lv_goto (tgt := 2172) C.1 C.2.1 dL_law_2129 (by decide) ?_
    exact kk _ _ _ _ _ _ _ _ _ _ _ _ G (by omega) (by omega) (lv_sub hl [2, 3, 4, 5, 6] rfl)
set_option maxHeartbeats 4000000 in
set_option maxRecDepth 100000 in
theorem lk_44 (hlq : l.stackTraces = false) (C : CallFix p m c0 cL_law 7 s args T0 RL) (Z : zLw D cB t N g s) (Y : zAd o a u v w s) {c : Nat → Nat} {ac re kn : Int32} {th : Int} {n : Int64} {sv : Value} {H : Heap} {locs : List Loc} {ls : Array Slot} {cells slots : Nat} (G : zG D cJ o a u v w c [.int ac, .int re, .int kn] c [.int (iZ th), .int ac, .int re, .int kn] n sv s H locs) (x : Int) (hx : 0 ≤ x ∧ x + 5 ≤ (N : Int)) (hf : cells + 150 ≤ 665281 ∧ slots + 75000 ≤ 7105636) (hl : lv_has ls 7 [(0, .ref t), (1, .ref o), (2, .ref u), (3, .ref w), (4, .int (iZ (x)))])
    (kk : zNx p l e s m args below meth c0 D cJ t o a u v w x cells slots Qw 2172) : W p l e room_1 s m args below meth c0 H locs cells slots Qw (F0 m 2132 ls []) := by
  have hc := G.1.2.2.2
  refine lv_aload_n C.1 C.2.1 dL_law_2132 rfl (lv_at hl 1 rfl) ?_
  refine zd_X (as := []) C Y G (c_X3_knock l D cJ o a _ _ _ _) ml_L_312 rfl ⟨Nat.le_of_ble_eq_true rfl, Nat.le_of_ble_eq_true rfl⟩ ⟨by show cells + 0 + 0 ≤ 665281; omega, by show slots + 0 + 0 ≤ 7105636; omega⟩ hl (Nat.le_of_ble_eq_true rfl) rfl dL_law_2133 (fun y9 H locs hy9 G => ?_)
  subst hy9
  refine lv_pop C.1 C.2.1 dL_law_2136 rfl ?_
  refine lv_aload_n C.1 C.2.1 dL_law_2137 rfl (lv_at hl 2 rfl) ?_
  refine zd_M (as := []) C Y G (c_X5_knock l D cJ u v _ _ _ _ _) ml_L_316 rfl ⟨Nat.le_of_ble_eq_true rfl, Nat.le_of_ble_eq_true rfl⟩ ⟨by show cells + 0 + 0 ≤ 665281; omega, by show slots + 0 + 0 ≤ 7105636; omega⟩ hl (Nat.le_of_ble_eq_true rfl) rfl dL_law_2138 (fun y9 H locs hy9 G => ?_)
  subst hy9
  refine lv_pop C.1 C.2.1 dL_law_2141 rfl ?_
  refine lv_goto (tgt := 2172) C.1 C.2.1 dL_law_2142 (by decide) ?_
  exact kk _ _ _ _ _ _ _ _ _ _ _ _ G (by omega) (by omega) (lv_sub hl [0, 1, 2, 3, 4] rfl)
set_option maxHeartbeats 4000000 in
set_option maxRecDepth 100000 in
theorem lk_45 (hlq : l.stackTraces = false) (C : CallFix p m c0 cL_law 7 s args T0 RL) (Z : zLw D cB t N g s) (Y : zAd o a u v w s) {c : Nat → Nat} {ac re kn : Int32} {th : Int} {n : Int64} {sv : Value} {H : Heap} {locs : List Loc} {ls : Array Slot} {cells slots : Nat} (G : zG D cJ o a u v w c [.int ac, .int re, .int kn] c [.int (iZ th), .int ac, .int re, .int kn] n sv s H locs) (x : Int) (hx : 0 ≤ x ∧ x + 5 ≤ (N : Int)) (hf : cells + 150 ≤ 665281 ∧ slots + 75000 ≤ 7105636) (hl : lv_has ls 7 [(0, .ref t), (1, .ref o), (2, .ref u), (3, .ref w), (4, .int (iZ (x)))])
    (kk : zNx p l e s m args below meth c0 D cJ t o a u v w x cells slots Qw 2172) : W p l e room_1 s m args below meth c0 H locs cells slots Qw (F0 m 2145 ls []) := by
  have hc := G.1.2.2.2
  refine lv_aload_n C.1 C.2.1 dL_law_2145 rfl (lv_at hl 1 rfl) ?_
  refine zd_X (as := []) C Y G (c_X3_isSound l D cJ o a _ _ _ _) ml_L_317 rfl ⟨Nat.le_of_ble_eq_true rfl, Nat.le_of_ble_eq_true rfl⟩ ⟨by show cells + 0 + 0 ≤ 665281; omega, by show slots + 0 + 0 ≤ 7105636; omega⟩ hl (Nat.le_of_ble_eq_true rfl) rfl dL_law_2146 (fun y9 H locs hy9 G => ?_)
  subst hy9
  refine lv_pop C.1 C.2.1 dL_law_2149 rfl ?_
  refine lv_aload_n C.1 C.2.1 dL_law_2150 rfl (lv_at hl 2 rfl) ?_
  refine zd_M (as := []) C Y G (c_X5_isSound l D cJ u v _ _ _ _ _) ml_L_321 rfl ⟨Nat.le_of_ble_eq_true rfl, Nat.le_of_ble_eq_true rfl⟩ ⟨by show cells + 0 + 0 ≤ 665281; omega, by show slots + 0 + 0 ≤ 7105636; omega⟩ hl (Nat.le_of_ble_eq_true rfl) rfl dL_law_2151 (fun y9 H locs hy9 G => ?_)
  subst hy9
  refine lv_pop C.1 C.2.1 dL_law_2154 rfl ?_
  refine lv_goto (tgt := 2172) C.1 C.2.1 dL_law_2155 (by decide) ?_
  exact kk _ _ _ _ _ _ _ _ _ _ _ _ G (by omega) (by omega) (lv_sub hl [0, 1, 2, 3, 4] rfl)
set_option maxHeartbeats 4000000 in
set_option maxRecDepth 100000 in
theorem lk_46 (hlq : l.stackTraces = false) (C : CallFix p m c0 cL_law 7 s args T0 RL) (Z : zLw D cB t N g s) (Y : zAd o a u v w s) {c : Nat → Nat} {ac re kn : Int32} {th : Int} {n : Int64} {sv : Value} {H : Heap} {locs : List Loc} {ls : Array Slot} {cells slots : Nat} (G : zG D cJ o a u v w c [.int ac, .int re, .int kn] c [.int (iZ th), .int ac, .int re, .int kn] n sv s H locs) (x : Int) (hx : 0 ≤ x ∧ x + 5 ≤ (N : Int)) (hf : cells + 150 ≤ 665281 ∧ slots + 75000 ≤ 7105636) (hl : lv_has ls 7 [(0, .ref t), (1, .ref o), (2, .ref u), (3, .ref w), (4, .int (iZ (x)))])
    (kk : zNx p l e s m args below meth c0 D cJ t o a u v w x cells slots Qw 2172) : W p l e room_1 s m args below meth c0 H locs cells slots Qw (F0 m 2158 ls []) := by
  have hc := G.1.2.2.2
  refine lv_aload_n C.1 C.2.1 dL_law_2158 rfl (lv_at hl 1 rfl) ?_
  refine zd_X (as := []) C Y G (c_X3_digest l D cJ o a _ _ _ _) ml_L_322 rfl ⟨Nat.le_of_ble_eq_true rfl, Nat.le_of_ble_eq_true rfl⟩ ⟨by show cells + 0 + 0 ≤ 665281; omega, by show slots + 0 + 0 ≤ 7105636; omega⟩ hl (Nat.le_of_ble_eq_true rfl) rfl dL_law_2159 (fun y9 H locs hy9 G => ?_)
  subst hy9
  refine lv_aload_n C.1 C.2.1 dL_law_2162 rfl (lv_at hl 2 rfl) ?_
  refine zd_M (as := []) C Y G (c_X5_digest l D cJ u v _ _ _ _ _) ml_L_326 rfl ⟨Nat.le_of_ble_eq_true rfl, Nat.le_of_ble_eq_true rfl⟩ ⟨by show cells + 0 + 0 ≤ 665281; omega, by show slots + 0 + 0 ≤ 7105636; omega⟩ hl (Nat.le_of_ble_eq_true rfl) rfl dL_law_2163 (fun y9 H locs hy9 G => ?_)
  subst hy9
  refine zd_lceq (tgt := 2172) C (by exact dgs_eq hc _ _ _) dL_law_2166 dL_law_2167 (by decide) ?_
  exact kk _ _ _ _ _ _ _ _ _ _ _ _ G (by omega) (by omega) (lv_sub hl [0, 1, 2, 3, 4] rfl)
end LC
